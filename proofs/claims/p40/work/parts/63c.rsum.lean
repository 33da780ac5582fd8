/-! The reference's polynomials: sums, derivatives, whether they fit. -/
section JR
variable {D : Nat} {hp h : mj_H} {q0 q1 q2 q3 : Nat} {fs : List Value} {V : Nat → Int}
theorem jp_adds_loop (G : jG hp q0 q1 q2 q3 fs) {p a b : Nat} {f : Int} (hpp : p ≤ 50) (haa : a ≤ 50) (hbb : b ≤ 50) (hf : f = 1 ∨ f = -1) (hfit : ∀ e, e < 13 → jnl (V (a * 13 + e) + f * V (b * 13 + e)).natAbs ≤ 698) {Q : mj_R → Prop} (hend : ∀ h, jS hp q1 q2 q3 (jfl V p (fun e => V (a * 13 + e) + f * V (b * 13 + e)) 13) h → Q (.inl none, h)) :
    ∀ (d k : Nat) (h : mj_H), k + d = 13 → jS hp q1 q2 q3 (jfl V p (fun e => V (a * 13 + e) + f * V (b * 13 + e)) k) h → mj_T (D + 4) mj_m201 3 [some (.ref q0), some (.int (jn (p : Nat))), some (.int (jn (a : Nat))), some (.int (jn (b : Nat))), some (.int (jn f)), some (.int (jn (k : Nat)))] [] h Q := by
  intro d
  induction d with
  | zero =>
    intro k h hk hs
    have hk : k = 13 := by omega
    subst hk
    iterate 2 refine mj_T.pl rfl rfl rfl rfl ?_
    refine mj_T.icmp (a := ((13 : Nat) : Int)) (b := 13) rfl ⟨by decide, by decide⟩ ⟨by decide, by decide⟩ (fun hc => ?_) (fun hc => ?_)
    · exact mj_T.ret rfl rfl rfl (hend h hs)
    · simp [jc] at hc
  | succ d ih =>
    intro k h hk hs
    iterate 2 refine mj_T.pl rfl rfl rfl rfl ?_
    refine mj_T.icmp (a := (k : Int)) (b := 13) rfl ⟨by omega, by omega⟩ ⟨by decide, by decide⟩ (fun hc => ?_) (fun hc => ?_)
    · simp only [jc, decide_eq_true_eq] at hc
      omega
    · have ea : jfl V p (fun e => V (a * 13 + e) + f * V (b * 13 + e)) k (a * 13 + k) = V (a * 13 + k) := jfl_off V p _ (by omega)
      have eb : jfl V p (fun e => V (a * 13 + e) + f * V (b * 13 + e)) k (b * 13 + k) = V (b * 13 + k) := jfl_off V p _ (by omega)
      iterate 3 refine mj_T.pl rfl rfl rfl rfl ?_
      refine mj_T.call (ins := .invokestatic 104) rfl rfl (Nat.le_of_ble_eq_true rfl) (Nat.le_of_ble_eq_true rfl) rfl rfl (jq_slot (D := D + 3) (p := p) (i := k)) (fun v' h' hq' => ?_) (fun i h' hq' => by cases hq')
      cases hq'
      iterate 2 refine mj_T.pl rfl rfl rfl rfl ?_
      refine mj_T.call (ins := .invokestatic 104) rfl rfl (Nat.le_of_ble_eq_true rfl) (Nat.le_of_ble_eq_true rfl) rfl rfl (jq_slot (D := D + 3) (p := a) (i := k)) (fun v' h' hq' => ?_) (fun i h' hq' => by cases hq')
      cases hq'
      iterate 2 refine mj_T.pl rfl rfl rfl rfl ?_
      refine mj_T.call (ins := .invokestatic 104) rfl rfl (Nat.le_of_ble_eq_true rfl) (Nat.le_of_ble_eq_true rfl) rfl rfl (jq_slot (D := D + 3) (p := b) (i := k)) (fun v' h' hq' => ?_) (fun i h' hq' => by cases hq')
      cases hq'
      refine mj_T.pl rfl rfl rfl rfl ?_
      refine mj_T.call (ins := .invokevirtual 107) rfl rfl (Nat.le_of_ble_eq_true rfl) (Nat.le_of_ble_eq_true rfl) (by simp [mj_recv, jS_a G hs]) rfl (jS_adds (D := D) G (to := p * 13 + k) (a := a * 13 + k) (b := b * 13 + k) (f := f) (by omega) (by omega) (by omega) hf (by rw [ea, eb]; exact hfit k (by omega)) hs) (fun v' h1 hq' => ?_) (fun i h' hq' => by obtain ⟨_, _, h⟩ := hq'; cases h)
      obtain ⟨_, hs1, hq'⟩ := hq'
      cases hq'
      refine mj_T.iinc (a := k) rfl rfl ?_
      refine mj_T.pl rfl rfl rfl rfl ?_
      refine ih (k + 1) h1 (by omega) (hs1.to ?_)
      rw [jfl_succ, ea, eb]
theorem jp_addsPoly (G : jG hp q0 q1 q2 q3 fs) {p a b : Nat} {f : Int} (hpp : p ≤ 50) (haa : a ≤ 50) (hbb : b ≤ 50) (hf : f = 1 ∨ f = -1) (hfit : ∀ e, e < 13 → jnl (V (a * 13 + e) + f * V (b * 13 + e)).natAbs ≤ 698) (hs : jS hp q1 q2 q3 V h) :
    mj_Ok (D + 5) 201 [.ref q0, .int (jn (p : Nat)), .int (jn (a : Nat)), .int (jn (b : Nat)), .int (jn f)] h (fun r => ∃ h', jS hp q1 q2 q3 (jfl V p (fun e => V (a * 13 + e) + f * V (b * 13 + e)) 13) h' ∧ r = (.inl none, h')) := by
  refine mj_Ok.of (M := mj_m201) rfl rfl rfl ?_
  iterate 2 refine mj_T.pl rfl rfl rfl rfl ?_
  exact jp_adds_loop (D := D) G hpp haa hbb hf hfit (fun h k => ⟨h, k, rfl⟩) 13 0 h rfl (hs.to (jfl_zero _ _ _))
/-- the derivative's coefficients -/
def jdv (V : Nat → Int) (a : Nat) : Nat → Int := fun e => V (a * 13 + e + 1) * ((e + 1 : Nat) : Int)
theorem jp_derives_loop (G : jG hp q0 q1 q2 q3 fs) {p a : Nat} (hpp : p ≤ 49) (haa : a ≤ 49) (hne : p ≠ a) (hfit : ∀ e, e < 12 → jnl (V (a * 13 + e + 1) * ((e + 1 : Nat) : Int)).natAbs ≤ 698) {Q : mj_R → Prop}
    (hend : ∀ (W : Nat → Int) (h : mj_H), jS hp q1 q2 q3 W h → (∀ s, s ≠ 652 → W s = jfl V p (jdv V a) 12 s) → mj_T (D + 2) mj_m206 42 [some (.ref q0), some (.int (jn (p : Nat))), some (.int (jn (a : Nat))), some (.int (jn ((13 : Nat) : Int)))] [] h Q) :
    ∀ (d k : Nat) (W : Nat → Int) (h : mj_H), k + d = 12 → jS hp q1 q2 q3 W h → (∀ s, s ≠ 652 → W s = jfl V p (jdv V a) k s) → mj_T (D + 2) mj_m206 2 [some (.ref q0), some (.int (jn (p : Nat))), some (.int (jn (a : Nat))), some (.int (jn ((k + 1 : Nat) : Int)))] [] h Q := by
  intro d
  induction d with
  | zero =>
    intro k W h hk hs hW
    have hk : k = 12 := by omega
    subst hk
    iterate 2 refine mj_T.pl rfl rfl rfl rfl ?_
    refine mj_T.icmp (a := ((12 + 1 : Nat) : Int)) (b := 12) rfl ⟨by decide, by decide⟩ ⟨by decide, by decide⟩ (fun hc => ?_) (fun hc => ?_)
    · exact hend W h hs hW
    · simp [jc] at hc
  | succ d ih =>
    intro k W h hk hs hW
    iterate 2 refine mj_T.pl rfl rfl rfl rfl ?_
    refine mj_T.icmp (a := ((k + 1 : Nat) : Int)) (b := 12) rfl ⟨by omega, by omega⟩ ⟨by decide, by decide⟩ (fun hc => ?_) (fun hc => ?_)
    · simp only [jc, decide_eq_true_eq] at hc
      omega
    · have ea : W (a * 13 + (k + 1)) = V (a * 13 + k + 1) := by
        rw [hW _ (by omega), jfl_off V p _ (by omega)]
        rfl
      iterate 3 refine mj_T.pl rfl rfl rfl rfl ?_
      refine mj_T.i2l rfl ⟨by omega, by omega⟩ ?_
      refine mj_T.call (ins := .invokevirtual 45) rfl rfl (Nat.le_of_ble_eq_true rfl) (Nat.le_of_ble_eq_true rfl) (by simp [mj_recv, jS_a G hs]) rfl (jS_sets (D := D + 1) G (s := 652) (v := ((k + 1 : Nat) : Int)) (by decide) ⟨by omega, by omega⟩ hs) (fun v' h1 hq' => ?_) (fun i h' hq' => by obtain ⟨_, _, h⟩ := hq'; cases h)
      obtain ⟨_, hs1, hq'⟩ := hq'
      cases hq'
      have e1 : jvu W 652 ((k + 1 : Nat) : Int) (a * 13 + (k + 1)) = V (a * 13 + k + 1) := by unfold jvu; rw [if_neg (by omega)]; exact ea
      have e2 : jvu W 652 ((k + 1 : Nat) : Int) 652 = ((k + 1 : Nat) : Int) := by unfold jvu; rw [if_pos rfl]
      iterate 4 refine mj_T.pl rfl rfl rfl rfl ?_
      refine mj_T.isub (a := ((k + 1 : Nat) : Int)) (b := 1) rfl ?_
      rw [show ((k + 1 : Nat) : Int) - 1 = (k : Int) by omega]
      refine mj_T.call (ins := .invokestatic 104) rfl rfl (Nat.le_of_ble_eq_true rfl) (Nat.le_of_ble_eq_true rfl) rfl rfl (jq_slot (D := D + 1) (p := p) (i := k)) (fun v' h' hq' => ?_) (fun i h' hq' => by cases hq')
      cases hq'
      iterate 2 refine mj_T.pl rfl rfl rfl rfl ?_
      refine mj_T.call (ins := .invokestatic 104) rfl rfl (Nat.le_of_ble_eq_true rfl) (Nat.le_of_ble_eq_true rfl) rfl rfl (jq_slot (D := D + 1) (p := a) (i := k + 1)) (fun v' h' hq' => ?_) (fun i h' hq' => by cases hq')
      cases hq'
      refine mj_T.pl rfl rfl rfl rfl ?_
      refine mj_T.call (ins := .invokevirtual 117) rfl rfl (Nat.le_of_ble_eq_true rfl) (Nat.le_of_ble_eq_true rfl) (by simp [mj_recv, jS_a G hs1]) rfl (jS_mul (D := D) G (to := p * 13 + k) (a := a * 13 + (k + 1)) (b := 652) (by omega) (by omega) (by decide) (by rw [e1, e2]; exact hfit k (by omega)) hs1) (fun v' h2 hq' => ?_) (fun i h' hq' => by obtain ⟨_, _, h⟩ := hq'; cases h)
      obtain ⟨_, hs2, hq'⟩ := hq'
      cases hq'
      refine mj_T.iinc (a := ((k + 1 : Nat) : Int)) rfl rfl ?_
      refine mj_T.pl rfl rfl rfl rfl ?_
      refine ih (k + 1) _ h2 (by omega) hs2 (fun s h652 => ?_)
      rw [e1, e2, jfl_succ]
      unfold jvu
      by_cases c : s = p * 13 + k
      · rw [if_pos c, if_pos c]
        rfl
      · rw [if_neg c, if_neg c, if_neg h652]
        exact hW s h652
theorem jp_derives (G : jG hp q0 q1 q2 q3 fs) {p a : Nat} (hpp : p ≤ 49) (haa : a ≤ 49) (hne : p ≠ a) (hfit : ∀ e, e < 12 → jnl (V (a * 13 + e + 1) * ((e + 1 : Nat) : Int)).natAbs ≤ 698) (hs : jS hp q1 q2 q3 V h) :
    mj_Ok (D + 3) 206 [.ref q0, .int (jn (p : Nat)), .int (jn (a : Nat))] h (fun r => ∃ (W : Nat → Int) (h' : mj_H), jS hp q1 q2 q3 W h' ∧ (∀ s, s ≠ 652 → W s = jfl V p (fun e => if e < 12 then jdv V a e else 0) 13 s) ∧ r = (.inl none, h')) := by
  refine mj_Ok.of (M := mj_m206) rfl rfl rfl ?_
  iterate 2 refine mj_T.pl rfl rfl rfl rfl ?_
  refine jp_derives_loop (D := D) G hpp haa hne hfit (fun W h1 hs1 hW => ?_) 12 0 V h rfl hs (fun s _ => by rw [jfl_zero])
  iterate 3 refine mj_T.pl rfl rfl rfl rfl ?_
  refine mj_T.call (ins := .invokestatic 104) rfl rfl (Nat.le_of_ble_eq_true rfl) (Nat.le_of_ble_eq_true rfl) rfl rfl (jq_slot (D := D + 1) (p := p) (i := 12)) (fun v' h' hq' => ?_) (fun i h' hq' => by cases hq')
  cases hq'
  refine mj_T.pl rfl rfl rfl rfl ?_
  refine mj_T.call (ins := .invokevirtual 45) rfl rfl (Nat.le_of_ble_eq_true rfl) (Nat.le_of_ble_eq_true rfl) (by simp [mj_recv, jS_a G hs1]) rfl (jS_sets (D := D + 1) G (s := p * 13 + 12) (v := 0) (by omega) ⟨by decide, by decide⟩ hs1) (fun v' h2 hq' => ?_) (fun i h' hq' => by obtain ⟨_, _, h⟩ := hq'; cases h)
  obtain ⟨_, hs2, hq'⟩ := hq'
  cases hq'
  refine mj_T.ret rfl rfl rfl ⟨_, h2, hs2, fun s h652 => ?_, rfl⟩
  unfold jvu
  by_cases c : s = p * 13 + 12
  · rw [if_pos c, c, jfl_at _ _ _ (by omega), if_neg (by omega)]
  · rw [if_neg c, hW s h652]
    unfold jfl
    by_cases c2 : p * 13 ≤ s ∧ s < p * 13 + 12
    · rw [if_pos c2, if_pos (by omega)]
      show jdv V a (s - p * 13) = (if s - p * 13 < 12 then jdv V a (s - p * 13) else 0)
      rw [if_pos (by omega)]
    · rw [if_neg c2, if_neg (by omega)]
end JR
