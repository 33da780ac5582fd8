/-! The reference's rows of numbers as functions: polynomials emptied, copied, negated, their degrees. -/
def jV (bg : Nat → Int32) (V : Nat → Int) : Prop := ∀ s, s < 665 → jrs bg s (V s)
def jvu (V : Nat → Int) (s : Nat) (v : Int) : Nat → Int := fun x => if x = s then v else V x
theorem jV.up {bg bg' : Nat → Int32} {V : Nat → Int} {s : Nat} {v : Int} (h : jV bg V) (h1 : jrs bg' s v) (h2 : jrf bg bg' s) : jV bg' (jvu V s v) := fun x hx => by
  unfold jvu
  by_cases e : x = s
  · subst e; rw [if_pos rfl]; exact h1
  · rw [if_neg e]; exact jrs_keep (h x hx) h2 e
theorem jV.to {bg : Nat → Int32} {V W : Nat → Int} (h : jV bg V) (e : W = V) : jV bg W := by rw [e]; exact h
/-- the first k coefficients of the polynomial p are w's -/
def jfl (V : Nat → Int) (p : Nat) (w : Nat → Int) (k : Nat) : Nat → Int := fun s => if p * 13 ≤ s ∧ s < p * 13 + k then w (s - p * 13) else V s
theorem jfl_zero (V : Nat → Int) (p : Nat) (w : Nat → Int) : jfl V p w 0 = V := funext fun s => if_neg (by omega)
theorem jfl_succ (V : Nat → Int) (p : Nat) (w : Nat → Int) (k : Nat) : jfl V p w (k + 1) = jvu (jfl V p w k) (p * 13 + k) (w k) := funext fun s => by
  unfold jfl jvu
  by_cases e : s = p * 13 + k
  · subst e
    rw [if_pos (by omega), if_pos rfl, show p * 13 + k - p * 13 = k by omega]
  · rw [if_neg e]
    show _ = (if p * 13 ≤ s ∧ s < p * 13 + k then w (s - p * 13) else V s)
    by_cases c : p * 13 ≤ s ∧ s < p * 13 + k
    · rw [if_pos c, if_pos (by omega)]
    · rw [if_neg c, if_neg (by omega)]
theorem jfl_at (V : Nat → Int) (p : Nat) (w : Nat → Int) {k e : Nat} (h : e < k) : jfl V p w k (p * 13 + e) = w e := by
  unfold jfl
  rw [if_pos (by omega), show p * 13 + e - p * 13 = e by omega]
theorem jfl_off (V : Nat → Int) (p : Nat) (w : Nat → Int) {k s : Nat} (h : s < p * 13 ∨ p * 13 + k ≤ s) : jfl V p w k s = V s := by
  unfold jfl
  rw [if_neg (by omega)]
/-- the degree and 1 more: all coefficients from there on are 0, the one below is not -/
def jdg (V : Nat → Int) (p : Nat) : Nat → Nat
  | 0 => 0
  | k + 1 => if V (p * 13 + k) = 0 then jdg V p k else k + 1
theorem jdg_le (V : Nat → Int) (p : Nat) : ∀ k, jdg V p k ≤ k
  | 0 => Nat.le_refl _
  | k + 1 => by
    unfold jdg
    split
    · have := jdg_le V p k; omega
    · exact Nat.le_refl _
theorem jdg_zero (V : Nat → Int) (p : Nat) : ∀ k i, jdg V p k ≤ i → i < k → V (p * 13 + i) = 0
  | 0, i, _, h => by omega
  | k + 1, i, h1, h2 => by
    unfold jdg at h1
    split at h1
    · rename_i e
      by_cases c : i = k
      · rw [c]; exact e
      · exact jdg_zero V p k i h1 (by omega)
    · omega
theorem jdg_ne (V : Nat → Int) (p : Nat) : ∀ k, 1 ≤ jdg V p k → V (p * 13 + (jdg V p k - 1)) ≠ 0
  | 0, h => by simp [jdg] at h
  | k + 1, h => by
    unfold jdg at h ⊢
    split
    · rename_i e
      rw [if_pos e] at h
      exact jdg_ne V p k h
    · rename_i e
      exact e
/-- the reference in a heap: its numbers are V -/
def jS (hp : mj_H) (q1 q2 q3 : Nat) (V : Nat → Int) (h : mj_H) : Prop := ∃ (bg : Nat → Int32) (ov db : Nat → Value), jV bg V ∧ h = jZ hp q1 q2 q3 bg ov db
section JP
variable {D : Nat} {hp h : mj_H} {q0 q1 q2 q3 : Nat} {fs : List Value} {V : Nat → Int}
theorem jS_a (G : jG hp q0 q1 q2 q3 fs) (hs : jS hp q1 q2 q3 V h) : h[q0]? = some (.inr (10, fs)) := by
  obtain ⟨bg, ov, db, _, rfl⟩ := hs
  exact jX_a (jE_c (jG_e G _) _)
theorem jS_len (G : jG hp q0 q1 q2 q3 fs) (hs : jS hp q1 q2 q3 V h) : h.length = hp.length := by
  obtain ⟨bg, ov, db, _, rfl⟩ := hs
  simp
theorem jS.to {W : Nat → Int} (hs : jS hp q1 q2 q3 V h) (e : W = V) : jS hp q1 q2 q3 W h := by rw [e]; exact hs
theorem jS_sets (G : jG hp q0 q1 q2 q3 fs) {s : Nat} {v : Int} (hl : s < 665) (hv : jR v) (hs : jS hp q1 q2 q3 V h) : mj_Ok (D + 1) 181 [.ref q0, .int (jn (s : Nat)), .long (jl v)] h (fun r => ∃ h', jS hp q1 q2 q3 (jvu V s v) h' ∧ r = (.inl none, h')) := by
  obtain ⟨bg, ov, db, k, rfl⟩ := hs
  refine (jq_sets (D := D) (jE_c (jG_e G _) _) hl hv).to (fun r hq => ?_)
  obtain ⟨b1, c1, c2, e⟩ := hq
  exact ⟨_, ⟨b1, ov, db, k.up c1 c2, rfl⟩, e⟩
theorem jS_copies (G : jG hp q0 q1 q2 q3 fs) {to s : Nat} (ht : to < 665) (hl : s < 665) (hs : jS hp q1 q2 q3 V h) : mj_Ok (D + 2) 182 [.ref q0, .int (jn (to : Nat)), .int (jn (s : Nat))] h (fun r => ∃ h', jS hp q1 q2 q3 (jvu V to (V s)) h' ∧ r = (.inl none, h')) := by
  obtain ⟨bg, ov, db, k, rfl⟩ := hs
  refine (jq_copies (D := D) (jE_c (jG_e G _) _) ht hl (k s hl)).to (fun r hq => ?_)
  obtain ⟨b1, c1, c2, e⟩ := hq
  exact ⟨_, ⟨b1, ov, db, k.up c1 c2, rfl⟩, e⟩
theorem jS_sign (G : jG hp q0 q1 q2 q3 fs) {s : Nat} (hl : s < 665) (hs : jS hp q1 q2 q3 V h) : mj_Ok (D + 1) 178 [.ref q0, .int (jn (s : Nat))] h (fun r => r = (.inl (some (.int (jn (jsg (V s))))), h)) := by
  obtain ⟨bg, ov, db, k, rfl⟩ := hs
  exact jq_sign (jX_a (jE_c (jG_e G _) _)) G.1.1.2.1 (jX_b (jE_c (jG_e G _) _)) hl (k s hl)
theorem jS_length (G : jG hp q0 q1 q2 q3 fs) {s : Nat} (hl : s < 665) (hs : jS hp q1 q2 q3 V h) : mj_Ok (D + 1) 179 [.ref q0, .int (jn (s : Nat))] h (fun r => r = (.inl (some (.int (jn (jnl (V s).natAbs : Nat)))), h)) := by
  obtain ⟨bg, ov, db, k, rfl⟩ := hs
  exact jq_length (jX_a (jE_c (jG_e G _) _)) G.1.1.2.1 (jX_b (jE_c (jG_e G _) _)) hl (k s hl)
theorem jS_limb (G : jG hp q0 q1 q2 q3 fs) {s j : Nat} (hl : s < 665) (hj : j ≤ 700) (hs : jS hp q1 q2 q3 V h) : mj_Ok (D + 2) 180 [.ref q0, .int (jn (s : Nat)), .int (jn (j : Nat))] h (fun r => r = (.inl (some (.int (jn (jlb (V s).natAbs j : Nat)))), h)) := by
  obtain ⟨bg, ov, db, k, rfl⟩ := hs
  exact jq_limb (D := D) (jX_a (jE_c (jG_e G _) _)) G.1.1.2.1 (jX_b (jE_c (jG_e G _) _)) hl hj (k s hl)
theorem jS_cmp (G : jG hp q0 q1 q2 q3 fs) {s t : Nat} (hl : s < 665) (ht : t < 665) (hs : jS hp q1 q2 q3 V h) : mj_Ok (D + 3) 184 [.ref q0, .int (jn (s : Nat)), .int (jn (t : Nat))] h (fun r => r = (.inl (some (.int (jn (jcm (V s).natAbs (V t).natAbs)))), h)) := by
  obtain ⟨bg, ov, db, k, rfl⟩ := hs
  exact jq_cmp (D := D) (jE_c (jG_e G _) _) hl ht (k s hl) (k t ht)
theorem jS_adds (G : jG hp q0 q1 q2 q3 fs) {to a b : Nat} {f : Int} (hto : to < 665) (ha : a < 665) (hb : b < 665) (hf : f = 1 ∨ f = -1) (hz : jnl (V a + f * V b).natAbs ≤ 698) (hs : jS hp q1 q2 q3 V h) : mj_Ok (D + 4) 188 [.ref q0, .int (jn (to : Nat)), .int (jn (a : Nat)), .int (jn (b : Nat)), .int (jn f)] h (fun r => ∃ h', jS hp q1 q2 q3 (jvu V to (V a + f * V b)) h' ∧ r = (.inl none, h')) := by
  obtain ⟨bg, ov, db, k, rfl⟩ := hs
  refine (jq_adds (D := D) (jE_c (jG_e G _) _) hto ha hb hf (k a ha) (k b hb) hz).to (fun r hq => ?_)
  obtain ⟨b1, c1, c2, e⟩ := hq
  exact ⟨_, ⟨b1, ov, db, k.up c1 c2, rfl⟩, e⟩
theorem jS_mul (G : jG hp q0 q1 q2 q3 fs) {to a b : Nat} (hto : to < 665) (ha : a < 665) (hb : b < 665) (hz : jnl (V a * V b).natAbs ≤ 698) (hs : jS hp q1 q2 q3 V h) : mj_Ok (D + 2) 189 [.ref q0, .int (jn (to : Nat)), .int (jn (a : Nat)), .int (jn (b : Nat))] h (fun r => ∃ h', jS hp q1 q2 q3 (jvu V to (V a * V b)) h' ∧ r = (.inl none, h')) := by
  obtain ⟨bg, ov, db, k, rfl⟩ := hs
  refine (jq_mul (D := D) (jG_e G _) hto ha hb (k a ha) (k b hb) hz).to (fun r hq => ?_)
  obtain ⟨b1, o1, c1, c2, e⟩ := hq
  exact ⟨_, ⟨b1, o1, db, k.up c1 c2, rfl⟩, e⟩
theorem jS_cuts (G : jG hp q0 q1 q2 q3 fs) {q r a b : Nat} (hq : q < 665) (hr : r < 665) (ha : a < 665) (hb : b < 665) (n1 : q ≠ r) (n2 : q ≠ a) (n3 : q ≠ b) (n4 : r ≠ a) (hv0 : V b ≠ 0) (hs : jS hp q1 q2 q3 V h) : mj_Ok (D + 4) 191 [.ref q0, .int (jn (q : Nat)), .int (jn (r : Nat)), .int (jn (a : Nat)), .int (jn (b : Nat))] h (fun z => ∃ h', jS hp q1 q2 q3 (jvu (jvu V q ((V a).tdiv (V b))) r ((V a).tmod (V b))) h' ∧ z = (.inl none, h')) := by
  obtain ⟨bg, ov, db, k, rfl⟩ := hs
  refine (jq_cuts (D := D) G hq hr ha hb n1 n2 n3 n4 (k a ha) (k b hb) hv0).to (fun z hz => ?_)
  obtain ⟨b1, o1, d1, c1, c2, c3, e⟩ := hz
  refine ⟨_, ⟨b1, o1, d1, fun s hs => ?_, rfl⟩, e⟩
  unfold jvu
  by_cases e1 : s = r
  · subst e1; rw [if_pos rfl]; exact c2
  · rw [if_neg e1]
    by_cases e2 : s = q
    · subst e2; rw [if_pos rfl]; exact c1
    · rw [if_neg e2]
      exact c3 s _ e2 e1 (k s hs)
theorem jp_empties_loop (G : jG hp q0 q1 q2 q3 fs) {p : Nat} (hpp : p ≤ 50) {Q : mj_R → Prop} (hend : ∀ h, jS hp q1 q2 q3 (jfl V p (fun _ => 0) 13) h → Q (.inl none, h)) :
    ∀ (d k : Nat) (h : mj_H), k + d = 13 → jS hp q1 q2 q3 (jfl V p (fun _ => 0) k) h → mj_T (D + 1) mj_m198 2 [some (.ref q0), some (.int (jn (p : Nat))), some (.int (jn (k : Nat)))] [] h Q := by
  intro d
  induction d with
  | zero =>
    intro k h hk hs
    have hk : k = 13 := by omega
    subst hk
    iterate 2 refine mj_T.pl rfl rfl rfl rfl ?_
    refine mj_T.icmp (a := ((13 : Nat) : Int)) (b := 13) rfl ⟨by decide, by decide⟩ ⟨by decide, by decide⟩ (fun hc => ?_) (fun hc => ?_)
    · exact mj_T.ret rfl rfl rfl (hend h hs)
    · simp [jc] at hc
  | succ d ih =>
    intro k h hk hs
    iterate 2 refine mj_T.pl rfl rfl rfl rfl ?_
    refine mj_T.icmp (a := (k : Int)) (b := 13) rfl ⟨by omega, by omega⟩ ⟨by decide, by decide⟩ (fun hc => ?_) (fun hc => ?_)
    · simp only [jc, decide_eq_true_eq] at hc
      omega
    · iterate 3 refine mj_T.pl rfl rfl rfl rfl ?_
      refine mj_T.call (ins := .invokestatic 104) rfl rfl (Nat.le_of_ble_eq_true rfl) (Nat.le_of_ble_eq_true rfl) rfl rfl (jq_slot (D := D) (p := p) (i := k)) (fun v' h' hq' => ?_) (fun i h' hq' => by cases hq')
      cases hq'
      refine mj_T.pl rfl rfl rfl rfl ?_
      refine mj_T.call (ins := .invokevirtual 45) rfl rfl (Nat.le_of_ble_eq_true rfl) (Nat.le_of_ble_eq_true rfl) (by simp [mj_recv, jS_a G hs]) rfl (jS_sets (D := D) G (s := p * 13 + k) (v := 0) (by omega) ⟨by decide, by decide⟩ hs) (fun v' h1 hq' => ?_) (fun i h' hq' => by obtain ⟨_, _, h⟩ := hq'; cases h)
      obtain ⟨_, hs1, hq'⟩ := hq'
      cases hq'
      refine mj_T.iinc (a := k) rfl rfl ?_
      refine mj_T.pl rfl rfl rfl rfl ?_
      exact ih (k + 1) h1 (by omega) (hs1.to (jfl_succ _ _ _ _))
theorem jp_empties (G : jG hp q0 q1 q2 q3 fs) {p : Nat} (hpp : p ≤ 50) (hs : jS hp q1 q2 q3 V h) : mj_Ok (D + 2) 198 [.ref q0, .int (jn (p : Nat))] h (fun r => ∃ h', jS hp q1 q2 q3 (jfl V p (fun _ => 0) 13) h' ∧ r = (.inl none, h')) := by
  refine mj_Ok.of (M := mj_m198) rfl rfl rfl ?_
  iterate 2 refine mj_T.pl rfl rfl rfl rfl ?_
  exact jp_empties_loop (D := D) G hpp (fun h k => ⟨h, k, rfl⟩) 13 0 h rfl (hs.to (jfl_zero _ _ _))
theorem jp_copies_loop (G : jG hp q0 q1 q2 q3 fs) {p q : Nat} (hpp : p ≤ 50) (hqq : q ≤ 50) (hne : p ≠ q) {Q : mj_R → Prop} (hend : ∀ h, jS hp q1 q2 q3 (jfl V p (fun e => V (q * 13 + e)) 13) h → Q (.inl none, h)) :
    ∀ (d k : Nat) (h : mj_H), k + d = 13 → jS hp q1 q2 q3 (jfl V p (fun e => V (q * 13 + e)) k) h → mj_T (D + 2) mj_m200 2 [some (.ref q0), some (.int (jn (p : Nat))), some (.int (jn (q : Nat))), some (.int (jn (k : Nat)))] [] h Q := by
  intro d
  induction d with
  | zero =>
    intro k h hk hs
    have hk : k = 13 := by omega
    subst hk
    iterate 2 refine mj_T.pl rfl rfl rfl rfl ?_
    refine mj_T.icmp (a := ((13 : Nat) : Int)) (b := 13) rfl ⟨by decide, by decide⟩ ⟨by decide, by decide⟩ (fun hc => ?_) (fun hc => ?_)
    · exact mj_T.ret rfl rfl rfl (hend h hs)
    · simp [jc] at hc
  | succ d ih =>
    intro k h hk hs
    iterate 2 refine mj_T.pl rfl rfl rfl rfl ?_
    refine mj_T.icmp (a := (k : Int)) (b := 13) rfl ⟨by omega, by omega⟩ ⟨by decide, by decide⟩ (fun hc => ?_) (fun hc => ?_)
    · simp only [jc, decide_eq_true_eq] at hc
      omega
    · iterate 3 refine mj_T.pl rfl rfl rfl rfl ?_
      refine mj_T.call (ins := .invokestatic 104) rfl rfl (Nat.le_of_ble_eq_true rfl) (Nat.le_of_ble_eq_true rfl) rfl rfl (jq_slot (D := D + 1) (p := p) (i := k)) (fun v' h' hq' => ?_) (fun i h' hq' => by cases hq')
      cases hq'
      iterate 2 refine mj_T.pl rfl rfl rfl rfl ?_
      refine mj_T.call (ins := .invokestatic 104) rfl rfl (Nat.le_of_ble_eq_true rfl) (Nat.le_of_ble_eq_true rfl) rfl rfl (jq_slot (D := D + 1) (p := q) (i := k)) (fun v' h' hq' => ?_) (fun i h' hq' => by cases hq')
      cases hq'
      refine mj_T.call (ins := .invokevirtual 84) rfl rfl (Nat.le_of_ble_eq_true rfl) (Nat.le_of_ble_eq_true rfl) (by simp [mj_recv, jS_a G hs]) rfl (jS_copies (D := D) G (to := p * 13 + k) (s := q * 13 + k) (by omega) (by omega) hs) (fun v' h1 hq' => ?_) (fun i h' hq' => by obtain ⟨_, _, h⟩ := hq'; cases h)
      obtain ⟨_, hs1, hq'⟩ := hq'
      cases hq'
      refine mj_T.iinc (a := k) rfl rfl ?_
      refine mj_T.pl rfl rfl rfl rfl ?_
      refine ih (k + 1) h1 (by omega) (hs1.to ?_)
      rw [jfl_succ, jfl_off V p _ (s := q * 13 + k) (by omega)]
theorem jp_copiesPoly (G : jG hp q0 q1 q2 q3 fs) {p q : Nat} (hpp : p ≤ 50) (hqq : q ≤ 50) (hne : p ≠ q) (hs : jS hp q1 q2 q3 V h) : mj_Ok (D + 3) 200 [.ref q0, .int (jn (p : Nat)), .int (jn (q : Nat))] h (fun r => ∃ h', jS hp q1 q2 q3 (jfl V p (fun e => V (q * 13 + e)) 13) h' ∧ r = (.inl none, h')) := by
  refine mj_Ok.of (M := mj_m200) rfl rfl rfl ?_
  iterate 2 refine mj_T.pl rfl rfl rfl rfl ?_
  exact jp_copies_loop (D := D) G hpp hqq hne (fun h k => ⟨h, k, rfl⟩) 13 0 h rfl (hs.to (jfl_zero _ _ _))
theorem jp_degree_loop (G : jG hp q0 q1 q2 q3 fs) {p : Nat} (hpp : p ≤ 50) (hs : jS hp q1 q2 q3 V h) {Q : mj_R → Prop} (hend : Q (.inl (some (.int (jn ((jdg V p 13 : Int) - 1)))), h)) :
    ∀ k : Nat, k ≤ 13 → jdg V p k = jdg V p 13 → mj_T (D + 1) mj_m197 3 [some (.ref q0), some (.int (jn (p : Nat))), some (.int (jn ((k : Int) - 1)))] [] h Q := by
  intro k
  induction k with
  | zero =>
    intro _ hk
    refine mj_T.pl rfl rfl rfl rfl ?_
    refine mj_T.if0 rfl ⟨by omega, by omega⟩ (fun hc => ?_) (fun hc => ?_)
    · refine mj_T.pl rfl rfl rfl rfl ?_
      rw [← hk] at hend
      exact mj_T.ret rfl rfl rfl hend
    · simp only [jc, decide_eq_false_iff_not] at hc
      omega
  | succ k ih =>
    intro hk1 hk
    rw [show ((k + 1 : Nat) : Int) - 1 = (k : Int) by omega]
    refine mj_T.pl rfl rfl rfl rfl ?_
    refine mj_T.if0 rfl ⟨by omega, by omega⟩ (fun hc => ?_) (fun hc => ?_)
    · simp only [jc, decide_eq_true_eq] at hc
      omega
    · iterate 3 refine mj_T.pl rfl rfl rfl rfl ?_
      refine mj_T.call (ins := .invokestatic 104) rfl rfl (Nat.le_of_ble_eq_true rfl) (Nat.le_of_ble_eq_true rfl) rfl rfl (jq_slot (D := D) (p := p) (i := k)) (fun v' h' hq' => ?_) (fun i h' hq' => by cases hq')
      cases hq'
      refine mj_T.call (ins := .invokevirtual 68) rfl rfl (Nat.le_of_ble_eq_true rfl) (Nat.le_of_ble_eq_true rfl) (by simp [mj_recv, jS_a G hs]) rfl (jS_sign (D := D) G (s := p * 13 + k) (by omega) hs) (fun v' h' hq' => ?_) (fun i h' hq' => by cases hq')
      cases hq'
      have hsr := jsg_range (V (p * 13 + k))
      unfold jdg at hk
      refine mj_T.if0 rfl ⟨by omega, by omega⟩ (fun hc => ?_) (fun hc => ?_)
      · simp only [jc, Bool.not_eq_true', decide_eq_false_iff_not] at hc
        have hv : V (p * 13 + k) ≠ 0 := fun e => hc (by rw [e]; rfl)
        rw [if_neg hv] at hk
        refine mj_T.pl rfl rfl rfl rfl ?_
        have e : jdg V p 13 = k + 1 := hk.symm
        rw [e, show ((k + 1 : Nat) : Int) - 1 = (k : Int) by omega] at hend
        exact mj_T.ret rfl rfl rfl hend
      · simp only [jc, Bool.not_eq_false', decide_eq_true_eq] at hc
        have hv : V (p * 13 + k) = 0 := by
          rcases Int.lt_trichotomy (V (p * 13 + k)) 0 with c | c | c
          · rw [jsg_neg c] at hc; omega
          · exact c
          · rw [jsg_pos c] at hc; omega
        rw [if_pos hv] at hk
        refine mj_T.iinc (a := k) rfl rfl ?_
        refine mj_T.pl rfl rfl rfl rfl ?_
        exact ih (by omega) hk
theorem jp_degreeOf (G : jG hp q0 q1 q2 q3 fs) {p : Nat} (hpp : p ≤ 50) (hs : jS hp q1 q2 q3 V h) : mj_Ok (D + 2) 197 [.ref q0, .int (jn (p : Nat))] h (fun r => r = (.inl (some (.int (jn ((jdg V p 13 : Int) - 1)))), h)) := by
  refine mj_Ok.of (M := mj_m197) rfl rfl rfl ?_
  iterate 2 refine mj_T.pl rfl rfl rfl rfl ?_
  exact jp_degree_loop (D := D) G hpp hs (Q := fun r => r = (.inl (some (.int (jn ((jdg V p 13 : Int) - 1)))), h)) rfl 13 (Nat.le_refl _) rfl
end JP
