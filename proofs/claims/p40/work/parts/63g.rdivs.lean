/-! The reference's division with remainder: what it leaves. -/
/-- a polynomial's row -/
def jpo (V : Nat → Int) (p : Nat) : pz_P := fun e => if e < 13 then V (p * 13 + e) else 0
theorem jpo_lt (V : Nat → Int) (p : Nat) : pz_lt (jpo V p) 13 := fun i hi => by unfold jpo; rw [if_neg (by omega)]
theorem jpo_at {V : Nat → Int} {p e : Nat} (h : e < 13) : jpo V p e = V (p * 13 + e) := by unfold jpo; rw [if_pos h]
def pz_mono (s : Nat) (t : Int) : pz_P := fun i => if i = s then t else 0
theorem pz_mono_tl (s : Nat) (t : Int) : pz_tl (pz_mono (s + 1) t) = pz_mono s t := funext fun i => by
  show (if i + 1 = s + 1 then t else 0) = (if i = s then t else 0)
  by_cases c : i = s
  · rw [if_pos c, if_pos (by omega)]
  · rw [if_neg c, if_neg (by omega)]
theorem pz_mono_mul (t : Int) (f : pz_P) : ∀ (s n : Nat), pz_c n (pz_mono s t) f = if s ≤ n then t * f (n - s) else 0
  | 0, 0 => by
    rw [if_pos (Nat.le_refl _)]
    rfl
  | 0, n + 1 => by
    rw [if_pos (Nat.zero_le _)]
    show t * f (n + 1) + pz_c n (pz_tl (pz_mono 0 t)) f = t * f (n + 1)
    rw [pz_c_zeroL n (pz_tl (pz_mono 0 t)) f (fun i => by show (if i + 1 = 0 then t else 0) = 0; rw [if_neg (by omega)])]
    omega
  | s + 1, 0 => by
    rw [if_neg (by omega)]
    show (if 0 = s + 1 then t else 0) * f 0 = 0
    rw [if_neg (by omega), Int.zero_mul]
  | s + 1, n + 1 => by
    show (if 0 = s + 1 then t else 0) * f (n + 1) + pz_c n (pz_tl (pz_mono (s + 1) t)) f = _
    rw [if_neg (by omega), Int.zero_mul, pz_mono_tl, pz_mono_mul t f s n]
    by_cases c : s ≤ n
    · rw [if_pos c, if_pos (by omega), show n + 1 - (s + 1) = n - s by omega]
      omega
    · rw [if_neg c, if_neg (by omega)]
      rfl
theorem jdv_next {P B q r q' r' : pz_P} {c lc t : Int} {m : Nat} (h : pz_sc c P = pz_add (pz_mul q B) r) (hq : q' = pz_add (pz_sc lc q) (pz_mono m t)) (hr : r' = pz_add (pz_sc lc r) (pz_sc (-1) (pz_mul (pz_mono m t) B))) : pz_sc (lc * c) P = pz_add (pz_mul q' B) r' := by
  have e1 : pz_sc (lc * c) P = pz_sc lc (pz_sc c P) := (pz_sc_sc lc c P).symm
  rw [e1, h, hq, hr, pz_mul_addL, pz_mul_scL]
  funext i
  show lc * (pz_mul q B i + r i) = (lc * pz_mul q B i + pz_mul (pz_mono m t) B i) + (lc * r i + -1 * pz_mul (pz_mono m t) B i)
  rw [Int.mul_add]
  omega
theorem jnl_of_lt {z : Int} {M : Nat} (h : z.natAbs ≤ M) (hM : M < jB ^ 698) : jnl z.natAbs ≤ 698 := jnl_le_lt.mpr (by omega)
section JDW
variable {D : Nat} {hp h : mj_H} {q0 q1 q2 q3 : Nat} {fs : List Value} {V : Nat → Int} {a b db n : Nat}
theorem jp_dv (G : jG hp q0 q1 q2 q3 fs) {lc : Int} {al be : Nat} (hb : b ≤ 49) (hb2 : b ≠ 2) (hb3 : b ≠ 3) (hdb : jdg V b 13 = db + 1) (hlc : V (b * 13 + db) = lc) (hn : db + n ≤ 13) (hbe : ∀ e, e < 13 → (V (b * 13 + e)).natAbs ≤ be) (hbe1 : 1 ≤ be) (hfit : al * (2 * be) ^ n < jB ^ 698) {Q : mj_R → Prop}
    (hend : ∀ (W : Nat → Int) (h : mj_H), jS hp q1 q2 q3 W h → (∀ s, (s < 26 ∨ 52 ≤ s) → s ≠ 652 → s ≠ 654 → W s = V s) → pz_sc (lc ^ n) (jpo V a) = pz_add (pz_mul (jpo W 2) (jpo V b)) (jpo W 3) → (∀ e, db ≤ e → e < 13 → W (3 * 13 + e) = 0) → (∀ e, e < 13 → (W (2 * 13 + e)).natAbs ≤ al * (2 * be) ^ n ∧ (W (3 * 13 + e)).natAbs ≤ al * (2 * be) ^ n) → Q (.inl (some (.int (jn (n : Nat)))), h)) :
    ∀ (m : Nat) (W : Nat → Int) (h : mj_H) (e9 : Option Value), m ≤ n → jS hp q1 q2 q3 W h → (∀ s, (s < 26 ∨ 52 ≤ s) → s ≠ 652 → s ≠ 654 → W s = V s) → pz_sc (lc ^ (n - m)) (jpo V a) = pz_add (pz_mul (jpo W 2) (jpo V b)) (jpo W 3) → (∀ e, db + m ≤ e → e < 13 → W (3 * 13 + e) = 0) → (∀ e, e < 13 → (W (2 * 13 + e)).natAbs ≤ al * (2 * be) ^ (n - m) ∧ (W (3 * 13 + e)).natAbs ≤ al * (2 * be) ^ (n - m)) →
      mj_T (D + 4) mj_m211 51 [some (.ref q0), some (.int (jn ((2 : Nat) : Int))), some (.int (jn ((3 : Nat) : Int))), some (.int (jn (a : Nat))), some (.int (jn (b : Nat))), some (.int (jn (db : Nat))), some (.int (jn (n : Nat))), some (.int (jn ((m : Nat) : Int))), some (.int (jn (((db + m : Nat) : Int) - 1))), e9] [] h Q := by
  have hdb13 : db < 13 := by have := jdg_le V b 13; omega
  have hB0 : ∀ e, db < e → jpo V b e = 0 := fun e he => by
    unfold jpo
    split
    · exact jdg_zero V b 13 e (by omega) (by omega)
    · rfl
  have hlcb : lc.natAbs ≤ be := by rw [← hlc]; exact hbe db hdb13
  intro m
  induction m with
  | zero =>
    intro W h e9 hm hs hf hrel hz hbd
    iterate 2 refine mj_T.pl rfl rfl rfl rfl ?_
    refine mj_T.icmp (a := ((db + 0 : Nat) : Int) - 1) (b := (db : Int)) rfl ⟨by omega, by omega⟩ ⟨by omega, by omega⟩ (fun hc => ?_) (fun hc => ?_)
    · refine mj_T.pl rfl rfl rfl rfl ?_
      exact mj_T.ret rfl rfl rfl (hend W h hs hf hrel (fun e a1 a2 => hz e (by omega) a2) hbd)
    · simp only [jc, decide_eq_false_iff_not] at hc
      omega
  | succ m ih =>
    intro W h e9 hm hs hf hrel hz hbd
    -- one step's bounds
    generalize hMM : al * (2 * be) ^ (n - (m + 1)) = M at hbd
    have hstep : al * (2 * be) ^ (n - m) = 2 * (M * be) := by
      rw [show n - m = (n - (m + 1)) + 1 by omega, Nat.pow_succ, ← Nat.mul_assoc, hMM, Nat.mul_left_comm]
    have hM2 : 2 * (M * be) < jB ^ 698 := by
      rw [← hstep]
      refine Nat.lt_of_le_of_lt (Nat.mul_le_mul_left al (Nat.pow_le_pow_right (by omega) (by omega))) hfit
    have hmul : ∀ x y : Int, x.natAbs ≤ M → y.natAbs ≤ be → (x * y).natAbs ≤ M * be := fun x y hx hy => by
      rw [Int.natAbs_mul]
      exact Nat.mul_le_mul hx hy
    have hMb : M ≤ M * be := by
      have := Nat.mul_le_mul_left M hbe1
      omega
    rw [show ((db + (m + 1) : Nat) : Int) - 1 = ((db + m : Nat) : Int) by omega]
    iterate 2 refine mj_T.pl rfl rfl rfl rfl ?_
    refine mj_T.icmp (a := ((db + m : Nat) : Int)) (b := (db : Int)) rfl ⟨by omega, by omega⟩ ⟨by omega, by omega⟩ (fun hc => ?_) (fun hc => ?_)
    · simp only [jc, decide_eq_true_eq] at hc
      omega
    refine mj_T.pl rfl rfl rfl rfl ?_
    refine mj_T.if0 (a := ((m + 1 : Nat) : Int)) rfl ⟨by omega, by omega⟩ (fun hc2 => ?_) (fun hc2 => ?_)
    · simp only [jc, decide_eq_true_eq] at hc2
      omega
    refine mj_T.iinc (a := ((m + 1 : Nat) : Int)) rfl rfl ?_
    rw [show ((m + 1 : Nat) : Int) + -1 = (m : Int) by omega]
    iterate 4 refine mj_T.pl rfl rfl rfl rfl ?_
    refine mj_T.call (ins := .invokestatic 104) rfl rfl (Nat.le_of_ble_eq_true rfl) (Nat.le_of_ble_eq_true rfl) rfl rfl (jq_slot (D := D + 3) (p := 3) (i := db + m)) (fun v' h' hq' => ?_) (fun i h' hq' => by cases hq')
    cases hq'
    refine mj_T.call (ins := .invokevirtual 84) rfl rfl (Nat.le_of_ble_eq_true rfl) (Nat.le_of_ble_eq_true rfl) (by simp [mj_recv, jS_a G hs]) rfl (jS_copies (D := D + 2) G (to := 654) (s := 3 * 13 + (db + m)) (by decide) (by omega) hs) (fun v' g1 hq' => ?_) (fun i h' hq' => by obtain ⟨_, _, h⟩ := hq'; cases h)
    obtain ⟨_, hs1, hq'⟩ := hq'
    cases hq'
    generalize ht : W (3 * 13 + (db + m)) = t at hs1
    have f1 : ∀ s, s ≠ 654 → jvu W 654 t s = W s := fun s c => by unfold jvu; rw [if_neg c]
    have f2 : jvu W 654 t 654 = t := by unfold jvu; rw [if_pos rfl]
    generalize jvu W 654 t = W1 at hs1 f1 f2
    have htb : t.natAbs ≤ M := by rw [← ht]; exact (hbd (db + m) (by omega)).2
    have w1b : ∀ e, e < 13 → W1 (b * 13 + e) = V (b * 13 + e) := fun e he => by rw [f1 _ (by omega)]; exact hf _ (by omega) (by omega) (by omega)
    iterate 2 refine mj_T.pl rfl rfl rfl rfl ?_
    refine jp_dv1 (D := D + 2) (V := W1) (a := a) (b := b) (db := db) (n := n) (lf := m) (dd := db + m) G (qf := fun e => W (2 * 13 + e)) (rf := fun e => W (3 * 13 + e)) (lc := lc) hb hb2 hb3 hdb13 (by rw [w1b db hdb13]; exact hlc) (fun e he => jnl_of_lt (hmul _ _ (hbd e he).1 hlcb) (by omega)) (fun e he => jnl_of_lt (hmul _ _ (hbd e he).2 hlcb) (by omega)) (fun W2 h2 hs2 k1 k2 => ?_) 13 0 W1 g1 rfl hs1 (fun e he => by omega) (fun e _ he => ⟨f1 _ (by omega), f1 _ (by omega)⟩) (fun s _ => rfl)
    refine mj_T.pl rfl rfl rfl rfl ?_
    iterate 3 refine mj_T.pl rfl rfl rfl rfl ?_
    refine mj_T.isub (a := ((db + m : Nat) : Int)) (b := (db : Int)) rfl ?_
    rw [show ((db + m : Nat) : Int) - (db : Int) = (m : Int) by omega]
    refine mj_T.call (ins := .invokestatic 104) rfl rfl (Nat.le_of_ble_eq_true rfl) (Nat.le_of_ble_eq_true rfl) rfl rfl (jq_slot (D := D + 3) (p := 2) (i := m)) (fun v' h' hq' => ?_) (fun i h' hq' => by cases hq')
    cases hq'
    iterate 3 refine mj_T.pl rfl rfl rfl rfl ?_
    refine mj_T.isub (a := ((db + m : Nat) : Int)) (b := (db : Int)) rfl ?_
    rw [show ((db + m : Nat) : Int) - (db : Int) = (m : Int) by omega]
    refine mj_T.call (ins := .invokestatic 104) rfl rfl (Nat.le_of_ble_eq_true rfl) (Nat.le_of_ble_eq_true rfl) rfl rfl (jq_slot (D := D + 3) (p := 2) (i := m)) (fun v' h' hq' => ?_) (fun i h' hq' => by cases hq')
    cases hq'
    iterate 2 refine mj_T.pl rfl rfl rfl rfl ?_
    have w654 : W2 654 = t := by rw [k2 654 (by omega)]; exact f2
    have w2m := (k1 m (by omega)).1
    have hq3 : (W (2 * 13 + m) * lc + 1 * t).natAbs ≤ 2 * (M * be) := by
      have := hmul _ _ (hbd m (by omega)).1 hlcb
      omega
    refine mj_T.call (ins := .invokevirtual 107) rfl rfl (Nat.le_of_ble_eq_true rfl) (Nat.le_of_ble_eq_true rfl) (by simp [mj_recv, jS_a G hs2]) rfl (jS_adds (D := D) G (to := 2 * 13 + m) (a := 2 * 13 + m) (b := 654) (f := 1) (by omega) (by omega) (by decide) (Or.inl rfl) (by rw [w2m, w654]; exact jnl_of_lt hq3 hM2) hs2) (fun v' g3 hq' => ?_) (fun i h' hq' => by obtain ⟨_, _, h⟩ := hq'; cases h)
    obtain ⟨_, hs3, hq'⟩ := hq'
    cases hq'
    have f3 : ∀ s, s ≠ 2 * 13 + m → jvu W2 (2 * 13 + m) (W2 (2 * 13 + m) + 1 * W2 654) s = W2 s := fun s c => by unfold jvu; rw [if_neg c]
    have f4 : jvu W2 (2 * 13 + m) (W2 (2 * 13 + m) + 1 * W2 654) (2 * 13 + m) = W (2 * 13 + m) * lc + 1 * t := by unfold jvu; rw [if_pos rfl, w2m, w654]
    generalize jvu W2 (2 * 13 + m) (W2 (2 * 13 + m) + 1 * W2 654) = W3 at hs3 f3 f4
    have w3b : ∀ e, e < 13 → W3 (b * 13 + e) = V (b * 13 + e) := fun e he => by rw [f3 _ (by omega), k2 _ (by omega)]; exact w1b e he
    have w3r : ∀ e, e < 13 → W3 (3 * 13 + e) = W (3 * 13 + e) * lc := fun e he => by rw [f3 _ (by omega)]; exact (k1 e he).2
    have hr4 : ∀ e x, e < 13 → x < 13 → (W (3 * 13 + e) * lc + -1 * (t * V (b * 13 + x))).natAbs ≤ 2 * (M * be) := fun e x he hx => by
      have h1 := hmul _ _ (hbd e he).2 hlcb
      have h2 := hmul _ _ htb (hbe x hx)
      omega
    iterate 2 refine mj_T.pl rfl rfl rfl rfl ?_
    refine jp_dv2 (D := D) (V := W3) (a := a) (b := b) (db := db) (n := n) (lf := m) (dd := db + m) G (rf := fun e => W (3 * 13 + e) * lc) (t := t) hb hb2 hb3 (by omega) (by omega) (by rw [f3 _ (by omega)]; exact w654) (fun e he => by rw [w3b e (by omega)]; exact jnl_of_lt (hmul _ _ htb (hbe e (by omega))) (by omega)) (fun e he => by rw [w3b e (by omega)]; exact jnl_of_lt (hr4 _ e (by omega) (by omega)) hM2) (fun W4 h4 hs4 k3 k4 => ?_) (db + 1) 0 W3 g3 (by omega) hs3 (fun e he => by omega) (fun e _ he => w3r _ (by omega)) (fun s _ _ => rfl)
    refine mj_T.iinc (a := ((db + m : Nat) : Int)) rfl rfl ?_
    rw [show ((db + m : Nat) : Int) + -1 = ((db + m : Nat) : Int) - 1 by omega]
    refine mj_T.pl rfl rfl rfl rfl ?_
    -- the new rows
    have hq : jpo W4 2 = pz_add (pz_sc lc (jpo W 2)) (pz_mono m t) := funext fun e => by
      show jpo W4 2 e = lc * jpo W 2 e + (if e = m then t else 0)
      by_cases he : e < 13
      · rw [jpo_at he, jpo_at he, k4 _ (by omega) (by omega)]
        by_cases c : e = m
        · rw [c, f4, if_pos rfl, Int.mul_comm]
          omega
        · rw [f3 _ (by omega), (k1 e he).1, if_neg c, Int.mul_comm]
          omega
      · have e0 : ∀ X : Nat → Int, jpo X 2 e = 0 := fun X => by unfold jpo; rw [if_neg he]
        rw [e0, e0, if_neg (by omega), Int.mul_zero]
        rfl
    have hr : jpo W4 3 = pz_add (pz_sc lc (jpo W 3)) (pz_sc (-1) (pz_mul (pz_mono m t) (jpo V b))) := funext fun e => by
      show jpo W4 3 e = lc * jpo W 3 e + -1 * pz_c e (pz_mono m t) (jpo V b)
      rw [pz_mono_mul]
      by_cases he : e < 13
      · rw [jpo_at he, jpo_at he]
        by_cases c : m ≤ e
        · rw [if_pos c]
          by_cases c2 : e ≤ db + m
          · have h5 := k3 (e - m) (by omega)
            rw [show db + m - db + (e - m) = e by omega, w3b _ (by omega)] at h5
            rw [h5, jpo_at (show e - m < 13 by omega), Int.mul_comm lc]
          · rw [k4 _ (by omega) (by omega), w3r e he, hB0 (e - m) (by omega), Int.mul_zero, Int.mul_comm lc]
            omega
        · rw [if_neg c, k4 _ (by omega) (by omega), w3r e he, Int.mul_comm lc]
          omega
      · have e0 : ∀ X : Nat → Int, jpo X 3 e = 0 := fun X => by unfold jpo; rw [if_neg he]
        rw [e0, e0, if_pos (by omega), hB0 (e - m) (by omega), Int.mul_zero, Int.mul_zero]
        rfl
    have hrel2 : pz_sc (lc ^ (n - m)) (jpo V a) = pz_add (pz_mul (jpo W4 2) (jpo V b)) (jpo W4 3) := by
      have := jdv_next hrel hq hr
      rw [show n - m = (n - (m + 1)) + 1 by omega, Int.pow_succ, Int.mul_comm]
      exact this
    refine ih W4 h4 _ (by omega) hs4 (fun s c c2 c3 => ?_) hrel2 (fun e a1 a2 => ?_) (fun e he => ?_)
    · rw [k4 s (by omega) c2, f3 s (by omega), k2 s c, f1 s c3]
      exact hf s c c2 c3
    · by_cases c : e = db + m
      · have h5 := k3 db (Nat.le_refl _)
        rw [show db + m - db + db = db + m by omega, w3b _ hdb13, hlc, ht] at h5
        rw [c, h5]
        omega
      · rw [k4 _ (by omega) (by omega), w3r e a2, hz e (by omega) a2, Int.zero_mul]
    · rw [hstep]
      refine ⟨?_, ?_⟩
      · rw [k4 _ (by omega) (by omega)]
        by_cases c : e = m
        · rw [c, f4]
          exact hq3
        · rw [f3 _ (by omega), (k1 e he).1]
          have := hmul _ _ (hbd e he).1 hlcb
          omega
      · by_cases c : m ≤ e ∧ e ≤ db + m
        · have h5 := k3 (e - m) (by omega)
          rw [show db + m - db + (e - m) = e by omega, w3b _ (by omega)] at h5
          rw [h5]
          exact hr4 e (e - m) he (by omega)
        · rw [k4 _ (by omega) (by omega), w3r e he]
          have := hmul _ _ (hbd e he).2 hlcb
          omega
end JDW
