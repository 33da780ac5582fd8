/-! Calls of the reference: agreements, told digits, common divisors, substitution, roots by a prime. -/
theorem jgk_le {V : Nat → Int} {p A : Nat} (h : ∀ e, e < 13 → (V (p * 13 + e)).natAbs ≤ A) : jgk V p 13 ≤ A := by
  by_cases c : ∃ e, e < 13 ∧ V (p * 13 + e) ≠ 0
  · obtain ⟨e, he, hne⟩ := c
    have h1 := jgk_dvd V p 13 e (Nat.le_refl _) (by omega) he
    exact Nat.le_trans (Nat.le_of_dvd (by omega) h1) (h e he)
  · rw [jgk_zero V p 13 (Nat.le_refl _) (fun e _ he => Classical.byContradiction fun q => c ⟨e, he, q⟩)]
    exact Nat.zero_le _
theorem gcd_le2 {a b A : Nat} (ha : a ≤ A) (hb : b ≤ A) : Nat.gcd a b ≤ A := by
  rcases Nat.eq_zero_or_pos a with e | e
  · rw [e, Nat.gcd_zero_left]
    exact hb
  · exact Nat.le_trans (Nat.gcd_le_left _ e) ha
theorem rp_small5 : kq_F (10 ^ 18) 24 * 10 ^ 18 < jB ^ 698 := by decide +kernel
theorem rp_small6 : (170 * 10 ^ 18) ^ 13 * (170 * 10 ^ 18) < jB ^ 698 := by decide +kernel
section RPU
variable {h : mj_H} {tm er : Int} {T : Nat → Int}
theorem rp_compares {S N B X V : Nat → Int} {a b : Nat} (ha : a < 665) (hb : b < 665) (hs : rS S N B T X V h) : mj_Ok 39 185 [.ref 0, .int (jn (a : Nat)), .int (jn (b : Nat))] h (fun r => ∃ z : Int, (-1 ≤ z ∧ z ≤ 1) ∧ r = (.inl (some (.int (jn z))), h)) := by
  refine mj_Ok.of (M := mj_m185) rfl rfl rfl ?_
  have ra := jsg_range (V a)
  have rb := jsg_range (V b)
  have rc := jcm_range (V a).natAbs (V b).natAbs
  iterate 2 refine mj_T.pl rfl rfl rfl rfl ?_
  refine mj_T.call (ins := .invokevirtual 68) rfl rfl (Nat.le_of_ble_eq_true rfl) (Nat.le_of_ble_eq_true rfl) (by simp [mj_recv, rS_f hs]) rfl (mj_Ok.up (by decide) (jS_sign (D := 0) (rG S N B T X) (s := a) ha hs)) (fun v' h' hq' => ?_) (fun i h' hq' => by cases hq')
  cases hq'
  iterate 2 refine mj_T.pl rfl rfl rfl rfl ?_
  refine mj_T.call (ins := .invokevirtual 68) rfl rfl (Nat.le_of_ble_eq_true rfl) (Nat.le_of_ble_eq_true rfl) (by simp [mj_recv, rS_f hs]) rfl (mj_Ok.up (by decide) (jS_sign (D := 0) (rG S N B T X) (s := b) hb hs)) (fun v' h' hq' => ?_) (fun i h' hq' => by cases hq')
  cases hq'
  refine mj_T.icmp (a := jsg (V a)) (b := jsg (V b)) rfl ⟨by omega, by omega⟩ ⟨by omega, by omega⟩ (fun hc => ?_) (fun hc => ?_)
  · skip
    iterate 2 refine mj_T.pl rfl rfl rfl rfl ?_
    refine mj_T.call (ins := .invokevirtual 68) rfl rfl (Nat.le_of_ble_eq_true rfl) (Nat.le_of_ble_eq_true rfl) (by simp [mj_recv, rS_f hs]) rfl (mj_Ok.up (by decide) (jS_sign (D := 0) (rG S N B T X) (s := a) ha hs)) (fun v' h' hq' => ?_) (fun i h' hq' => by cases hq')
    cases hq'
    iterate 3 refine mj_T.pl rfl rfl rfl rfl ?_
    refine mj_T.call (ins := .invokevirtual 71) rfl rfl (Nat.le_of_ble_eq_true rfl) (Nat.le_of_ble_eq_true rfl) (by simp [mj_recv, rS_f hs]) rfl (mj_Ok.up (by decide) (jS_cmp (D := 0) (rG S N B T X) (s := a) (t := b) ha hb hs)) (fun v' h' hq' => ?_) (fun i h' hq' => by cases hq')
    cases hq'
    refine mj_T.imul rfl ?_
    refine mj_T.ret rfl rfl rfl ⟨_, ?_, rfl⟩
    rcases (show jsg (V a) = -1 ∨ jsg (V a) = 0 ∨ jsg (V a) = 1 by omega) with q | q | q <;> rw [q] <;> omega
  · skip
    iterate 2 refine mj_T.pl rfl rfl rfl rfl ?_
    refine mj_T.call (ins := .invokevirtual 68) rfl rfl (Nat.le_of_ble_eq_true rfl) (Nat.le_of_ble_eq_true rfl) (by simp [mj_recv, rS_f hs]) rfl (mj_Ok.up (by decide) (jS_sign (D := 0) (rG S N B T X) (s := a) ha hs)) (fun v' h' hq' => ?_) (fun i h' hq' => by cases hq')
    cases hq'
    iterate 2 refine mj_T.pl rfl rfl rfl rfl ?_
    refine mj_T.call (ins := .invokevirtual 68) rfl rfl (Nat.le_of_ble_eq_true rfl) (Nat.le_of_ble_eq_true rfl) (by simp [mj_recv, rS_f hs]) rfl (mj_Ok.up (by decide) (jS_sign (D := 0) (rG S N B T X) (s := b) hb hs)) (fun v' h' hq' => ?_) (fun i h' hq' => by cases hq')
    cases hq'
    refine mj_T.icmp (a := jsg (V a)) (b := jsg (V b)) rfl ⟨by omega, by omega⟩ ⟨by omega, by omega⟩ (fun hc => ?_) (fun hc => ?_)
    · refine mj_T.pl rfl rfl rfl rfl ?_
      exact mj_T.ret rfl rfl rfl ⟨1, by decide, rfl⟩
    · iterate 2 refine mj_T.pl rfl rfl rfl rfl ?_
      exact mj_T.ret rfl rfl rfl ⟨-1, by decide, rfl⟩
theorem rp_ag_loop {S N B X : Nat → Int} {x y : Int} {d : Nat} (hd : d ≤ 12) (K : jK tm er S N B T) :
    ∀ (m k c : Nat) (V : Nat → Int) (h : mj_H) (e6 : Option Value), k + m = d + 1 → c ≤ k → rS S N B T X V h → (∀ e, e < 13 → (V (0 * 13 + e)).natAbs ≤ 10 ^ 18) → (∀ e, e < 13 → (V (1 * 13 + e)).natAbs ≤ 10 ^ 18) → mj_T 39 mj_m265 61 [some (.ref 0), some (.int (jn x)), some (.int (jn y)), some (.int (jn (d : Int))), some (.int (jn (c : Int))), some (.int (jn (k : Int))), e6] [] h (rI tm er T) := by
  intro m
  induction m with
  | zero =>
    intro k c V h e6 hk hc hs c1 c2
    iterate 2 refine mj_T.pl rfl rfl rfl rfl ?_
    refine mj_T.icmp (a := (k : Int)) (b := (d : Int)) rfl ⟨by omega, by omega⟩ ⟨by omega, by omega⟩ (fun hc => ?_) (fun hc => ?_)
    · refine mj_T.pl rfl rfl rfl rfl ?_
      exact mj_T.ret rfl rfl rfl ⟨(c : Int), h, ⟨by omega, by omega⟩, rfl, ⟨_, _, _, _, _, hs, K⟩⟩
    · simp only [jc, decide_eq_false_iff_not] at hc
      omega
  | succ m ih =>
    intro k c V h e6 hk hc hs c1 c2
    iterate 2 refine mj_T.pl rfl rfl rfl rfl ?_
    refine mj_T.icmp (a := (k : Int)) (b := (d : Int)) rfl ⟨by omega, by omega⟩ ⟨by omega, by omega⟩ (fun hc => ?_) (fun hc => ?_)
    · simp only [jc, decide_eq_true_eq] at hc
      omega
    iterate 3 refine mj_T.pl rfl rfl rfl rfl ?_
    refine mj_T.call (ins := .invokevirtual 305) rfl rfl (Nat.le_of_ble_eq_true rfl) (Nat.le_of_ble_eq_true rfl) (by simp [mj_recv, rS_f hs]) rfl (mj_Ok.up (by decide) (rp_setsFraction (D := 0) (x := (k : Int)) (y := 1) ⟨by omega, by omega⟩ ⟨by decide, by decide⟩ hs)) (fun v' g1 hq' => ?_) (fun i h' hq' => by obtain ⟨_, _, _, _, _, _, h⟩ := hq'; cases h)
    obtain ⟨W1, _, hs1, x1a, x1b, x1c, hq'⟩ := hq'
    cases hq'
    iterate 2 refine mj_T.pl rfl rfl rfl rfl ?_
    refine mj_T.call (ins := .invokevirtual 162) rfl rfl (Nat.le_of_ble_eq_true rfl) (Nat.le_of_ble_eq_true rfl) (by simp [mj_recv, rS_f hs1]) rfl (mj_Ok.up (by decide) (jp_valueAt (D := 0) (V := W1) (p := 0) (rG S N B T X) (by decide) (C := 10 ^ 18) (x := 1000) (fun e he => by rw [x1c _ (by omega) (by omega)]; exact c1 e he) (by rw [x1a]; omega) (by rw [x1b]; decide) (by decide) rp_fitv rp_fitv2 hs1)) (fun v' g2 hq' => ?_) (fun i h' hq' => by obtain ⟨_, _, _, _, _, _, _, h⟩ := hq'; cases h)
    obtain ⟨W2, _, hs2, f1, _, _, _, hq'⟩ := hq'
    cases hq'
    iterate 4 refine mj_T.pl rfl rfl rfl rfl ?_
    refine mj_T.call (ins := .invokevirtual 84) rfl rfl (Nat.le_of_ble_eq_true rfl) (Nat.le_of_ble_eq_true rfl) (by simp [mj_recv, rS_f hs2]) rfl (mj_Ok.up (by decide) (jS_copies (D := 0) (rG S N B T X) (to := 661) (s := 659) (by decide) (by decide) hs2)) (fun v' g3 hq' => ?_) (fun i h' hq' => by obtain ⟨_, _, h⟩ := hq'; cases h)
    obtain ⟨_, hs3, hq'⟩ := hq'
    cases hq'
    have f2 : ∀ s, s ≠ 661 → jvu W2 661 (W2 659) s = W2 s := fun s hne => jvu_ne _ _ _ hne
    generalize jvu W2 661 (W2 659) = W3 at hs3 f2
    iterate 2 refine mj_T.pl rfl rfl rfl rfl ?_
    refine mj_T.call (ins := .invokevirtual 162) rfl rfl (Nat.le_of_ble_eq_true rfl) (Nat.le_of_ble_eq_true rfl) (by simp [mj_recv, rS_f hs3]) rfl (mj_Ok.up (by decide) (jp_valueAt (D := 0) (V := W3) (p := 1) (rG S N B T X) (by decide) (C := 10 ^ 18) (x := 1000) (fun e he => by rw [f2 _ (by omega), f1 _ (by omega) (by omega) (by omega), x1c _ (by omega) (by omega)]; exact c2 e he) (by rw [f2 _ (by decide), f1 _ (by decide) (by decide) (by decide), x1a]; omega) (by rw [f2 _ (by decide), f1 _ (by decide) (by decide) (by decide), x1b]; decide) (by decide) rp_fitv rp_fitv2 hs3)) (fun v' g4 hq' => ?_) (fun i h' hq' => by obtain ⟨_, _, _, _, _, _, _, h⟩ := hq'; cases h)
    obtain ⟨W4, _, hs4, f3, _, _, _, hq'⟩ := hq'
    cases hq'
    iterate 5 refine mj_T.pl rfl rfl rfl rfl ?_
    refine mj_T.call (ins := .invokevirtual 314) rfl rfl (Nat.le_of_ble_eq_true rfl) (Nat.le_of_ble_eq_true rfl) (by simp [mj_recv, rS_f hs4]) rfl (mj_Ok.up (by decide) (rp_compares (a := 661) (b := 659) (by decide) (by decide) hs4)) (fun v' h' hq' => ?_) (fun i h' hq' => by obtain ⟨_, _, h⟩ := hq'; cases h)
    obtain ⟨z, hz, hq'⟩ := hq'
    cases hq'
    refine mj_T.if0 (a := z) rfl ⟨by omega, by omega⟩ (fun hc2 => ?_) (fun hc2 => ?_)
    · skip
      refine mj_T.pl rfl rfl rfl rfl ?_
      refine mj_T.iadd (a := (c : Int)) (b := 0) rfl ?_
      rw [show (c : Int) + 0 = ((c + 0 : Nat) : Int) by omega]
      refine mj_T.pl rfl rfl rfl rfl ?_
      refine mj_T.iinc (a := (k : Int)) rfl rfl ?_
      refine mj_T.pl rfl rfl rfl rfl ?_
      exact ih (k + 1) (c + 0) _ _ _ (by omega) (by omega) hs4 (fun e he => by rw [f3 _ (by omega) (by omega) (by omega), f2 _ (by omega), f1 _ (by omega) (by omega) (by omega), x1c _ (by omega) (by omega)]; exact c1 e he) (fun e he => by rw [f3 _ (by omega) (by omega) (by omega), f2 _ (by omega), f1 _ (by omega) (by omega) (by omega), x1c _ (by omega) (by omega)]; exact c2 e he)
    · skip
      iterate 2 refine mj_T.pl rfl rfl rfl rfl ?_
      refine mj_T.iadd (a := (c : Int)) (b := 1) rfl ?_
      rw [show (c : Int) + 1 = ((c + 1 : Nat) : Int) by omega]
      refine mj_T.pl rfl rfl rfl rfl ?_
      refine mj_T.iinc (a := (k : Int)) rfl rfl ?_
      refine mj_T.pl rfl rfl rfl rfl ?_
      exact ih (k + 1) (c + 1) _ _ _ (by omega) (by omega) hs4 (fun e he => by rw [f3 _ (by omega) (by omega) (by omega), f2 _ (by omega), f1 _ (by omega) (by omega) (by omega), x1c _ (by omega) (by omega)]; exact c1 e he) (fun e he => by rw [f3 _ (by omega) (by omega) (by omega), f2 _ (by omega), f1 _ (by omega) (by omega) (by omega), x1c _ (by omega) (by omega)]; exact c2 e he)
theorem rp_agreements {x y : Int} (hx : jr x) (hy : jr y) (hI : jI tm er T h) : mj_Ok 40 265 [.ref 0, .int (jn x), .int (jn y)] h (rI tm er T) := by
  refine mj_Ok.of (M := mj_m265) rfl rfl rfl ?_
  obtain ⟨S, N, B, X, V, hs, K⟩ := hI
  iterate 2 refine mj_T.pl rfl rfl rfl rfl ?_
  refine rT_put (v := 0) hs rfl rfl (by decide) rfl (fun g5 hs5 => ?_)
  have K5 := K.put (k := 3) (v := 0) ⟨by decide, by decide⟩ (by decide) (by decide) (by decide) (by decide) (by decide)
  generalize jvu S 3 0 = S5 at hs5 K5
  have t19 : mj_T 39 mj_m265 19 [some (.ref 0), some (.int (jn x)), some (.int (jn y)), none, none, none, none] [] g5 (rI tm er T) := by
    iterate 2 refine mj_T.pl rfl rfl rfl rfl ?_
    refine mj_T.call (ins := .invokevirtual 198) rfl rfl (Nat.le_of_ble_eq_true rfl) (Nat.le_of_ble_eq_true rfl) (by simp [mj_recv, rS_f hs5]) rfl (mj_Ok.up (by decide) (rp_fails (D := 0) (c := 1) hs5)) (fun v' g6 hq' => ?_) (fun i h' hq' => by obtain ⟨_, _, h⟩ := hq'; cases h)
    obtain ⟨_, hs6, hq'⟩ := hq'
    cases hq'
    exact mj_T.ret rfl rfl rfl ⟨0, g6, ⟨by decide, by decide⟩, rfl, ⟨_, N, B, X, V, hs6, K5.put ⟨by decide, by decide⟩ (by decide) (by decide) (by decide) (by decide) (by decide)⟩⟩
  refine mj_T.pl rfl rfl rfl rfl ?_
  refine mj_T.call (ins := .invokestatic 181) rfl rfl (Nat.le_of_ble_eq_true rfl) (Nat.le_of_ble_eq_true rfl) rfl rfl (mj_Ok.up (by decide) (rp_isRegister (D := 0) hx)) (fun v' h' hq' => ?_) (fun i h' hq' => by rcases hq' with ⟨_, _, h⟩ | ⟨_, h⟩ <;> cases h)
  rcases hq' with ⟨x1, x2, hq'⟩ | ⟨_, hq'⟩
  case' inr =>
    cases hq'
    refine mj_T.if0 (a := 0) rfl ⟨by decide, by decide⟩ (fun hc => ?_) (fun hc => ?_)
    · exact t19
    · simp [jc] at hc
  cases hq'
  refine mj_T.if0 (a := 1) rfl ⟨by decide, by decide⟩ (fun hc => ?_) (fun hc => ?_)
  · simp [jc] at hc
  refine mj_T.pl rfl rfl rfl rfl ?_
  refine mj_T.call (ins := .invokestatic 181) rfl rfl (Nat.le_of_ble_eq_true rfl) (Nat.le_of_ble_eq_true rfl) rfl rfl (mj_Ok.up (by decide) (rp_isRegister (D := 0) hy)) (fun v' h' hq' => ?_) (fun i h' hq' => by rcases hq' with ⟨_, _, h⟩ | ⟨_, h⟩ <;> cases h)
  rcases hq' with ⟨y1, y2, hq'⟩ | ⟨_, hq'⟩
  case' inr =>
    cases hq'
    refine mj_T.if0 (a := 0) rfl ⟨by decide, by decide⟩ (fun hc => ?_) (fun hc => ?_)
    · simp [jc] at hc
    · exact t19
  cases hq'
  refine mj_T.if0 (a := 1) rfl ⟨by decide, by decide⟩ (fun hc => ?_) (fun hc => ?_)
  rotate_left
  · simp [jc] at hc
  clear t19
  obtain ⟨x, rfl⟩ := Int.eq_ofNat_of_zero_le x1
  obtain ⟨y, rfl⟩ := Int.eq_ofNat_of_zero_le y1
  iterate 3 refine mj_T.pl rfl rfl rfl rfl ?_
  refine mj_T.call (ins := .invokevirtual 213) rfl rfl (Nat.le_of_ble_eq_true rfl) (Nat.le_of_ble_eq_true rfl) (by simp [mj_recv, rS_f hs5]) rfl (mj_Ok.up (by decide) (rp_loads (D := 0) (p := 0) (r := x) (by decide) (by omega) K5.nR hs5)) (fun v' g7 hq' => ?_) (fun i h' hq' => by obtain ⟨_, _, h⟩ := hq'; cases h)
  obtain ⟨_, hs7, hq'⟩ := hq'
  cases hq'
  have a7 : ∀ e, e < 13 → jfl V 0 (fun e => N (x * 13 + e)) 13 (0 * 13 + e) = N (x * 13 + e) := fun e he => jfl_at _ _ _ he
  have b7 : ∀ s, (s < 0 * 13 ∨ 0 * 13 + 13 ≤ s) → jfl V 0 (fun e => N (x * 13 + e)) 13 s = V s := fun s hc => jfl_off _ _ _ hc
  generalize jfl V 0 (fun e => N (x * 13 + e)) 13 = W7 at hs7 a7 b7
  iterate 3 refine mj_T.pl rfl rfl rfl rfl ?_
  refine mj_T.call (ins := .invokevirtual 213) rfl rfl (Nat.le_of_ble_eq_true rfl) (Nat.le_of_ble_eq_true rfl) (by simp [mj_recv, rS_f hs7]) rfl (mj_Ok.up (by decide) (rp_loads (D := 0) (p := 1) (r := y) (by decide) (by omega) K5.nR hs7)) (fun v' g8 hq' => ?_) (fun i h' hq' => by obtain ⟨_, _, h⟩ := hq'; cases h)
  obtain ⟨_, hs8, hq'⟩ := hq'
  cases hq'
  have a8 : ∀ e, e < 13 → jfl W7 1 (fun e => N (y * 13 + e)) 13 (1 * 13 + e) = N (y * 13 + e) := fun e he => jfl_at _ _ _ he
  have b8 : ∀ s, (s < 1 * 13 ∨ 1 * 13 + 13 ≤ s) → jfl W7 1 (fun e => N (y * 13 + e)) 13 s = W7 s := fun s hc => jfl_off _ _ _ hc
  generalize jfl W7 1 (fun e => N (y * 13 + e)) 13 = W8 at hs8 a8 b8
  have c1 : ∀ e, e < 13 → (W8 (0 * 13 + e)).natAbs ≤ 10 ^ 18 := fun e he => by
    rw [b8 _ (by omega), a7 e he]
    exact K5.sh (r := x) (by omega) he
  have c2 : ∀ e, e < 13 → (W8 (1 * 13 + e)).natAbs ≤ 10 ^ 18 := fun e he => by
    rw [a8 e he]
    exact K5.sh (r := y) (by omega) he
  have hl0 := jdg_le W8 0 13
  have hl1 := jdg_le W8 1 13
  iterate 3 refine mj_T.pl rfl rfl rfl rfl ?_
  refine mj_T.call (ins := .invokevirtual 114) rfl rfl (Nat.le_of_ble_eq_true rfl) (Nat.le_of_ble_eq_true rfl) (by simp [mj_recv, rS_f hs8]) rfl (mj_Ok.up (by decide) (jp_degreeOf (D := 0) (rG S5 N B T X) (p := 0) (by decide) hs8)) (fun v' h' hq' => ?_) (fun i h' hq' => by cases hq')
  cases hq'
  iterate 2 refine mj_T.pl rfl rfl rfl rfl ?_
  refine mj_T.call (ins := .invokevirtual 114) rfl rfl (Nat.le_of_ble_eq_true rfl) (Nat.le_of_ble_eq_true rfl) (by simp [mj_recv, rS_f hs8]) rfl (mj_Ok.up (by decide) (jp_degreeOf (D := 0) (rG S5 N B T X) (p := 1) (by decide) hs8)) (fun v' h' hq' => ?_) (fun i h' hq' => by cases hq')
  cases hq'
  refine mj_T.imax (a := (jdg W8 0 13 : Int) - 1) (b := (jdg W8 1 13 : Int) - 1) rfl rfl (Nat.le_of_ble_eq_true rfl) ⟨by omega, by omega⟩ ⟨by omega, by omega⟩ ?_
  obtain ⟨mx, hmx⟩ : ∃ mx, mx = max ((jdg W8 0 13 : Int) - 1) ((jdg W8 1 13 : Int) - 1) := ⟨_, rfl⟩
  rw [← hmx]
  have hmx2 : -1 ≤ mx ∧ mx ≤ 12 := by omega
  refine mj_T.imax (a := 0) (b := mx) rfl rfl (Nat.le_of_ble_eq_true rfl) ⟨by decide, by decide⟩ ⟨by omega, by omega⟩ ?_
  obtain ⟨d, hd⟩ : ∃ d : Nat, max 0 mx = (d : Int) := Int.eq_ofNat_of_zero_le (by omega)
  rw [hd]
  iterate 5 refine mj_T.pl rfl rfl rfl rfl ?_
  exact rp_ag_loop (d := d) (by omega) K5 (d + 1) 0 0 _ _ none (by omega) (by decide) hs8 c1 c2
theorem rp_told {b : Int} (hb : jr b) : mj_Ok 39 266 [.int (jn b)] h (fun r => ∃ s : Nat, (s = 650 ∨ s = 651) ∧ r = (.inl (some (.int (jn (s : Int)))), h)) := by
  refine mj_Ok.of (M := mj_m266) rfl rfl rfl ?_
  refine mj_T.pl rfl rfl rfl rfl ?_
  refine mj_T.if0 (a := b) rfl hb (fun hc => ?_) (fun hc => ?_)
  · refine mj_T.pl rfl rfl rfl rfl ?_
    exact mj_T.ret rfl rfl rfl ⟨650, Or.inl rfl, rfl⟩
  · iterate 2 refine mj_T.pl rfl rfl rfl rfl ?_
    exact mj_T.ret rfl rfl rfl ⟨651, Or.inr rfl, rfl⟩
theorem rp_dg_loop {D s n : Nat} {Q : mj_R → Prop} (hend : ∀ c : Nat, c ≤ 6300 → Q (.inl (some (.int (jn (c : Int)))), h)) :
    ∀ (m c v : Nat), c + m ≤ 6300 → v < 10 ^ m → v < 1000000000 → mj_T D mj_m267 29 [some (.ref 0), some (.int (jn (s : Int))), some (.int (jn (n : Int))), some (.int (jn (c : Int))), some (.int (jn (v : Int)))] [] h Q := by
  intro m
  induction m with
  | zero =>
    intro c v hc hv hv2
    have hv0 : v = 0 := by rw [Nat.pow_zero] at hv; omega
    subst hv0
    refine mj_T.pl rfl rfl rfl rfl ?_
    refine mj_T.if0 (a := ((0 : Nat) : Int)) rfl ⟨by decide, by decide⟩ (fun hc2 => ?_) (fun hc2 => ?_)
    · refine mj_T.pl rfl rfl rfl rfl ?_
      exact mj_T.ret rfl rfl rfl (hend c (by omega))
    · simp [jc] at hc2
  | succ m ih =>
    intro c v hc hv hv2
    refine mj_T.pl rfl rfl rfl rfl ?_
    refine mj_T.if0 (a := (v : Int)) rfl ⟨by omega, by omega⟩ (fun hc2 => ?_) (fun hc2 => ?_)
    · refine mj_T.pl rfl rfl rfl rfl ?_
      exact mj_T.ret rfl rfl rfl (hend c (by omega))
    refine mj_T.iinc (a := (c : Int)) rfl rfl ?_
    iterate 2 refine mj_T.pl rfl rfl rfl rfl ?_
    refine mj_T.idiv (a := (v : Int)) (b := 10) rfl ⟨by omega, by omega⟩ ⟨by decide, by decide⟩ (by decide) ?_
    rw [show (v : Int).tdiv 10 = ((v / 10 : Nat) : Int) from rfl]
    iterate 2 refine mj_T.pl rfl rfl rfl rfl ?_
    exact ih (c + 1) (v / 10) (by omega) (by rw [Nat.pow_succ] at hv; omega) (by omega)
theorem rp_digitsOf {S N B X V : Nat → Int} {s : Nat} (hl : s < 665) (hs : rS S N B T X V h) : mj_Ok 39 267 [.ref 0, .int (jn (s : Int))] h (fun r => ∃ c : Nat, c ≤ 6300 ∧ r = (.inl (some (.int (jn (c : Int)))), h)) := by
  have h7 := jS_700 hs hl
  have hlb := jlb_lt (V s).natAbs (jnl (V s).natAbs - 1)
  refine mj_Ok.of (M := mj_m267) rfl rfl rfl ?_
  iterate 2 refine mj_T.pl rfl rfl rfl rfl ?_
  refine mj_T.call (ins := .invokevirtual 52) rfl rfl (Nat.le_of_ble_eq_true rfl) (Nat.le_of_ble_eq_true rfl) (by simp [mj_recv, rS_f hs]) rfl (mj_Ok.up (by decide) (jS_length (D := 0) (rG S N B T X) (s := s) hl hs)) (fun v' h' hq' => ?_) (fun i h' hq' => by cases hq')
  cases hq'
  iterate 2 refine mj_T.pl rfl rfl rfl rfl ?_
  refine mj_T.if0 (a := ((jnl (V s).natAbs : Nat) : Int)) rfl ⟨by omega, by omega⟩ (fun hc => ?_) (fun hc => ?_)
  rotate_left
  · refine mj_T.pl rfl rfl rfl rfl ?_
    exact mj_T.ret rfl rfl rfl ⟨1, by decide, rfl⟩
  simp only [jc, Bool.not_eq_true', decide_eq_false_iff_not] at hc
  obtain ⟨n, hn⟩ : ∃ n, jnl (V s).natAbs = n + 1 := ⟨jnl (V s).natAbs - 1, by omega⟩
  rw [hn, Nat.add_sub_cancel] at hlb
  rw [hn]
  iterate 3 refine mj_T.pl rfl rfl rfl rfl ?_
  refine mj_T.isub (a := ((n + 1 : Nat) : Int)) (b := 1) rfl ?_
  rw [show ((n + 1 : Nat) : Int) - 1 = (n : Int) by omega]
  refine mj_T.imul (a := 9) (b := (n : Int)) rfl ?_
  rw [show 9 * (n : Int) = ((9 * n : Nat) : Int) by omega]
  iterate 5 refine mj_T.pl rfl rfl rfl rfl ?_
  refine mj_T.isub (a := ((n + 1 : Nat) : Int)) (b := 1) rfl ?_
  rw [show ((n + 1 : Nat) : Int) - 1 = (n : Int) by omega]
  refine mj_T.call (ins := .invokevirtual 64) rfl rfl (Nat.le_of_ble_eq_true rfl) (Nat.le_of_ble_eq_true rfl) (by simp [mj_recv, rS_f hs]) rfl (mj_Ok.up (by decide) (jS_limb (D := 0) (rG S N B T X) (s := s) (j := n) hl (by omega) hs)) (fun v' h' hq' => ?_) (fun i h' hq' => by cases hq')
  cases hq'
  refine mj_T.pl rfl rfl rfl rfl ?_
  exact rp_dg_loop (fun c hc => ⟨c, hc, rfl⟩) 9 (9 * n) _ (by omega) hlb hlb
theorem rp_digits {x : Int} (hx : jr x) (hI : jI tm er T h) : mj_Ok 40 268 [.ref 0, .int (jn x)] h (rI tm er T) := by
  refine mj_Ok.of (M := mj_m268) rfl rfl rfl ?_
  obtain ⟨S, N, B, X, V, hs, K⟩ := hI
  iterate 2 refine mj_T.pl rfl rfl rfl rfl ?_
  refine rT_put (v := 0) hs rfl rfl (by decide) rfl (fun g9 hs9 => ?_)
  have K9 := K.put (k := 3) (v := 0) ⟨by decide, by decide⟩ (by decide) (by decide) (by decide) (by decide) (by decide)
  generalize jvu S 3 0 = S9 at hs9 K9
  iterate 2 refine mj_T.pl rfl rfl rfl rfl ?_
  refine mj_T.call (ins := .invokestatic 317) rfl rfl (Nat.le_of_ble_eq_true rfl) (Nat.le_of_ble_eq_true rfl) rfl rfl (mj_Ok.up (by decide) (rp_told hx)) (fun v' h' hq' => ?_) (fun i h' hq' => by obtain ⟨_, _, h⟩ := hq'; cases h)
  obtain ⟨s, hst, hq'⟩ := hq'
  cases hq'
  refine mj_T.call (ins := .invokevirtual 321) rfl rfl (Nat.le_of_ble_eq_true rfl) (Nat.le_of_ble_eq_true rfl) (by simp [mj_recv, rS_f hs9]) rfl (mj_Ok.up (by decide) (rp_digitsOf (s := s) (by omega) hs9)) (fun v' h' hq' => ?_) (fun i h' hq' => by obtain ⟨_, _, h⟩ := hq'; cases h)
  obtain ⟨c, hc9, hq'⟩ := hq'
  cases hq'
  exact mj_T.ret rfl rfl rfl ⟨(c : Int), g9, ⟨by omega, by omega⟩, rfl, ⟨S9, N, B, X, V, hs9, K9⟩⟩
theorem rp_low {x : Int} (hx : jr x) (hI : jI tm er T h) : mj_Ok 40 270 [.ref 0, .int (jn x)] h (rJ tm er T) := by
  refine mj_Ok.of (M := mj_m270) rfl rfl rfl ?_
  obtain ⟨S, N, B, X, V, hs, K⟩ := hI
  iterate 2 refine mj_T.pl rfl rfl rfl rfl ?_
  refine rT_put (v := 0) hs rfl rfl (by decide) rfl (fun g10 hs10 => ?_)
  have K10 := K.put (k := 3) (v := 0) ⟨by decide, by decide⟩ (by decide) (by decide) (by decide) (by decide) (by decide)
  generalize jvu S 3 0 = S10 at hs10 K10
  iterate 2 refine mj_T.pl rfl rfl rfl rfl ?_
  refine mj_T.call (ins := .invokestatic 317) rfl rfl (Nat.le_of_ble_eq_true rfl) (Nat.le_of_ble_eq_true rfl) rfl rfl (mj_Ok.up (by decide) (rp_told hx)) (fun v' h' hq' => ?_) (fun i h' hq' => by obtain ⟨_, _, h⟩ := hq'; cases h)
  obtain ⟨s, hst, hq'⟩ := hq'
  cases hq'
  refine mj_T.call (ins := .invokevirtual 191) rfl rfl (Nat.le_of_ble_eq_true rfl) (Nat.le_of_ble_eq_true rfl) (by simp [mj_recv, rS_f hs10]) rfl (mj_Ok.up (by decide) (rp_asLong (D := 0) (s := s) (by omega) hs10)) (fun v' h' hq' => ?_) (fun i h' hq' => by cases hq')
  cases hq'
  exact mj_T.ret rfl rfl rfl ⟨_, _, rfl, ⟨_, _, _, _, _, hs10, K10⟩⟩
theorem rp_dt_loop {S N B X V : Nat → Int} {x y : Int} {s : Nat} (K : jK tm er S N B T) (hs : rS S N B T X V h) :
    ∀ (m v : Nat), m ≤ 8 → v < 1000000000 → mj_T 39 mj_m269 50 [some (.ref 0), some (.int (jn x)), some (.int (jn y)), some (.int (jn (s : Int))), some (.int (jn (v : Int))), some (.int (jn (m : Int)))] [] h (rI tm er T) := by
  intro m
  induction m with
  | zero =>
    intro v hm hv
    refine mj_T.pl rfl rfl rfl rfl ?_
    refine mj_T.if0 (a := ((0 : Nat) : Int)) rfl ⟨by decide, by decide⟩ (fun hc2 => ?_) (fun hc2 => ?_)
    · iterate 2 refine mj_T.pl rfl rfl rfl rfl ?_
      refine mj_T.irem (a := (v : Int)) (b := 10) rfl ⟨by omega, by omega⟩ ⟨by decide, by decide⟩ (by decide) ?_
      rw [show (v : Int).tmod 10 = ((v % 10 : Nat) : Int) from rfl]
      exact mj_T.ret rfl rfl rfl ⟨_, h, ⟨by omega, by omega⟩, rfl, ⟨_, _, _, _, _, hs, K⟩⟩
    · simp [jc] at hc2
  | succ m ih =>
    intro v hm hv
    refine mj_T.pl rfl rfl rfl rfl ?_
    refine mj_T.if0 (a := ((m + 1 : Nat) : Int)) rfl ⟨by omega, by omega⟩ (fun hc2 => ?_) (fun hc2 => ?_)
    · simp only [jc, decide_eq_true_eq] at hc2
      omega
    iterate 2 refine mj_T.pl rfl rfl rfl rfl ?_
    refine mj_T.idiv (a := (v : Int)) (b := 10) rfl ⟨by omega, by omega⟩ ⟨by decide, by decide⟩ (by decide) ?_
    rw [show (v : Int).tdiv 10 = ((v / 10 : Nat) : Int) from rfl]
    refine mj_T.pl rfl rfl rfl rfl ?_
    refine mj_T.iinc (a := ((m + 1 : Nat) : Int)) rfl rfl ?_
    refine mj_T.pl rfl rfl rfl rfl ?_
    rw [show ((m + 1 : Nat) : Int) + -1 = (m : Int) by omega]
    exact ih (v / 10) (by omega) (by omega)
theorem rp_digit {x y : Int} (hx : jr x) (hy : jr y) (hI : jI tm er T h) : mj_Ok 40 269 [.ref 0, .int (jn x), .int (jn y)] h (rI tm er T) := by
  refine mj_Ok.of (M := mj_m269) rfl rfl rfl ?_
  obtain ⟨S, N, B, X, V, hs, K⟩ := hI
  iterate 2 refine mj_T.pl rfl rfl rfl rfl ?_
  refine rT_put (v := 0) hs rfl rfl (by decide) rfl (fun g11 hs11 => ?_)
  have K11 := K.put (k := 3) (v := 0) ⟨by decide, by decide⟩ (by decide) (by decide) (by decide) (by decide) (by decide)
  generalize jvu S 3 0 = S11 at hs11 K11
  refine mj_T.pl rfl rfl rfl rfl ?_
  refine mj_T.call (ins := .invokestatic 317) rfl rfl (Nat.le_of_ble_eq_true rfl) (Nat.le_of_ble_eq_true rfl) rfl rfl (mj_Ok.up (by decide) (rp_told hx)) (fun v' h' hq' => ?_) (fun i h' hq' => by obtain ⟨_, _, h⟩ := hq'; cases h)
  obtain ⟨s, hst, hq'⟩ := hq'
  cases hq'
  iterate 2 refine mj_T.pl rfl rfl rfl rfl ?_
  refine mj_T.i2l rfl hy ?_
  iterate 3 refine mj_T.pl rfl rfl rfl rfl ?_
  refine mj_T.call (ins := .invokevirtual 321) rfl rfl (Nat.le_of_ble_eq_true rfl) (Nat.le_of_ble_eq_true rfl) (by simp [mj_recv, rS_f hs11]) rfl (mj_Ok.up (by decide) (rp_digitsOf (s := s) (by omega) hs11)) (fun v' h' hq' => ?_) (fun i h' hq' => by obtain ⟨_, _, h⟩ := hq'; cases h)
  obtain ⟨c, hc9, hq'⟩ := hq'
  cases hq'
  refine mj_T.pl rfl rfl rfl rfl ?_
  refine mj_T.isub (a := (c : Int)) (b := 1) rfl ?_
  refine mj_T.i2l rfl ⟨by omega, by omega⟩ ?_
  refine mj_T.call (ins := .invokestatic 177) rfl rfl (Nat.le_of_ble_eq_true rfl) (Nat.le_of_ble_eq_true rfl) rfl rfl (mj_Ok.up (by decide) (rp_in (D := 0) (v := y) (lo := 0) (hi := (c : Int) - 1) ⟨by have := hy.1; omega, by have := hy.2; omega⟩ ⟨by decide, by decide⟩ ⟨by omega, by omega⟩)) (fun v' h' hq' => ?_) (fun i h' hq' => by rcases hq' with ⟨_, _, h⟩ | ⟨_, h⟩ <;> cases h)
  rcases hq' with ⟨y1, y2, hq'⟩ | ⟨_, hq'⟩
  case' inr =>
    cases hq'
    refine mj_T.if0 (a := 0) rfl ⟨by decide, by decide⟩ (fun hc => ?_) (fun hc => ?_)
    · simp [jc] at hc
    iterate 2 refine mj_T.pl rfl rfl rfl rfl ?_
    refine mj_T.call (ins := .invokevirtual 198) rfl rfl (Nat.le_of_ble_eq_true rfl) (Nat.le_of_ble_eq_true rfl) (by simp [mj_recv, rS_f hs11]) rfl (mj_Ok.up (by decide) (rp_fails (D := 0) (c := 1) hs11)) (fun v' g12 hq' => ?_) (fun i h' hq' => by obtain ⟨_, _, h⟩ := hq'; cases h)
    obtain ⟨_, hs12, hq'⟩ := hq'
    cases hq'
    exact mj_T.ret rfl rfl rfl ⟨0, g12, ⟨by decide, by decide⟩, rfl, ⟨_, N, B, X, V, hs12, K11.put ⟨by decide, by decide⟩ (by decide) (by decide) (by decide) (by decide) (by decide)⟩⟩
  cases hq'
  refine mj_T.if0 (a := 1) rfl ⟨by decide, by decide⟩ (fun hc => ?_) (fun hc => ?_)
  rotate_left
  · simp [jc] at hc
  obtain ⟨y, rfl⟩ := Int.eq_ofNat_of_zero_le y1
  iterate 4 refine mj_T.pl rfl rfl rfl rfl ?_
  refine mj_T.idiv (a := (y : Int)) (b := 9) rfl ⟨by omega, by omega⟩ ⟨by decide, by decide⟩ (by decide) ?_
  rw [show (y : Int).tdiv 9 = ((y / 9 : Nat) : Int) from rfl]
  refine mj_T.call (ins := .invokevirtual 64) rfl rfl (Nat.le_of_ble_eq_true rfl) (Nat.le_of_ble_eq_true rfl) (by simp [mj_recv, rS_f hs11]) rfl (mj_Ok.up (by decide) (jS_limb (D := 0) (rG S11 N B T X) (s := s) (j := y / 9) (by omega) (by omega) hs11)) (fun v' h' hq' => ?_) (fun i h' hq' => by cases hq')
  cases hq'
  have hlb := jlb_lt (V s).natAbs (y / 9)
  iterate 3 refine mj_T.pl rfl rfl rfl rfl ?_
  refine mj_T.irem (a := (y : Int)) (b := 9) rfl ⟨by omega, by omega⟩ ⟨by decide, by decide⟩ (by decide) ?_
  rw [show (y : Int).tmod 9 = ((y % 9 : Nat) : Int) from rfl]
  refine mj_T.pl rfl rfl rfl rfl ?_
  exact rp_dt_loop K11 hs11 (y % 9) _ (by omega) hlb
theorem rp_pointCount  (hI : jI tm er T h) : mj_Ok 40 283 [.ref 0] h (rI tm er T) := by
  refine mj_Ok.of (M := mj_m283) rfl rfl rfl ?_
  obtain ⟨S, N, B, X, V, hs, K⟩ := hI
  iterate 2 refine mj_T.pl rfl rfl rfl rfl ?_
  refine rT_put (v := 0) hs rfl rfl (by decide) rfl (fun g13 hs13 => ?_)
  have K13 := K.put (k := 3) (v := 0) ⟨by decide, by decide⟩ (by decide) (by decide) (by decide) (by decide) (by decide)
  generalize jvu S 3 0 = S13 at hs13 K13
  refine mj_T.pl rfl rfl rfl rfl ?_
  refine rT_get hs13 rfl rfl ?_
  refine mj_T.pl rfl rfl rfl rfl ?_
  have hg := K13.1.2.1
  refine rT_ldN (i := ((78 : Nat) : Int)) hs13 rfl ⟨by decide, by decide⟩ ?_
  rw [Int.toNat_natCast]
  refine mj_T.l2i rfl ?_
  exact mj_T.ret rfl rfl rfl ⟨_, g13, ⟨by omega, by omega⟩, rfl, ⟨S13, N, B, X, V, hs13, K13⟩⟩
theorem rp_gcd_loop {S N B X : Nat → Int} {x : Nat} {y z : Int} (hx : x ≤ 5) (K : jK tm er S N B T) :
    ∀ (m k : Nat) (V : Nat → Int) (h : mj_H), k + m = 13 → rS S N B T X V h → (V 656).natAbs ≤ 10 ^ 18 → (∀ e, k ≤ e → e < 13 → (V (4 * 13 + e)).natAbs ≤ kq_F (10 ^ 18) 24) → mj_T 39 mj_m238 74 [some (.ref 0), some (.int (jn (x : Int))), some (.int (jn y)), some (.int (jn z)), some (.int (jn (k : Int)))] [] h (rI tm er T) := by
  intro m
  induction m with
  | zero =>
    intro k V h hk hs c1 c2
    have hk : k = 13 := by omega
    subst hk
    iterate 2 refine mj_T.pl rfl rfl rfl rfl ?_
    refine mj_T.icmp (a := ((13 : Nat) : Int)) (b := 13) rfl ⟨by decide, by decide⟩ ⟨by decide, by decide⟩ (fun hc => ?_) (fun hc => ?_)
    rotate_left
    · simp [jc] at hc
    iterate 4 refine mj_T.pl rfl rfl rfl rfl ?_
    refine mj_T.call (ins := .invokevirtual 219) rfl rfl (Nat.le_of_ble_eq_true rfl) (Nat.le_of_ble_eq_true rfl) (by simp [mj_recv, rS_f hs]) rfl (mj_Ok.up (by decide) (rp_puts (D := 0) (r := x) (p := 4) (c := 2) (by omega) (by decide) ⟨by decide, by decide⟩ K hs)) (fun v' h' hq' => ?_) (fun i h' hq' => by obtain ⟨_, _, _, h, _⟩ := hq'; cases h)
    obtain ⟨z9, h9, hz9, e9, hI9⟩ := hq'
    cases e9
    exact mj_T.ret rfl rfl rfl ⟨z9, _, hz9, rfl, hI9⟩
  | succ m ih =>
    intro k V h hk hs c1 c2
    iterate 2 refine mj_T.pl rfl rfl rfl rfl ?_
    refine mj_T.icmp (a := (k : Int)) (b := 13) rfl ⟨by omega, by omega⟩ ⟨by decide, by decide⟩ (fun hc => ?_) (fun hc => ?_)
    · simp only [jc, decide_eq_true_eq] at hc
      omega
    iterate 3 refine mj_T.pl rfl rfl rfl rfl ?_
    refine mj_T.call (ins := .invokestatic 104) rfl rfl (Nat.le_of_ble_eq_true rfl) (Nat.le_of_ble_eq_true rfl) rfl rfl (mj_Ok.up (by decide) (jq_slot (D := 0) (p := 4) (i := k))) (fun v' h' hq' => ?_) (fun i h' hq' => by cases hq')
    cases hq'
    iterate 2 refine mj_T.pl rfl rfl rfl rfl ?_
    refine mj_T.call (ins := .invokestatic 104) rfl rfl (Nat.le_of_ble_eq_true rfl) (Nat.le_of_ble_eq_true rfl) rfl rfl (mj_Ok.up (by decide) (jq_slot (D := 0) (p := 4) (i := k))) (fun v' h' hq' => ?_) (fun i h' hq' => by cases hq')
    cases hq'
    refine mj_T.pl rfl rfl rfl rfl ?_
    refine mj_T.call (ins := .invokevirtual 117) rfl rfl (Nat.le_of_ble_eq_true rfl) (Nat.le_of_ble_eq_true rfl) (by simp [mj_recv, rS_f hs]) rfl (mj_Ok.up (by decide) (jS_mul (D := 0) (V := V) (rG S N B T X) (to := 4 * 13 + k) (a := 4 * 13 + k) (b := 656) (by omega) (by omega) (by decide) (jnl_of_lt (M := kq_F (10 ^ 18) 24 * 10 ^ 18) (by rw [Int.natAbs_mul]; exact Nat.mul_le_mul (c2 k (by omega) (by omega)) c1) rp_small5) hs)) (fun v' g1 hq' => ?_) (fun i h' hq' => by obtain ⟨_, _, h⟩ := hq'; cases h)
    obtain ⟨_, hs1, hq'⟩ := hq'
    cases hq'
    refine mj_T.iinc (a := (k : Int)) rfl rfl ?_
    refine mj_T.pl rfl rfl rfl rfl ?_
    exact ih (k + 1) _ g1 (by omega) hs1 (by rw [jvu_ne _ _ _ (by omega)]; exact c1) (fun e e1 e2 => by rw [jvu_ne _ _ _ (by omega)]; exact c2 e (by omega) e2)
theorem rp_gcd {x y z : Int} (hx : jr x) (hy : jr y) (hz : jr z) (hI : jI tm er T h) : mj_Ok 40 238 [.ref 0, .int (jn x), .int (jn y), .int (jn z)] h (rI tm er T) := by
  refine mj_Ok.of (M := mj_m238) rfl rfl rfl ?_
  obtain ⟨S, N, B, X, V, hs, K⟩ := hI
  iterate 2 refine mj_T.pl rfl rfl rfl rfl ?_
  refine rT_put (v := 0) hs rfl rfl (by decide) rfl (fun g15 hs15 => ?_)
  have K15 := K.put (k := 3) (v := 0) ⟨by decide, by decide⟩ (by decide) (by decide) (by decide) (by decide) (by decide)
  generalize jvu S 3 0 = S15 at hs15 K15
  iterate 3 refine mj_T.pl rfl rfl rfl rfl ?_
  refine mj_T.call (ins := .invokestatic 210) rfl rfl (Nat.le_of_ble_eq_true rfl) (Nat.le_of_ble_eq_true rfl) rfl rfl (mj_Ok.up (by decide) (rp_areRegisters (D := 0) hx hy hz)) (fun v' h' hq' => ?_) (fun i h' hq' => by rcases hq' with ⟨_, _, h⟩ | ⟨_, h⟩ <;> cases h)
  rcases hq' with ⟨⟨x1, x2⟩, ⟨y3, y4, z5, z6⟩, hq'⟩ | ⟨_, hq'⟩
  case' inr =>
    cases hq'
    refine mj_T.if0 (a := 0) rfl ⟨by decide, by decide⟩ (fun hc => ?_) (fun hc => ?_)
    · simp [jc] at hc
    iterate 2 refine mj_T.pl rfl rfl rfl rfl ?_
    refine mj_T.call (ins := .invokevirtual 198) rfl rfl (Nat.le_of_ble_eq_true rfl) (Nat.le_of_ble_eq_true rfl) (by simp [mj_recv, rS_f hs15]) rfl (mj_Ok.up (by decide) (rp_fails (D := 0) (c := 1) hs15)) (fun v' g16 hq' => ?_) (fun i h' hq' => by obtain ⟨_, _, h⟩ := hq'; cases h)
    obtain ⟨_, hs16, hq'⟩ := hq'
    cases hq'
    exact mj_T.ret rfl rfl rfl ⟨0, g16, ⟨by decide, by decide⟩, rfl, ⟨_, N, B, X, V, hs16, K15.put ⟨by decide, by decide⟩ (by decide) (by decide) (by decide) (by decide) (by decide)⟩⟩
  cases hq'
  refine mj_T.if0 (a := 1) rfl ⟨by decide, by decide⟩ (fun hc => ?_) (fun hc => ?_)
  rotate_left
  · simp [jc] at hc
  obtain ⟨x, rfl⟩ := Int.eq_ofNat_of_zero_le x1
  obtain ⟨y, rfl⟩ := Int.eq_ofNat_of_zero_le y3
  obtain ⟨z, rfl⟩ := Int.eq_ofNat_of_zero_le z5
  iterate 3 refine mj_T.pl rfl rfl rfl rfl ?_
  refine mj_T.call (ins := .invokevirtual 213) rfl rfl (Nat.le_of_ble_eq_true rfl) (Nat.le_of_ble_eq_true rfl) (by simp [mj_recv, rS_f hs15]) rfl (mj_Ok.up (by decide) (rp_loads (D := 0) (p := 5) (r := y) (by decide) (by omega) K15.nR hs15)) (fun v' g17 hq' => ?_) (fun i h' hq' => by obtain ⟨_, _, h⟩ := hq'; cases h)
  obtain ⟨_, hs17, hq'⟩ := hq'
  cases hq'
  have a17 : ∀ e, e < 13 → jfl V 5 (fun e => N (y * 13 + e)) 13 (5 * 13 + e) = N (y * 13 + e) := fun e he => jfl_at _ _ _ he
  have b17 : ∀ s, (s < 5 * 13 ∨ 5 * 13 + 13 ≤ s) → jfl V 5 (fun e => N (y * 13 + e)) 13 s = V s := fun s hc => jfl_off _ _ _ hc
  generalize jfl V 5 (fun e => N (y * 13 + e)) 13 = W17 at hs17 a17 b17
  iterate 3 refine mj_T.pl rfl rfl rfl rfl ?_
  refine mj_T.call (ins := .invokevirtual 213) rfl rfl (Nat.le_of_ble_eq_true rfl) (Nat.le_of_ble_eq_true rfl) (by simp [mj_recv, rS_f hs17]) rfl (mj_Ok.up (by decide) (rp_loads (D := 0) (p := 6) (r := z) (by decide) (by omega) K15.nR hs17)) (fun v' g18 hq' => ?_) (fun i h' hq' => by obtain ⟨_, _, h⟩ := hq'; cases h)
  obtain ⟨_, hs18, hq'⟩ := hq'
  cases hq'
  have a18 : ∀ e, e < 13 → jfl W17 6 (fun e => N (z * 13 + e)) 13 (6 * 13 + e) = N (z * 13 + e) := fun e he => jfl_at _ _ _ he
  have b18 : ∀ s, (s < 6 * 13 ∨ 6 * 13 + 13 ≤ s) → jfl W17 6 (fun e => N (z * 13 + e)) 13 s = W17 s := fun s hc => jfl_off _ _ _ hc
  generalize jfl W17 6 (fun e => N (z * 13 + e)) 13 = W18 at hs18 a18 b18
  have c1 : ∀ e, e < 13 → (W18 (5 * 13 + e)).natAbs ≤ 10 ^ 18 := fun e he => by
    rw [b18 _ (by omega), a17 e he]
    exact K15.sh (r := y) (by omega) he
  have c2 : ∀ e, e < 13 → (W18 (6 * 13 + e)).natAbs ≤ 10 ^ 18 := fun e he => by
    rw [a18 e he]
    exact K15.sh (r := z) (by omega) he
  iterate 3 refine mj_T.pl rfl rfl rfl rfl ?_
  refine mj_T.call (ins := .invokevirtual 130) rfl rfl (Nat.le_of_ble_eq_true rfl) (Nat.le_of_ble_eq_true rfl) (by simp [mj_recv, rS_f hs18]) rfl (mj_Ok.up (by decide) (jp_contents (D := 0) (rG S15 N B T X) (to := 661) (p := 5) (by decide) (by decide) (by decide) (by decide) (by decide) (by decide) (by decide) hs18)) (fun v' g19 hq' => ?_) (fun i h' hq' => by obtain ⟨_, _, _, _, _, h⟩ := hq'; cases h)
  obtain ⟨W19, _, hs19, d1, d2, hq'⟩ := hq'
  cases hq'
  iterate 3 refine mj_T.pl rfl rfl rfl rfl ?_
  refine mj_T.call (ins := .invokevirtual 130) rfl rfl (Nat.le_of_ble_eq_true rfl) (Nat.le_of_ble_eq_true rfl) (by simp [mj_recv, rS_f hs19]) rfl (mj_Ok.up (by decide) (jp_contents (D := 0) (rG S15 N B T X) (to := 662) (p := 6) (by decide) (by decide) (by decide) (by decide) (by decide) (by decide) (by decide) hs19)) (fun v' g20 hq' => ?_) (fun i h' hq' => by obtain ⟨_, _, _, _, _, h⟩ := hq'; cases h)
  obtain ⟨W20, _, hs20, d3, d4, hq'⟩ := hq'
  cases hq'
  iterate 4 refine mj_T.pl rfl rfl rfl rfl ?_
  refine mj_T.call (ins := .invokevirtual 127) rfl rfl (Nat.le_of_ble_eq_true rfl) (Nat.le_of_ble_eq_true rfl) (by simp [mj_recv, rS_f hs20]) rfl (mj_Ok.up (by decide) (jp_commons (D := 0) (V := W20) (rG S15 N B T X) (to := 656) (i := 661) (j := 662) (by decide) (by decide) (by decide) (by decide) (by decide) (by decide) (by decide) hs20)) (fun v' g21 hq' => ?_) (fun i h' hq' => by obtain ⟨_, _, _, _, _, h⟩ := hq'; cases h)
  obtain ⟨W21, _, hs21, d5, d6, hq'⟩ := hq'
  cases hq'
  have k5 : jgk W18 5 13 ≤ 10 ^ 18 := jgk_le c1
  have c3 : ∀ e, e < 13 → (W19 (6 * 13 + e)).natAbs ≤ 10 ^ 18 := fun e he => by rw [d2 _ (by omega) (by omega) (by omega) (by omega) (by omega)]; exact c2 e he
  have k6 : jgk W19 6 13 ≤ 10 ^ 18 := jgk_le c3
  have k7 : (W21 656).natAbs ≤ 10 ^ 18 := by rw [d5, d4 661 (by decide) (by decide) (by decide) (by decide) (by decide), d1, d3, Int.natAbs_natCast, Int.natAbs_natCast, Int.natAbs_natCast]; exact gcd_le2 k5 k6
  have c5 : ∀ e, e < 13 → (W21 (5 * 13 + e)).natAbs ≤ 10 ^ 18 := fun e he => by rw [d6 _ (by omega) (by omega) (by omega) (by omega), d4 _ (by omega) (by omega) (by omega) (by omega) (by omega), d2 _ (by omega) (by omega) (by omega) (by omega) (by omega)]; exact c1 e he
  have c6 : ∀ e, e < 13 → (W21 (6 * 13 + e)).natAbs ≤ 10 ^ 18 := fun e he => by rw [d6 _ (by omega) (by omega) (by omega) (by omega), d4 _ (by omega) (by omega) (by omega) (by omega) (by omega)]; exact c3 e he
  iterate 4 refine mj_T.pl rfl rfl rfl rfl ?_
  refine mj_T.call (ins := .invokevirtual 152) rfl rfl (Nat.le_of_ble_eq_true rfl) (Nat.le_of_ble_eq_true rfl) (by simp [mj_recv, rS_f hs21]) rfl (mj_Ok.up (by decide) (jp_commonsA (D := 0) (V := W21) (rG S15 N B T X) (A := 10 ^ 18) kq_fit18 (to := 4) (a := 5) (b := 6) (by decide) (by decide) (by decide) (by decide) (by decide) (by decide) (by decide) (by decide) (by decide) c5 c6 hs21)) (fun v' g22 hq' => ?_) (fun i h' hq' => by obtain ⟨_, _, _, _, _, h⟩ := hq'; cases h)
  obtain ⟨W22, _, hs22, d7, ⟨d8, _⟩, hq'⟩ := hq'
  cases hq'
  iterate 2 refine mj_T.pl rfl rfl rfl rfl ?_
  exact rp_gcd_loop (by omega) K15 13 0 _ _ (by omega) hs22 (by rw [d7 656 (by decide) (by decide) (by decide) (by decide) (by decide) (by decide) (by decide) (by decide) (by decide) (by decide)]; exact k7) (fun e _ he => by have := d8 e; rw [jpo_at he] at this; exact this)
end RPU
