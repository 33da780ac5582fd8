/-! Calls of the reference: residues, terms, points, undo. -/
theorem gN_put {N : Nat → Int} {j : Nat} {z : Int} (g : gN N) (hj : j < 78) (hz : -999999999999999999 ≤ z ∧ z ≤ 999999999999999999) : gN (jvu N j z) := by
  obtain ⟨g1, g2, g3, g4⟩ := g
  have e : ∀ x, 78 ≤ x → jvu N j z x = N x := fun x hx => jvu_ne _ _ _ (by omega)
  refine ⟨fun x hx => ?_, by rw [e 78 (by decide)]; exact g2, fun k hk => by rw [e _ (by omega), e _ (by omega)]; exact g3 k hk, fun i k hij hk => ?_⟩
  · by_cases q : x = j
    · subst q
      rw [jvu_at]
      exact hz
    · rw [jvu_ne _ _ _ q]
      exact g1 x hx
  · rw [e 78 (by decide)] at hk
    rw [e _ (by omega), e _ (by omega)]
    exact g4 i k hij hk
section RPU
variable {h : mj_H} {tm er : Int} {T : Nat → Int}
theorem rp_prime_loop {D x : Nat} (hx : 2 ≤ x) (hx2 : x ≤ 97) {Q : mj_R → Prop} (q1 : Q (.inl (some (.int (jn 1))), h)) (q0 : Q (.inl (some (.int (jn 0))), h)) :
    ∀ (m k : Nat), k + m = x → 2 ≤ k → mj_T D mj_m241 14 [some (.int (jn (x : Int))), some (.int (jn 1)), some (.int (jn (k : Int)))] [] h Q := by
  intro m
  induction m with
  | zero =>
    intro k hk h2
    iterate 2 refine mj_T.pl rfl rfl rfl rfl ?_
    refine mj_T.icmp (a := (k : Int)) (b := (x : Int)) rfl ⟨by omega, by omega⟩ ⟨by omega, by omega⟩ (fun hc => ?_) (fun hc => ?_)
    · refine mj_T.pl rfl rfl rfl rfl ?_
      exact mj_T.ret rfl rfl rfl q1
    · simp only [jc, decide_eq_false_iff_not] at hc
      omega
  | succ m ih =>
    intro k hk h2
    iterate 2 refine mj_T.pl rfl rfl rfl rfl ?_
    refine mj_T.icmp (a := (k : Int)) (b := (x : Int)) rfl ⟨by omega, by omega⟩ ⟨by omega, by omega⟩ (fun hc => ?_) (fun hc => ?_)
    · simp only [jc, decide_eq_true_eq] at hc
      omega
    refine mj_T.pl rfl rfl rfl rfl ?_
    refine mj_T.if0 (a := 1) rfl ⟨by decide, by decide⟩ (fun hc => ?_) (fun hc => ?_)
    · simp [jc] at hc
    iterate 2 refine mj_T.pl rfl rfl rfl rfl ?_
    refine mj_T.irem (a := (x : Int)) (b := (k : Int)) rfl ⟨by omega, by omega⟩ ⟨by omega, by omega⟩ (by omega) ?_
    have ht : (x : Int).tmod (k : Int) = ((x % k : Nat) : Int) := rfl
    have hl : x % k < k := Nat.mod_lt _ (by omega)
    refine mj_T.if0 (a := (x : Int).tmod (k : Int)) rfl ⟨by omega, by omega⟩ (fun hc => ?_) (fun hc => ?_)
    · refine mj_T.pl rfl rfl rfl rfl ?_
      refine mj_T.pl rfl rfl rfl rfl ?_
      refine mj_T.iinc (a := (k : Int)) rfl rfl ?_
      iterate 3 refine mj_T.pl rfl rfl rfl rfl ?_
      have t41 : mj_T D mj_m241 41 [some (.int (jn (x : Int))), some (.int (jn 0)), some (.int (jn ((k : Int) + 1)))] [] h Q := by
        refine mj_T.pl rfl rfl rfl rfl ?_
        exact mj_T.ret rfl rfl rfl q0
      refine mj_T.icmp (a := (k : Int) + 1) (b := (x : Int)) rfl ⟨by omega, by omega⟩ ⟨by omega, by omega⟩ (fun hc => ?_) (fun hc => ?_)
      · exact t41
      refine mj_T.pl rfl rfl rfl rfl ?_
      refine mj_T.if0 (a := 0) rfl ⟨by decide, by decide⟩ (fun hc => ?_) (fun hc => ?_)
      · exact t41
      · simp [jc] at hc
    · iterate 3 refine mj_T.pl rfl rfl rfl rfl ?_
      refine mj_T.iinc (a := (k : Int)) rfl rfl ?_
      refine mj_T.pl rfl rfl rfl rfl ?_
      exact ih (k + 1) (by omega) (by omega)
theorem rp_isPrime {x : Int} (hx : jr x) : mj_Ok 39 241 [.int (jn x)] h (fun r => (2 ≤ x ∧ x ≤ 97 ∧ r = (.inl (some (.int (jn 1))), h)) ∨ (True ∧ r = (.inl (some (.int (jn 0))), h))) := by
  refine mj_Ok.of (M := mj_m241) rfl rfl rfl ?_
  refine mj_T.pl rfl rfl rfl rfl ?_
  refine mj_T.i2l rfl hx ?_
  iterate 2 refine mj_T.pl rfl rfl rfl rfl ?_
  refine mj_T.call (ins := .invokestatic 177) rfl rfl (Nat.le_of_ble_eq_true rfl) (Nat.le_of_ble_eq_true rfl) rfl rfl (mj_Ok.up (by decide) (rp_in (D := 0) (v := x) (lo := 2) (hi := 97) ⟨by have := hx.1; omega, by have := hx.2; omega⟩ ⟨by decide, by decide⟩ ⟨by decide, by decide⟩)) (fun v' h' hq' => ?_) (fun i h' hq' => by rcases hq' with ⟨_, _, h⟩ | ⟨_, h⟩ <;> cases h)
  rcases hq' with ⟨c1, c2, hq'⟩ | ⟨_, hq'⟩
  · cases hq'
    obtain ⟨x, rfl⟩ := Int.eq_ofNat_of_zero_le (show 0 ≤ x by omega)
    iterate 3 refine mj_T.pl rfl rfl rfl rfl ?_
    exact rp_prime_loop (D := 38) (x := x) (by omega) (by omega) (Or.inl ⟨c1, c2, rfl⟩) (Or.inr ⟨trivial, rfl⟩) (x - 2) 2 (by omega) (by decide)
  · cases hq'
    iterate 5 refine mj_T.pl rfl rfl rfl rfl ?_
    have t41 : mj_T 38 mj_m241 41 [some (.int (jn x)), some (.int (jn 0)), some (.int (jn 2))] [] h (fun r => (2 ≤ x ∧ x ≤ 97 ∧ r = (.inl (some (.int (jn 1))), h)) ∨ (True ∧ r = (.inl (some (.int (jn 0))), h))) := by
      refine mj_T.pl rfl rfl rfl rfl ?_
      exact mj_T.ret rfl rfl rfl (Or.inr ⟨trivial, rfl⟩)
    refine mj_T.icmp (a := 2) (b := x) rfl ⟨by decide, by decide⟩ hx (fun hc => ?_) (fun hc => ?_)
    · exact t41
    refine mj_T.pl rfl rfl rfl rfl ?_
    refine mj_T.if0 (a := 0) rfl ⟨by decide, by decide⟩ (fun hc => ?_) (fun hc => ?_)
    · exact t41
    · simp [jc] at hc
theorem rp_rest {S N B X V : Nat → Int} {D r e x : Nat} (hr : r ≤ 5) (he : e < 13) (hx : 2 ≤ x) (hx2 : x ≤ 97) (hN : jR (N (r * 13 + e))) (hs : rS S N B T X V h) : mj_Ok (D + 1) 242 [.ref 0, .int (jn (r : Nat)), .int (jn (e : Nat)), .int (jn (x : Nat))] h (fun z => ∃ v : Int, (0 ≤ v ∧ v < x) ∧ z = (.inl (some (.long (jl v))), h)) := by
  refine mj_Ok.of (M := mj_m242) rfl rfl rfl ?_
  refine mj_T.pl rfl rfl rfl rfl ?_
  refine rT_get hs rfl rfl ?_
  iterate 2 refine mj_T.pl rfl rfl rfl rfl ?_
  refine mj_T.imul (a := (r : Int)) (b := 13) rfl ?_
  refine mj_T.pl rfl rfl rfl rfl ?_
  refine mj_T.iadd rfl ?_
  rw [show (r : Int) * 13 + (e : Int) = ((r * 13 + e : Nat) : Int) by omega]
  refine rT_ldN hs rfl ⟨by omega, by omega⟩ ?_
  rw [Int.toNat_natCast]
  refine mj_T.pl rfl rfl rfl rfl ?_
  refine mj_T.i2l rfl ⟨by omega, by omega⟩ ?_
  have t1 := Int.tmod_lt_of_pos (N (r * 13 + e)) (show (0 : Int) < (x : Int) by omega)
  have t2 := Int.lt_tmod_of_pos (N (r * 13 + e)) (show (0 : Int) < (x : Int) by omega)
  refine mj_T.lrem (a := N (r * 13 + e)) (b := (x : Int)) rfl hN ⟨by omega, by omega⟩ (by omega) ?_
  iterate 3 refine mj_T.pl rfl rfl rfl rfl ?_
  refine mj_T.lif (a := (N (r * 13 + e)).tmod (x : Int)) (b := 0) rfl rfl ⟨by omega, by omega⟩ ⟨by decide, by decide⟩ (fun hc => ?_) (fun hc => ?_)
  · simp only [jc, decide_eq_true_eq] at hc
    refine mj_T.pl rfl rfl rfl rfl ?_
    exact mj_T.ret rfl rfl rfl ⟨_, ⟨hc, t1⟩, rfl⟩
  · simp only [jc, decide_eq_false_iff_not] at hc
    iterate 2 refine mj_T.pl rfl rfl rfl rfl ?_
    refine mj_T.i2l rfl ⟨by omega, by omega⟩ ?_
    refine mj_T.ladd rfl ?_
    refine mj_T.pl rfl rfl rfl rfl ?_
    exact mj_T.ret rfl rfl rfl ⟨_, ⟨by omega, by omega⟩, rfl⟩
theorem rp_res_loop {S B X V : Nat → Int} {x y z : Nat} (hx : x ≤ 5) (hy : y ≤ 5) (hz : 2 ≤ z) (hz2 : z ≤ 97) :
    ∀ (d k : Nat) (N : Nat → Int) (h : mj_H), k + d = 13 → rS S N B T X V h → jK tm er S N B T → mj_T 39 mj_m243 40 [some (.ref 0), some (.int (jn (x : Int))), some (.int (jn (y : Int))), some (.int (jn (z : Int))), some (.int (jn (k : Int)))] [] h (rI tm er T) := by
  intro d
  induction d with
  | zero =>
    intro k N h hk hs K
    have hk : k = 13 := by omega
    subst hk
    iterate 2 refine mj_T.pl rfl rfl rfl rfl ?_
    refine mj_T.icmp (a := ((13 : Nat) : Int)) (b := 13) rfl ⟨by decide, by decide⟩ ⟨by decide, by decide⟩ (fun hc => ?_) (fun hc => ?_)
    · have hd := jdg_le N x 13
      iterate 2 refine mj_T.pl rfl rfl rfl rfl ?_
      refine mj_T.call (ins := .invokevirtual 185) rfl rfl (Nat.le_of_ble_eq_true rfl) (Nat.le_of_ble_eq_true rfl) (by simp [mj_recv, rS_f hs]) rfl (mj_Ok.up (by decide) (rp_degreeIn (D := 0) (r := x) hx K.nR hs)) (fun v' h' hq' => ?_) (fun i h' hq' => by cases hq')
      cases hq'
      exact mj_T.ret rfl rfl rfl ⟨_, h, ⟨by omega, by omega⟩, rfl, ⟨S, N, B, X, V, hs, K⟩⟩
    · simp [jc] at hc
  | succ d ih =>
    intro k N h hk hs K
    iterate 2 refine mj_T.pl rfl rfl rfl rfl ?_
    refine mj_T.icmp (a := (k : Int)) (b := 13) rfl ⟨by omega, by omega⟩ ⟨by decide, by decide⟩ (fun hc => ?_) (fun hc => ?_)
    · simp only [jc, decide_eq_true_eq] at hc
      omega
    refine mj_T.pl rfl rfl rfl rfl ?_
    refine rT_get hs rfl rfl ?_
    iterate 2 refine mj_T.pl rfl rfl rfl rfl ?_
    refine mj_T.imul (a := (x : Int)) (b := 13) rfl ?_
    refine mj_T.pl rfl rfl rfl rfl ?_
    refine mj_T.iadd rfl ?_
    rw [show (x : Int) * 13 + (k : Int) = ((x * 13 + k : Nat) : Int) by omega]
    iterate 4 refine mj_T.pl rfl rfl rfl rfl ?_
    refine mj_T.call (ins := .invokevirtual 243) rfl rfl (Nat.le_of_ble_eq_true rfl) (Nat.le_of_ble_eq_true rfl) (by simp [mj_recv, rS_f hs]) rfl (mj_Ok.up (by decide) (rp_rest (D := 0) (r := y) (e := k) (x := z) hy (by omega) hz hz2 (K.nR _ (by omega)) hs)) (fun v' h' hq' => ?_) (fun i h' hq' => by obtain ⟨_, _, h⟩ := hq'; cases h)
    obtain ⟨v, hv, hq'⟩ := hq'
    cases hq'
    refine rT_stN hs rfl ⟨by omega, by omega⟩ (fun h1 hs1 => ?_)
    rw [Int.toNat_natCast] at hs1
    refine mj_T.iinc (a := (k : Int)) rfl rfl ?_
    refine mj_T.pl rfl rfl rfl rfl ?_
    exact ih (k + 1) _ h1 (by omega) hs1 (K.row (gN_put K.1 (by omega) ⟨by omega, by omega⟩))
theorem rp_residue {x y z : Int} (hx : jr x) (hy : jr y) (hz : jr z) (hI : jI tm er T h) : mj_Ok 40 243 [.ref 0, .int (jn x), .int (jn y), .int (jn z)] h (rI tm er T) := by
  refine mj_Ok.of (M := mj_m243) rfl rfl rfl ?_
  obtain ⟨S, N, B, X, V, hs, K⟩ := hI
  iterate 2 refine mj_T.pl rfl rfl rfl rfl ?_
  refine rT_put (v := 0) hs rfl rfl (by decide) rfl (fun g1 hs1 => ?_)
  have K1 := K.put (k := 3) (v := 0) ⟨by decide, by decide⟩ (by decide) (by decide) (by decide) (by decide) (by decide)
  generalize jvu S 3 0 = S1 at hs1 K1
  iterate 3 refine mj_T.pl rfl rfl rfl rfl ?_
  refine mj_T.call (ins := .invokestatic 210) rfl rfl (Nat.le_of_ble_eq_true rfl) (Nat.le_of_ble_eq_true rfl) rfl rfl (mj_Ok.up (by decide) (rp_areRegisters (D := 0) hx hy hy)) (fun v' h' hq' => ?_) (fun i h' hq' => by rcases hq' with ⟨_, _, h⟩ | ⟨_, h⟩ <;> cases h)
  rcases hq' with ⟨⟨x1, x2⟩, ⟨y3, y4, y5, y6⟩, hq'⟩ | ⟨_, hq'⟩
  case' inr =>
    cases hq'
    refine mj_T.if0 (a := 0) rfl ⟨by decide, by decide⟩ (fun hc => ?_) (fun hc => ?_)
    · simp [jc] at hc
    iterate 2 refine mj_T.pl rfl rfl rfl rfl ?_
    refine mj_T.call (ins := .invokevirtual 198) rfl rfl (Nat.le_of_ble_eq_true rfl) (Nat.le_of_ble_eq_true rfl) (by simp [mj_recv, rS_f hs1]) rfl (mj_Ok.up (by decide) (rp_fails (D := 0) (c := 1) hs1)) (fun v' g2 hq' => ?_) (fun i h' hq' => by obtain ⟨_, _, h⟩ := hq'; cases h)
    obtain ⟨_, hs2, hq'⟩ := hq'
    cases hq'
    exact mj_T.ret rfl rfl rfl ⟨0, g2, ⟨by decide, by decide⟩, rfl, ⟨_, N, B, X, V, hs2, K1.put ⟨by decide, by decide⟩ (by decide) (by decide) (by decide) (by decide) (by decide)⟩⟩
  cases hq'
  refine mj_T.if0 (a := 1) rfl ⟨by decide, by decide⟩ (fun hc => ?_) (fun hc => ?_)
  rotate_left
  · simp [jc] at hc
  obtain ⟨x, rfl⟩ := Int.eq_ofNat_of_zero_le x1
  obtain ⟨y, rfl⟩ := Int.eq_ofNat_of_zero_le y3
  refine mj_T.pl rfl rfl rfl rfl ?_
  refine mj_T.call (ins := .invokestatic 240) rfl rfl (Nat.le_of_ble_eq_true rfl) (Nat.le_of_ble_eq_true rfl) rfl rfl (mj_Ok.up (by decide) (rp_isPrime hz)) (fun v' h' hq' => ?_) (fun i h' hq' => by rcases hq' with ⟨_, _, h⟩ | ⟨_, h⟩ <;> cases h)
  rcases hq' with ⟨z1, z2, hq'⟩ | ⟨_, hq'⟩
  case' inr =>
    cases hq'
    refine mj_T.if0 (a := 0) rfl ⟨by decide, by decide⟩ (fun hc => ?_) (fun hc => ?_)
    · simp [jc] at hc
    iterate 2 refine mj_T.pl rfl rfl rfl rfl ?_
    refine mj_T.call (ins := .invokevirtual 198) rfl rfl (Nat.le_of_ble_eq_true rfl) (Nat.le_of_ble_eq_true rfl) (by simp [mj_recv, rS_f hs1]) rfl (mj_Ok.up (by decide) (rp_fails (D := 0) (c := 2) hs1)) (fun v' g3 hq' => ?_) (fun i h' hq' => by obtain ⟨_, _, h⟩ := hq'; cases h)
    obtain ⟨_, hs3, hq'⟩ := hq'
    cases hq'
    exact mj_T.ret rfl rfl rfl ⟨0, g3, ⟨by decide, by decide⟩, rfl, ⟨_, N, B, X, V, hs3, K1.put ⟨by decide, by decide⟩ (by decide) (by decide) (by decide) (by decide) (by decide)⟩⟩
  cases hq'
  refine mj_T.if0 (a := 1) rfl ⟨by decide, by decide⟩ (fun hc => ?_) (fun hc => ?_)
  rotate_left
  · simp [jc] at hc
  obtain ⟨z, rfl⟩ := Int.eq_ofNat_of_zero_le (show 0 ≤ z by omega)
  refine mj_T.pl rfl rfl rfl rfl ?_
  refine mj_T.call (ins := .invokevirtual 201) rfl rfl (Nat.le_of_ble_eq_true rfl) (Nat.le_of_ble_eq_true rfl) (by simp [mj_recv, rS_f hs1]) rfl (mj_Ok.up (by decide) (rp_keeps (D := 0) K1 hs1)) (fun v' g4 hq' => ?_) (fun i h' hq' => by obtain ⟨_, _, _, _, _, _, h⟩ := hq'; cases h)
  obtain ⟨S4, B4, _, hs4, K4, _, hq'⟩ := hq'
  cases hq'
  iterate 2 refine mj_T.pl rfl rfl rfl rfl ?_
  exact rp_res_loop (by omega) (by omega) (by omega) (by omega) 13 0 _ _ (by omega) hs4 K4
theorem rp_setTerm {x y : Int} (hx : jr x) (hy : jr y) {z : Int} (hz : jR z) (hI : jI tm er T h) : mj_Ok 40 244 [.ref 0, .int (jn x), .int (jn y), .long (jl z)] h (rI tm er T) := by
  refine mj_Ok.of (M := mj_m244) rfl rfl rfl ?_
  obtain ⟨S, N, B, X, V, hs, K⟩ := hI
  iterate 2 refine mj_T.pl rfl rfl rfl rfl ?_
  refine rT_put (v := 0) hs rfl rfl (by decide) rfl (fun g5 hs5 => ?_)
  have K5 := K.put (k := 3) (v := 0) ⟨by decide, by decide⟩ (by decide) (by decide) (by decide) (by decide) (by decide)
  generalize jvu S 3 0 = S5 at hs5 K5
  refine mj_T.pl rfl rfl rfl rfl ?_
  refine mj_T.call (ins := .invokestatic 181) rfl rfl (Nat.le_of_ble_eq_true rfl) (Nat.le_of_ble_eq_true rfl) rfl rfl (mj_Ok.up (by decide) (rp_isRegister (D := 0) hx)) (fun v' h' hq' => ?_) (fun i h' hq' => by rcases hq' with ⟨_, _, h⟩ | ⟨_, h⟩ <;> cases h)
  rcases hq' with ⟨x1, x2, hq'⟩ | ⟨_, hq'⟩
  case' inr =>
    cases hq'
    refine mj_T.if0 (a := 0) rfl ⟨by decide, by decide⟩ (fun hc => ?_) (fun hc => ?_)
    · simp [jc] at hc
    iterate 2 refine mj_T.pl rfl rfl rfl rfl ?_
    refine mj_T.call (ins := .invokevirtual 198) rfl rfl (Nat.le_of_ble_eq_true rfl) (Nat.le_of_ble_eq_true rfl) (by simp [mj_recv, rS_f hs5]) rfl (mj_Ok.up (by decide) (rp_fails (D := 0) (c := 1) hs5)) (fun v' g6 hq' => ?_) (fun i h' hq' => by obtain ⟨_, _, h⟩ := hq'; cases h)
    obtain ⟨_, hs6, hq'⟩ := hq'
    cases hq'
    exact mj_T.ret rfl rfl rfl ⟨0, g6, ⟨by decide, by decide⟩, rfl, ⟨_, N, B, X, V, hs6, K5.put ⟨by decide, by decide⟩ (by decide) (by decide) (by decide) (by decide) (by decide)⟩⟩
  cases hq'
  refine mj_T.if0 (a := 1) rfl ⟨by decide, by decide⟩ (fun hc => ?_) (fun hc => ?_)
  rotate_left
  · simp [jc] at hc
  obtain ⟨x, rfl⟩ := Int.eq_ofNat_of_zero_le x1
  refine mj_T.pl rfl rfl rfl rfl ?_
  refine mj_T.i2l rfl hy ?_
  iterate 2 refine mj_T.pl rfl rfl rfl rfl ?_
  refine mj_T.call (ins := .invokestatic 177) rfl rfl (Nat.le_of_ble_eq_true rfl) (Nat.le_of_ble_eq_true rfl) rfl rfl (mj_Ok.up (by decide) (rp_in (D := 0) (v := y) (lo := 0) (hi := 12) ⟨by have := hy.1; omega, by have := hy.2; omega⟩ ⟨by decide, by decide⟩ ⟨by decide, by decide⟩)) (fun v' h' hq' => ?_) (fun i h' hq' => by rcases hq' with ⟨_, _, h⟩ | ⟨_, h⟩ <;> cases h)
  rcases hq' with ⟨r7a, r7b, hq'⟩ | ⟨_, hq'⟩
  case' inr =>
    cases hq'
    refine mj_T.if0 (a := 0) rfl ⟨by decide, by decide⟩ (fun hc => ?_) (fun hc => ?_)
    · simp [jc] at hc
    iterate 2 refine mj_T.pl rfl rfl rfl rfl ?_
    refine mj_T.call (ins := .invokevirtual 198) rfl rfl (Nat.le_of_ble_eq_true rfl) (Nat.le_of_ble_eq_true rfl) (by simp [mj_recv, rS_f hs5]) rfl (mj_Ok.up (by decide) (rp_fails (D := 0) (c := 2) hs5)) (fun v' g8 hq' => ?_) (fun i h' hq' => by obtain ⟨_, _, h⟩ := hq'; cases h)
    obtain ⟨_, hs8, hq'⟩ := hq'
    cases hq'
    exact mj_T.ret rfl rfl rfl ⟨0, g8, ⟨by decide, by decide⟩, rfl, ⟨_, N, B, X, V, hs8, K5.put ⟨by decide, by decide⟩ (by decide) (by decide) (by decide) (by decide) (by decide)⟩⟩
  cases hq'
  refine mj_T.if0 (a := 1) rfl ⟨by decide, by decide⟩ (fun hc => ?_) (fun hc => ?_)
  rotate_left
  · simp [jc] at hc
  obtain ⟨y, rfl⟩ := Int.eq_ofNat_of_zero_le r7a
  refine mj_T.pl rfl rfl rfl rfl ?_
  iterate 2 refine mj_T.pl rfl rfl rfl rfl ?_
  refine mj_T.call (ins := .invokestatic 177) rfl rfl (Nat.le_of_ble_eq_true rfl) (Nat.le_of_ble_eq_true rfl) rfl rfl (mj_Ok.up (by decide) (rp_in (D := 0) (v := z) (lo := -999999999999999999) (hi := 999999999999999999) hz ⟨by decide, by decide⟩ ⟨by decide, by decide⟩)) (fun v' h' hq' => ?_) (fun i h' hq' => by rcases hq' with ⟨_, _, h⟩ | ⟨_, h⟩ <;> cases h)
  rcases hq' with ⟨r9a, r9b, hq'⟩ | ⟨_, hq'⟩
  case' inr =>
    cases hq'
    refine mj_T.if0 (a := 0) rfl ⟨by decide, by decide⟩ (fun hc => ?_) (fun hc => ?_)
    · simp [jc] at hc
    iterate 2 refine mj_T.pl rfl rfl rfl rfl ?_
    refine mj_T.call (ins := .invokevirtual 198) rfl rfl (Nat.le_of_ble_eq_true rfl) (Nat.le_of_ble_eq_true rfl) (by simp [mj_recv, rS_f hs5]) rfl (mj_Ok.up (by decide) (rp_fails (D := 0) (c := 3) hs5)) (fun v' g10 hq' => ?_) (fun i h' hq' => by obtain ⟨_, _, h⟩ := hq'; cases h)
    obtain ⟨_, hs10, hq'⟩ := hq'
    cases hq'
    exact mj_T.ret rfl rfl rfl ⟨0, g10, ⟨by decide, by decide⟩, rfl, ⟨_, N, B, X, V, hs10, K5.put ⟨by decide, by decide⟩ (by decide) (by decide) (by decide) (by decide) (by decide)⟩⟩
  cases hq'
  refine mj_T.if0 (a := 1) rfl ⟨by decide, by decide⟩ (fun hc => ?_) (fun hc => ?_)
  rotate_left
  · simp [jc] at hc
  refine mj_T.pl rfl rfl rfl rfl ?_
  refine mj_T.call (ins := .invokevirtual 201) rfl rfl (Nat.le_of_ble_eq_true rfl) (Nat.le_of_ble_eq_true rfl) (by simp [mj_recv, rS_f hs5]) rfl (mj_Ok.up (by decide) (rp_keeps (D := 0) K5 hs5)) (fun v' g11 hq' => ?_) (fun i h' hq' => by obtain ⟨_, _, _, _, _, _, h⟩ := hq'; cases h)
  obtain ⟨S11, B11, _, hs11, K11, _, hq'⟩ := hq'
  cases hq'
  refine mj_T.pl rfl rfl rfl rfl ?_
  refine rT_get hs11 rfl rfl ?_
  iterate 2 refine mj_T.pl rfl rfl rfl rfl ?_
  refine mj_T.imul (a := (x : Int)) (b := 13) rfl ?_
  refine mj_T.pl rfl rfl rfl rfl ?_
  refine mj_T.iadd rfl ?_
  rw [show (x : Int) * 13 + (y : Int) = ((x * 13 + y : Nat) : Int) by omega]
  refine mj_T.pl rfl rfl rfl rfl ?_
  refine rT_stN hs11 rfl ⟨by omega, by omega⟩ (fun g12 hs12 => ?_)
  rw [Int.toNat_natCast] at hs12
  have K12 := K11.row (gN_put (j := x * 13 + y) (z := z) K11.1 (by omega) ⟨by omega, by omega⟩)
  generalize jvu N (x * 13 + y) z = N12 at hs12 K12
  have hd := jdg_le N12 x 13
  iterate 2 refine mj_T.pl rfl rfl rfl rfl ?_
  refine mj_T.call (ins := .invokevirtual 185) rfl rfl (Nat.le_of_ble_eq_true rfl) (Nat.le_of_ble_eq_true rfl) (by simp [mj_recv, rS_f hs12]) rfl (mj_Ok.up (by decide) (rp_degreeIn (D := 0) (r := x) (by omega) K12.nR hs12)) (fun v' h' hq' => ?_) (fun i h' hq' => by cases hq')
  cases hq'
  exact mj_T.ret rfl rfl rfl ⟨_, g12, ⟨by omega, by omega⟩, rfl, ⟨S11, N12, B11, X, V, hs12, K12⟩⟩
theorem rp_clearPoints  (hI : jI tm er T h) : mj_Ok 40 247 [.ref 0] h (rI tm er T) := by
  refine mj_Ok.of (M := mj_m247) rfl rfl rfl ?_
  obtain ⟨S, N, B, X, V, hs, K⟩ := hI
  iterate 2 refine mj_T.pl rfl rfl rfl rfl ?_
  refine rT_put (v := 0) hs rfl rfl (by decide) rfl (fun g13 hs13 => ?_)
  have K13 := K.put (k := 3) (v := 0) ⟨by decide, by decide⟩ (by decide) (by decide) (by decide) (by decide) (by decide)
  generalize jvu S 3 0 = S13 at hs13 K13
  refine mj_T.pl rfl rfl rfl rfl ?_
  refine mj_T.call (ins := .invokevirtual 201) rfl rfl (Nat.le_of_ble_eq_true rfl) (Nat.le_of_ble_eq_true rfl) (by simp [mj_recv, rS_f hs13]) rfl (mj_Ok.up (by decide) (rp_keeps (D := 0) K13 hs13)) (fun v' g14 hq' => ?_) (fun i h' hq' => by obtain ⟨_, _, _, _, _, _, h⟩ := hq'; cases h)
  obtain ⟨S14, B14, _, hs14, K14, _, hq'⟩ := hq'
  cases hq'
  refine mj_T.pl rfl rfl rfl rfl ?_
  refine rT_get hs14 rfl rfl ?_
  refine mj_T.pl rfl rfl rfl rfl ?_
  refine rT_ldN (i := ((78 : Nat) : Int)) hs14 rfl ⟨by decide, by decide⟩ ?_
  rw [Int.toNat_natCast]
  refine mj_T.l2i rfl ?_
  iterate 2 refine mj_T.pl rfl rfl rfl rfl ?_
  refine rT_get hs14 rfl rfl ?_
  iterate 2 refine mj_T.pl rfl rfl rfl rfl ?_
  refine rT_stN (i := ((78 : Nat) : Int)) (z := 0) hs14 rfl ⟨by decide, by decide⟩ (fun g15 hs15 => ?_)
  rw [Int.toNat_natCast] at hs15
  have hg := K14.1
  obtain ⟨q1, q2, q3, q4⟩ := hg
  have K15 := K14.row (N' := jvu N 78 0) ⟨fun j hj => by rw [jvu_ne _ _ _ (by omega)]; exact q1 j hj, by rw [jvu_at]; decide, fun k hk => by rw [jvu_ne _ _ _ (by omega), jvu_ne _ _ _ (by omega)]; exact q3 k hk, fun i j hij hj => by rw [jvu_at] at hj; omega⟩
  refine mj_T.pl rfl rfl rfl rfl ?_
  exact mj_T.ret rfl rfl rfl ⟨_, g15, ⟨by omega, by omega⟩, rfl, ⟨S14, _, B14, X, V, hs15, K15⟩⟩
theorem rp_undo  (hI : jI tm er T h) : mj_Ok 40 252 [.ref 0] h (rI tm er T) := by
  refine mj_Ok.of (M := mj_m252) rfl rfl rfl ?_
  obtain ⟨S, N, B, X, V, hs, K⟩ := hI
  iterate 2 refine mj_T.pl rfl rfl rfl rfl ?_
  refine rT_put (v := 0) hs rfl rfl (by decide) rfl (fun g16 hs16 => ?_)
  have K16 := K.put (k := 3) (v := 0) ⟨by decide, by decide⟩ (by decide) (by decide) (by decide) (by decide) (by decide)
  generalize jvu S 3 0 = S16 at hs16 K16
  obtain ⟨k1, k2, k3, k4, k5, k6, k7, k8, k9⟩ := K16
  refine mj_T.pl rfl rfl rfl rfl ?_
  refine rT_get hs16 rfl rfl ?_
  refine mj_T.if0 (a := S16 2) rfl ⟨by omega, by omega⟩ (fun hc => ?_) (fun hc => ?_)
  rotate_left
  · refine mj_T.pl rfl rfl rfl rfl ?_
    exact mj_T.ret rfl rfl rfl ⟨-1, _, ⟨by decide, by decide⟩, rfl, ⟨_, _, _, _, _, hs16, ⟨k1, k2, k3, k4, k5, k6, k7, k8, k9⟩⟩⟩
  simp only [jc, Bool.not_eq_true', decide_eq_false_iff_not] at hc
  obtain ⟨c, hc2⟩ : ∃ c : Nat, S16 2 = ((c + 1 : Nat) : Int) := ⟨(S16 2).toNat - 1, by omega⟩
  iterate 2 refine mj_T.pl rfl rfl rfl rfl ?_
  refine rT_get hs16 rfl rfl ?_
  refine mj_T.pl rfl rfl rfl rfl ?_
  refine mj_T.isub (a := S16 2) (b := 1) rfl ?_
  rw [hc2, show ((c + 1 : Nat) : Int) - 1 = (c : Int) by omega]
  refine rT_put (v := (c : Int)) hs16 rfl rfl (by decide) rfl (fun g17 hs17 => ?_)
  have e : ∀ x, x ≠ 2 → jvu S16 2 (c : Int) x = S16 x := fun x hx => jvu_ne _ _ _ hx
  have e2 : jvu S16 2 (c : Int) 2 = (c : Int) := jvu_at _ _ _
  generalize jvu S16 2 (c : Int) = S17 at hs17 e e2
  refine mj_T.pl rfl rfl rfl rfl ?_
  refine rT_get hs17 rfl rfl ?_
  refine mj_T.pl rfl rfl rfl rfl ?_
  refine rT_get (v := .int (jn (c : Int))) hs17 rfl (by rw [← e2]; rfl) ?_
  refine mj_T.pl rfl rfl rfl rfl ?_
  refine mj_T.imul (a := (c : Int)) (b := 91) rfl ?_
  rw [show (c : Int) * 91 = ((c * 91 : Nat) : Int) by omega]
  refine mj_T.pl rfl rfl rfl rfl ?_
  refine rT_get hs17 rfl rfl ?_
  iterate 2 refine mj_T.pl rfl rfl rfl rfl ?_
  refine rT_cpy (s := c * 91) (d := 0) (m := 91) (f := B) (g := N) rfl rfl (rS_B hs17) (rS_N hs17) (by omega) (by decide) ⟨by omega, by decide, by decide⟩ (Nat.le_of_ble_eq_true rfl) ?_
  have hs18 := rS_setN (va_cpy B N (c * 91) 0 91) hs17
  generalize g17.set 1 _ = g18 at hs18
  refine mj_T.pl rfl rfl rfl rfl ?_
  refine rT_get (v := .int (jn (c : Int))) hs18 rfl (by rw [← e2]; rfl) ?_
  refine mj_T.ret rfl rfl rfl ⟨(c : Int), _, ⟨by omega, by omega⟩, rfl, ⟨_, _, _, _, _, hs18, ⟨?_, by omega, fun k hk => k3 k (by omega), by rw [e 9 (by decide)]; exact k4, by rw [e 12 (by decide)]; exact k5, by rw [e 15 (by decide)]; exact k6, fun x => ?_, by rw [e 13 (by decide)]; exact k8, k9⟩⟩⟩
  · refine gN_congr (fun j hj => ?_) (k3 c (by omega))
    show va_cpy B N (c * 91) 0 91 j = B (c * 91 + j)
    unfold va_cpy
    rw [if_pos (by omega), show c * 91 + (j - 0) = c * 91 + j by omega]
  · by_cases q : x = 2
    · subst q
      rw [e2]
      exact ⟨by omega, by omega⟩
    · rw [e x q]
      exact k7 x
end RPU
