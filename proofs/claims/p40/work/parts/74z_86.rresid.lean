/-! The reference, exactly: residue. -/
theorem prm_of {x : Nat} (h1 : 2 ≤ x) (h2 : x ≤ 97) (h : ∀ e : Nat, 2 ≤ e → e < x → x % e ≠ 0) : prm (x : Int) := ⟨⟨by omega, by omega⟩, fun e e1 e2 => by
  show (x : Int) = (e : Int) ∨ ((x % e : Nat) : Int) ≠ 0
  rcases Nat.lt_trichotomy e x with c | c | c
  · have := h e e1 c
    exact Or.inr (by omega)
  · exact Or.inl (by omega)
  · rw [Nat.mod_eq_of_lt c]
    exact Or.inr (by omega)⟩
theorem prm_not {x k : Nat} (h2 : x ≤ 97) (k2 : 2 ≤ k) (k3 : k < x) (h : x % k = 0) : ¬ prm (x : Int) := fun q => by
  have e := Nat.div_add_mod x k
  rw [h, Nat.add_zero] at e
  have hlt : x / k < x := Nat.div_lt_self (by omega) (by omega)
  have key : ∀ e : Nat, 2 ≤ e → e < 10 → e < x → x % e = 0 → False := fun e e1 e2 e3 e4 => by
    rcases q.2 e e1 e2 with r | r
    · omega
    · exact r (by show ((x % e : Nat) : Int) = 0; omega)
  obtain ⟨m, hm0⟩ : ∃ m, x / k = m := ⟨_, rfl⟩
  rw [hm0] at e hlt
  have hm : 2 ≤ m := by
    rcases Nat.lt_or_ge m 2 with c | c
    · have : m = 0 ∨ m = 1 := by omega
      rcases this with r | r
      · rw [r, Nat.mul_zero] at e
        omega
      · rw [r, Nat.mul_one] at e
        omega
    · exact c
  rcases Nat.lt_or_ge k 10 with c | c
  · exact key k k2 c k3 h
  · refine key m hm ?_ hlt ?_
    · rcases Nat.lt_or_ge m 10 with d | d
      · exact d
      · have := Nat.mul_le_mul c d
        omega
    · rw [← e]
      exact Nat.mul_mod_left k m
section RRE
variable {h : mj_H} {tm er : Int} {T : Nat → Int} {N0 : Nat → Int} {u0 : Nat} {H : Nat → Nat → Int}
theorem rx_prime_loop {D x : Nat} (hx : 2 ≤ x) (hx2 : x ≤ 97) {Q : mj_R → Prop} (q1 : prm (x : Int) → Q (.inl (some (.int (jn 1))), h)) (q0 : ¬ prm (x : Int) → Q (.inl (some (.int (jn 0))), h)) :
    ∀ (m k : Nat), k + m = x → 2 ≤ k → (∀ e : Nat, 2 ≤ e → e < k → x % e ≠ 0) → mj_T D mj_m241 14 [some (.int (jn (x : Int))), some (.int (jn 1)), some (.int (jn (k : Int)))] [] h Q := by
  intro m
  induction m with
  | zero =>
    intro k hk h2 hpre
    iterate 2 refine mj_T.pl rfl rfl rfl rfl ?_
    refine mj_T.icmp (a := (k : Int)) (b := (x : Int)) rfl ⟨by omega, by omega⟩ ⟨by omega, by omega⟩ (fun hc => ?_) (fun hc => ?_)
    · refine mj_T.pl rfl rfl rfl rfl ?_
      exact mj_T.ret rfl rfl rfl (q1 (prm_of hx hx2 (fun e e1 e2 => hpre e e1 (by omega))))
    · simp only [jc, decide_eq_false_iff_not] at hc
      omega
  | succ m ih =>
    intro k hk h2 hpre
    iterate 2 refine mj_T.pl rfl rfl rfl rfl ?_
    refine mj_T.icmp (a := (k : Int)) (b := (x : Int)) rfl ⟨by omega, by omega⟩ ⟨by omega, by omega⟩ (fun hc => ?_) (fun hc => ?_)
    · simp only [jc, decide_eq_true_eq] at hc
      omega
    refine mj_T.pl rfl rfl rfl rfl ?_
    refine mj_T.if0 (a := 1) rfl ⟨by decide, by decide⟩ (fun hc => ?_) (fun hc => ?_)
    · simp [jc] at hc
    iterate 2 refine mj_T.pl rfl rfl rfl rfl ?_
    refine mj_T.irem (a := (x : Int)) (b := (k : Int)) rfl ⟨by omega, by omega⟩ ⟨by omega, by omega⟩ (by omega) ?_
    have ht : (x : Int).tmod (k : Int) = ((x % k : Nat) : Int) := rfl
    have hl : x % k < k := Nat.mod_lt _ (by omega)
    refine mj_T.if0 (a := (x : Int).tmod (k : Int)) rfl ⟨by omega, by omega⟩ (fun hc0 => ?_) (fun hc0 => ?_)
    · have hno : ¬ prm (x : Int) := prm_not hx2 h2 (by omega) (by simp only [jc, Bool.not_eq_true', Bool.not_eq_false', decide_eq_true_eq, decide_eq_false_iff_not] at hc0; omega)
      refine mj_T.pl rfl rfl rfl rfl ?_
      refine mj_T.pl rfl rfl rfl rfl ?_
      refine mj_T.iinc (a := (k : Int)) rfl rfl ?_
      iterate 3 refine mj_T.pl rfl rfl rfl rfl ?_
      have t41 : mj_T D mj_m241 41 [some (.int (jn (x : Int))), some (.int (jn 0)), some (.int (jn ((k : Int) + 1)))] [] h Q := by
        refine mj_T.pl rfl rfl rfl rfl ?_
        exact mj_T.ret rfl rfl rfl (q0 hno)
      refine mj_T.icmp (a := (k : Int) + 1) (b := (x : Int)) rfl ⟨by omega, by omega⟩ ⟨by omega, by omega⟩ (fun hc => ?_) (fun hc => ?_)
      · exact t41
      refine mj_T.pl rfl rfl rfl rfl ?_
      refine mj_T.if0 (a := 0) rfl ⟨by decide, by decide⟩ (fun hc => ?_) (fun hc => ?_)
      · exact t41
      · simp [jc] at hc
    · iterate 3 refine mj_T.pl rfl rfl rfl rfl ?_
      refine mj_T.iinc (a := (k : Int)) rfl rfl ?_
      refine mj_T.pl rfl rfl rfl rfl ?_
      exact ih (k + 1) (by omega) (by omega) (fun e e1 e2 => by
        by_cases q : e = k
        · subst q
          simp only [jc, Bool.not_eq_true', Bool.not_eq_false', decide_eq_true_eq, decide_eq_false_iff_not] at hc0
          omega
        · exact hpre e e1 (by omega))
theorem rx_isPrime {x : Int} (hx : jr x) : mj_Ok 39 241 [.int (jn x)] h (fun r => (prm x ∧ r = (.inl (some (.int (jn 1))), h)) ∨ (¬ prm x ∧ r = (.inl (some (.int (jn 0))), h))) := by
  refine mj_Ok.of (M := mj_m241) rfl rfl rfl ?_
  refine mj_T.pl rfl rfl rfl rfl ?_
  refine mj_T.i2l rfl hx ?_
  iterate 2 refine mj_T.pl rfl rfl rfl rfl ?_
  refine mj_T.call (ins := .invokestatic 177) rfl rfl (Nat.le_of_ble_eq_true rfl) (Nat.le_of_ble_eq_true rfl) rfl rfl (mj_Ok.up (by decide) (rp_in (D := 0) (v := x) (lo := 2) (hi := 97) ⟨by have := hx.1; omega, by have := hx.2; omega⟩ ⟨by decide, by decide⟩ ⟨by decide, by decide⟩)) (fun v' h' hq' => ?_) (fun i h' hq' => by rcases hq' with ⟨_, _, h⟩ | ⟨_, h⟩ <;> cases h)
  rcases hq' with ⟨c1, c2, hq'⟩ | ⟨cn, hq'⟩
  · cases hq'
    obtain ⟨x, rfl⟩ := Int.eq_ofNat_of_zero_le (show 0 ≤ x by omega)
    iterate 3 refine mj_T.pl rfl rfl rfl rfl ?_
    exact rx_prime_loop (D := 38) (x := x) (by omega) (by omega) (fun q => Or.inl ⟨q, rfl⟩) (fun q => Or.inr ⟨q, rfl⟩) (x - 2) 2 (by omega) (by decide) (fun e e1 e2 => absurd e1 (by omega))
  · cases hq'
    iterate 5 refine mj_T.pl rfl rfl rfl rfl ?_
    have t41 : mj_T 38 mj_m241 41 [some (.int (jn x)), some (.int (jn 0)), some (.int (jn 2))] [] h (fun r => (prm x ∧ r = (.inl (some (.int (jn 1))), h)) ∨ (¬ prm x ∧ r = (.inl (some (.int (jn 0))), h))) := by
      refine mj_T.pl rfl rfl rfl rfl ?_
      exact mj_T.ret rfl rfl rfl (Or.inr ⟨fun q => by have := q.1; omega, rfl⟩)
    refine mj_T.icmp (a := 2) (b := x) rfl ⟨by decide, by decide⟩ hx (fun hc => ?_) (fun hc => ?_)
    · exact t41
    refine mj_T.pl rfl rfl rfl rfl ?_
    refine mj_T.if0 (a := 0) rfl ⟨by decide, by decide⟩ (fun hc => ?_) (fun hc => ?_)
    · exact t41
    · simp [jc] at hc
theorem rx_rest {S N B X V : Nat → Int} {D r e x : Nat} (hr : r ≤ 5) (he : e < 13) (hx : 2 ≤ x) (hx2 : x ≤ 97) (hN : jR (N (r * 13 + e))) (hs : rS S N B T X V h) : mj_Ok (D + 1) 242 [.ref 0, .int (jn (r : Nat)), .int (jn (e : Nat)), .int (jn (x : Nat))] h (fun z => z = (.inl (some (.long (jl (N (r * 13 + e) % (x : Int))))), h)) := by
  refine mj_Ok.of (M := mj_m242) rfl rfl rfl ?_
  refine mj_T.pl rfl rfl rfl rfl ?_
  refine rT_get hs rfl rfl ?_
  iterate 2 refine mj_T.pl rfl rfl rfl rfl ?_
  refine mj_T.imul (a := (r : Int)) (b := 13) rfl ?_
  refine mj_T.pl rfl rfl rfl rfl ?_
  refine mj_T.iadd rfl ?_
  rw [show (r : Int) * 13 + (e : Int) = ((r * 13 + e : Nat) : Int) by omega]
  refine rT_ldN hs rfl ⟨by omega, by omega⟩ ?_
  rw [Int.toNat_natCast]
  refine mj_T.pl rfl rfl rfl rfl ?_
  refine mj_T.i2l rfl ⟨by omega, by omega⟩ ?_
  have t1 := Int.tmod_lt_of_pos (N (r * 13 + e)) (show (0 : Int) < (x : Int) by omega)
  have t2 := Int.lt_tmod_of_pos (N (r * 13 + e)) (show (0 : Int) < (x : Int) by omega)
  refine mj_T.lrem (a := N (r * 13 + e)) (b := (x : Int)) rfl hN ⟨by omega, by omega⟩ (by omega) ?_
  iterate 3 refine mj_T.pl rfl rfl rfl rfl ?_
  refine mj_T.lif (a := (N (r * 13 + e)).tmod (x : Int)) (b := 0) rfl rfl ⟨by omega, by omega⟩ ⟨by decide, by decide⟩ (fun hc => ?_) (fun hc => ?_)
  · simp only [jc, decide_eq_true_eq] at hc
    refine mj_T.pl rfl rfl rfl rfl ?_
    exact mj_T.ret rfl rfl rfl (by rw [emod_tmod _ _ (show (0 : Int) < (x : Int) by omega), if_neg (by omega)])
  · simp only [jc, decide_eq_false_iff_not] at hc
    iterate 2 refine mj_T.pl rfl rfl rfl rfl ?_
    refine mj_T.i2l rfl ⟨by omega, by omega⟩ ?_
    refine mj_T.ladd rfl ?_
    refine mj_T.pl rfl rfl rfl rfl ?_
    exact mj_T.ret rfl rfl rfl (by rw [emod_tmod _ _ (show (0 : Int) < (x : Int) by omega), if_pos (by omega)])
theorem rx_res_loop {S B X V : Nat → Int} {x y z : Nat} (hx : x ≤ 5) (hy : y ≤ 5) (hz : 2 ≤ z) (hz2 : z ≤ 97) :
    ∀ (d k : Nat) (N : Nat → Int) (h : mj_H), k + d = 13 → rS S N B T X V h → jKx (jfl N0 x (fun e => rwN N0 (y : Int) e % (z : Int)) k) u0 H tm er S N B T → mj_T 39 mj_m243 40 [some (.ref 0), some (.int (jn (x : Int))), some (.int (jn (y : Int))), some (.int (jn (z : Int))), some (.int (jn (k : Int)))] [] h (rIx (jfl N0 x (fun e => rwN N0 (y : Int) e % (z : Int)) 13) u0 H tm er T) := by
  intro d
  induction d with
  | zero =>
    intro k N h hk hs K
    have hk : k = 13 := by omega
    subst hk
    iterate 2 refine mj_T.pl rfl rfl rfl rfl ?_
    refine mj_T.icmp (a := ((13 : Nat) : Int)) (b := 13) rfl ⟨by decide, by decide⟩ ⟨by decide, by decide⟩ (fun hc => ?_) (fun hc => ?_)
    · have hd := jdg_le N x 13
      iterate 2 refine mj_T.pl rfl rfl rfl rfl ?_
      refine mj_T.call (ins := .invokevirtual 185) rfl rfl (Nat.le_of_ble_eq_true rfl) (Nat.le_of_ble_eq_true rfl) (by simp [mj_recv, rS_f hs]) rfl (mj_Ok.up (by decide) (rp_degreeIn (D := 0) (r := x) hx K.nR hs)) (fun v' h' hq' => ?_) (fun i h' hq' => by cases hq')
      cases hq'
      exact mj_T.ret rfl rfl rfl ⟨_, h, ⟨by omega, by omega⟩, rfl, ⟨S, N, B, X, V, hs, K⟩⟩
    · simp [jc] at hc
  | succ d ih =>
    intro k N h hk hs K
    iterate 2 refine mj_T.pl rfl rfl rfl rfl ?_
    refine mj_T.icmp (a := (k : Int)) (b := 13) rfl ⟨by omega, by omega⟩ ⟨by decide, by decide⟩ (fun hc => ?_) (fun hc => ?_)
    · simp only [jc, decide_eq_true_eq] at hc
      omega
    refine mj_T.pl rfl rfl rfl rfl ?_
    refine rT_get hs rfl rfl ?_
    iterate 2 refine mj_T.pl rfl rfl rfl rfl ?_
    refine mj_T.imul (a := (x : Int)) (b := 13) rfl ?_
    refine mj_T.pl rfl rfl rfl rfl ?_
    refine mj_T.iadd rfl ?_
    rw [show (x : Int) * 13 + (k : Int) = ((x * 13 + k : Nat) : Int) by omega]
    iterate 4 refine mj_T.pl rfl rfl rfl rfl ?_
    refine mj_T.call (ins := .invokevirtual 243) rfl rfl (Nat.le_of_ble_eq_true rfl) (Nat.le_of_ble_eq_true rfl) (by simp [mj_recv, rS_f hs]) rfl (mj_Ok.up (by decide) (rx_rest (D := 0) (r := y) (e := k) (x := z) hy (by omega) hz hz2 (K.nR _ (by omega)) hs)) (fun v' h' hq' => ?_) (fun i h' hq' => by cases hq')
    have hv0 : N (y * 13 + k) = rwN N0 (y : Int) k := by
      rw [K.2.1 _ (by omega), jfl_off _ _ _ (by omega)]
      exact rwN_at (fun j _ => rfl) hy (by omega)
    rw [hv0] at hq'
    have hv : 0 ≤ rwN N0 (y : Int) k % (z : Int) ∧ rwN N0 (y : Int) k % (z : Int) < (z : Int) := ⟨Int.emod_nonneg _ (by omega), Int.emod_lt_of_pos _ (by omega)⟩
    cases hq'
    refine rT_stN hs rfl ⟨by omega, by omega⟩ (fun h1 hs1 => ?_)
    rw [Int.toNat_natCast] at hs1
    refine mj_T.iinc (a := (k : Int)) rfl rfl ?_
    refine mj_T.pl rfl rfl rfl rfl ?_
    exact ih (k + 1) _ h1 (by omega) hs1 (K.row (gN_put K.1.1 (by omega) ⟨by omega, by omega⟩) (fun j hj => by
      rw [jfl_succ]
      unfold jvu
      split
      · rfl
      · exact K.2.1 j hj))
theorem rx_residue {x y z : Int} (hx : jr x) (hy : jr y) (hz : jr z) (hI : jIx N0 u0 H tm er T h) : mj_Ok 40 243 [.ref 0, .int (jn x), .int (jn y), .int (jn z)] h (fun r => ((((0 ≤ x ∧ x ≤ 5) ∧ (0 ≤ y ∧ y ≤ 5)) ∧ prm z) ∧ rIx (jfl N0 x.toNat (fun e => rwN N0 y e % z) 13) (upu u0) (pushH N0 H) tm er T r) ∨ (¬ (((0 ≤ x ∧ x ≤ 5) ∧ (0 ≤ y ∧ y ≤ 5)) ∧ prm z) ∧ rIx N0 u0 H tm er T r)) := by
  refine mj_Ok.of (M := mj_m243) rfl rfl rfl ?_
  obtain ⟨S, N, B, X, V, hs, K⟩ := hI
  iterate 2 refine mj_T.pl rfl rfl rfl rfl ?_
  refine rT_put (v := 0) hs rfl rfl (by decide) rfl (fun g1 hs1 => ?_)
  have K1 := K.put (k := 3) (v := 0) ⟨by decide, by decide⟩ (by decide) (by decide) (by decide) (by decide) (by decide)
  generalize jvu S 3 0 = S1 at hs1 K1
  iterate 3 refine mj_T.pl rfl rfl rfl rfl ?_
  refine mj_T.call (ins := .invokestatic 210) rfl rfl (Nat.le_of_ble_eq_true rfl) (Nat.le_of_ble_eq_true rfl) rfl rfl (mj_Ok.up (by decide) (rx_areRegisters (D := 0) hx hy hy)) (fun v' h' hq' => ?_) (fun i h' hq' => by rcases hq' with ⟨_, _, h⟩ | ⟨_, h⟩ <;> cases h)
  rcases hq' with ⟨⟨x1, x2⟩, ⟨y3, y4, y5, y6⟩, hq'⟩ | ⟨hno, hq'⟩
  case' inr =>
    cases hq'
    refine mj_T.if0 (a := 0) rfl ⟨by decide, by decide⟩ (fun hc => ?_) (fun hc => ?_)
    · simp [jc] at hc
    iterate 2 refine mj_T.pl rfl rfl rfl rfl ?_
    refine mj_T.call (ins := .invokevirtual 198) rfl rfl (Nat.le_of_ble_eq_true rfl) (Nat.le_of_ble_eq_true rfl) (by simp [mj_recv, rS_f hs1]) rfl (mj_Ok.up (by decide) (rp_fails (D := 0) (c := 1) hs1)) (fun v' g2 hq' => ?_) (fun i h' hq' => by obtain ⟨_, _, h⟩ := hq'; cases h)
    obtain ⟨_, hs2, hq'⟩ := hq'
    cases hq'
    exact mj_T.ret rfl rfl rfl (Or.inr ⟨fun q => hno ⟨q.1.1, q.1.2, q.1.2⟩, 0, g2, ⟨by decide, by decide⟩, rfl, ⟨_, N, B, X, V, hs2, K1.put ⟨by decide, by decide⟩ (by decide) (by decide) (by decide) (by decide) (by decide)⟩⟩)
  cases hq'
  refine mj_T.if0 (a := 1) rfl ⟨by decide, by decide⟩ (fun hc => ?_) (fun hc => ?_)
  rotate_left
  · simp [jc] at hc
  obtain ⟨x, rfl⟩ := Int.eq_ofNat_of_zero_le x1
  obtain ⟨y, rfl⟩ := Int.eq_ofNat_of_zero_le y3
  refine mj_T.pl rfl rfl rfl rfl ?_
  refine mj_T.call (ins := .invokestatic 240) rfl rfl (Nat.le_of_ble_eq_true rfl) (Nat.le_of_ble_eq_true rfl) rfl rfl (mj_Ok.up (by decide) (rx_isPrime hz)) (fun v' h' hq' => ?_) (fun i h' hq' => by rcases hq' with ⟨_, h⟩ | ⟨_, h⟩ <;> cases h)
  rcases hq' with ⟨zp, hq'⟩ | ⟨hno, hq'⟩
  case' inr =>
    cases hq'
    refine mj_T.if0 (a := 0) rfl ⟨by decide, by decide⟩ (fun hc => ?_) (fun hc => ?_)
    · simp [jc] at hc
    iterate 2 refine mj_T.pl rfl rfl rfl rfl ?_
    refine mj_T.call (ins := .invokevirtual 198) rfl rfl (Nat.le_of_ble_eq_true rfl) (Nat.le_of_ble_eq_true rfl) (by simp [mj_recv, rS_f hs1]) rfl (mj_Ok.up (by decide) (rp_fails (D := 0) (c := 2) hs1)) (fun v' g3 hq' => ?_) (fun i h' hq' => by obtain ⟨_, _, h⟩ := hq'; cases h)
    obtain ⟨_, hs3, hq'⟩ := hq'
    cases hq'
    exact mj_T.ret rfl rfl rfl (Or.inr ⟨fun q => hno q.2, 0, g3, ⟨by decide, by decide⟩, rfl, ⟨_, N, B, X, V, hs3, K1.put ⟨by decide, by decide⟩ (by decide) (by decide) (by decide) (by decide) (by decide)⟩⟩)
  cases hq'
  refine mj_T.if0 (a := 1) rfl ⟨by decide, by decide⟩ (fun hc => ?_) (fun hc => ?_)
  rotate_left
  · simp [jc] at hc
  have z1 := zp.1.1
  have z2 := zp.1.2
  obtain ⟨z, rfl⟩ := Int.eq_ofNat_of_zero_le (show 0 ≤ z by omega)
  refine mj_T.pl rfl rfl rfl rfl ?_
  refine mj_T.call (ins := .invokevirtual 201) rfl rfl (Nat.le_of_ble_eq_true rfl) (Nat.le_of_ble_eq_true rfl) (by simp [mj_recv, rS_f hs1]) rfl (mj_Ok.up (by decide) (rx_keeps (D := 0) K1 hs1)) (fun v' g4 hq' => ?_) (fun i h' hq' => by obtain ⟨_, _, _, _, _, _, h⟩ := hq'; cases h)
  obtain ⟨S4, B4, _, hs4, K4, _, hq'⟩ := hq'
  cases hq'
  iterate 2 refine mj_T.pl rfl rfl rfl rfl ?_
  refine mj_T.to (rx_res_loop (N0 := N0) (by omega) (by omega) (by omega) (by omega) 13 0 _ _ (by omega) hs4 (by rw [jfl_zero]; exact K4)) (fun r hr => Or.inl ⟨⟨⟨⟨by omega, by omega⟩, ⟨by omega, by omega⟩⟩, zp⟩, hr⟩)
end RRE
