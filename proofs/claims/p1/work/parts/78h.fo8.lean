/-! The reference's rest, at once. -/
theorem mq_vJ_kn {w : mq_W} {env : mq_V} {k : Nat → mq_V → Bool} (h : mq_vJ w env k = true) : mq_kn w = true := by
  rcases mq_Wd w with ⟨n, rfl⟩ | ⟨a, rfl⟩ | ⟨n, rfl⟩ | ⟨i, m, c, rfl⟩ | ⟨i, rfl⟩ | ⟨i, lo, l, rfl⟩ | ⟨x, rfl⟩ | ⟨x, rfl⟩ | rfl | rfl | rfl | rfl | rfl <;> first | rfl | cases h
theorem mq_rN_of {ρ : Nat → Nat} {n a : Nat} {t : mq_Ht} {h : mj_H} {env : mq_V} {k : mq_T mq_W → Bool} (hh : mq_rN t a k = true) (hs : mq_Sat ρ env) (hr : mq_Hr ρ n t h) : ∃ b d fs', ∃ f : Nat → Value, h[a]? = some (.inr (10, fs')) ∧ fs'[0]? = some (.ref b) ∧ h[b]? = some (.inl (1, 91, f)) ∧ (∀ i, i < 91 → mq_kn (mq_get d i) = true → f i = mq_val ρ (mq_get d i)) ∧ k d = true := by
  unfold mq_rN at hh
  obtain ⟨ci, fs, fs', h1, h2, h3, h4, h5, g⟩ := mq_cO_of hh hr
  obtain ⟨q, g2⟩ := mq_cond_of g
  have q : ci = 10 := Nat.beq_eq.mp q
  subst q
  obtain ⟨b, e', k1, k2, g3⟩ := mq_fA_of (env := env) g2 hs.nil h4
  obtain ⟨ty, len, dep, d, f, l1, l2, l3, l4, l5, g4⟩ := mq_cA_of g3 hr
  obtain ⟨q, g5⟩ := mq_cond_of g4
  rw [mq_and_eq] at q
  have q1 : ty = 1 := Nat.beq_eq.mp q.1
  have q2 : len = 91 := Nat.beq_eq.mp q.2
  subst q1
  subst q2
  exact ⟨b, d, fs', f, h2, k1, l2, l4, g5⟩
theorem jq_rest {D a b r i p y : Nat} {h : mj_H} {fs' : List Value} {f : Nat → Value} (h1 : h[a]? = some (.inr (10, fs'))) (h2 : fs'[0]? = some (.ref b)) (h3 : h[b]? = some (.inl (1, 91, f))) (q1 : 2 ≤ p) (q2 : p ≤ 97) (q3 : y + 1 ≤ 18446744073709551616) (q4 : r ≤ 5) (q5 : i ≤ 12) (hld : f (r * 13 + i) = .long (jl (y : Nat))) : mj_Ok (D + 1) 242 [.ref a, .int (jn (r : Nat)), .int (jn (i : Nat)), .int (jn (p : Nat))] h (fun z => z = (.inl (some (.long (jl (mq_rsd y p : Nat)))), h)) := by
  obtain ⟨z, hz, z1, z2, z3, z4⟩ := mq_rsd_of (x := y) q1 (by omega)
  have hv := jR_of (jl (y : Nat))
  rw [← jl_of (jl (y : Nat))] at hld
  generalize (jl (y : Nat)).toInt = v at hz hv hld
  obtain ⟨i1, i2⟩ := mq_idx (show r * 13 + i < 91 by omega) (show 91 ≤ 1000000 by omega)
  refine mj_Ok.of (M := mj_m242) rfl rfl rfl ?_
  refine mj_T.pl rfl rfl rfl rfl ?_
  refine mj_T.step (loc' := mj_loc0 6 [.ref a, .int (jn r), .int (jn i), .int (jn p)]) (st' := [.ref b]) (h' := h) (pc' := 4) rfl rfl (by simp only [mj_step, h1, h2, if_true]; rfl) ?_
  iterate 2 refine mj_T.pl rfl rfl rfl rfl ?_
  refine mj_T.imul (b := 13) rfl ?_
  refine mj_T.pl rfl rfl rfl rfl ?_
  refine mj_T.iadd rfl ?_
  rw [show (r : Int) * 13 + (i : Int) = ((r * 13 + i : Nat) : Int) by omega]
  refine mj_T.step (loc' := mj_loc0 6 [.ref a, .int (jn r), .int (jn i), .int (jn p)]) (st' := [.long (jl v)]) (h' := h) (pc' := 11) rfl rfl (by
    simp only [mj_step, h3, i1, i2]
    rw [if_pos ⟨(by first | trivial | rfl | omega), (by first | trivial | rfl | omega)⟩, hld]) ?_
  refine mj_T.pl rfl rfl rfl rfl ?_
  refine mj_T.i2l rfl ⟨by omega, by omega⟩ ?_
  refine mj_T.lrem rfl hv ⟨by omega, by omega⟩ (by omega) ?_
  rw [← hz]
  iterate 3 refine mj_T.pl rfl rfl rfl rfl ?_
  refine mj_T.lif (b := 0) rfl rfl ⟨by omega, by omega⟩ ⟨by omega, by omega⟩ (fun hc => ?_) (fun hc => ?_)
  · simp only [jc, decide_eq_true_eq] at hc
    refine mj_T.pl rfl rfl rfl rfl ?_
    refine mj_T.ret rfl rfl rfl ?_
    rw [z3 (by omega)]
  · simp only [jc, decide_eq_false_iff_not] at hc
    iterate 2 refine mj_T.pl rfl rfl rfl rfl ?_
    refine mj_T.i2l rfl ⟨by omega, by omega⟩ ?_
    refine mj_T.ladd rfl ?_
    refine mj_T.pl rfl rfl rfl rfl ?_
    refine mj_T.ret rfl rfl rfl ?_
    rw [z4 (by omega)]
theorem mq_w242 : mq_okO 242 4 mq_r_rest := by
  intro ρ as n t env kr kx h hl g hs hr
  obtain ⟨w, s, a, e, rfl, e1, S, g1⟩ := mq_pA_of g hs
  obtain ⟨w2, s2, r, e2, rfl, e3, S2, g2⟩ := mq_pI_of g1 S
  obtain ⟨w3, s3, i, e4, rfl, e5, S3, g3⟩ := mq_pI_of g2 S2
  obtain ⟨w4, s4, p, e6, rfl, e7, S4, g4⟩ := mq_pI_of g3 S3
  have hs2 : s4 = [] := mq_len1 (by simpa using hl)
  subst hs2
  obtain ⟨b, d, fs', f, h1, h2, h3, h4, g5⟩ := mq_rN_of g4 S4 hr
  have hk := mq_vJ_kn g5
  obtain ⟨y, e8, e9, S5, g6⟩ := mq_vJ_of g5 S4
  obtain ⟨q, g7⟩ := mq_cond_of g6
  unfold mq_p97 mq_x64 at q
  rw [mq_and_eq, mq_and_eq, mq_and_eq, mq_and_eq] at q
  have q1 : 2 ≤ p := Nat.ble_eq.mp q.1.1.1
  have q2 : p ≤ 97 := Nat.ble_eq.mp q.1.1.2
  have q3 : y + 1 ≤ 18446744073709551616 := Nat.ble_eq.mp q.1.2
  have q4 : r ≤ 5 := Nat.ble_eq.mp q.2.1
  have q5 : i ≤ 12 := Nat.ble_eq.mp q.2.2
  have hld : f (r * 13 + i) = .long (jl (y : Nat)) := (h4 (r * 13 + i) (by omega) hk).trans e9
  rw [List.map_cons, List.map_cons, List.map_cons, List.map_cons, List.map_nil, e1, e3, e5, e7]
  refine ((jq_rest (D := 7) h1 h2 h3 q1 q2 q3 q4 q5 hld).to (fun r hq => ?_))
  subst hq
  exact ⟨_, _, _, _, rfl, hr, S5, g7⟩
theorem mq_rsd_lt {y p : Nat} (q1 : 2 ≤ p) (q3 : y + 1 ≤ 18446744073709551616) : mq_rsd y p < p := by
  obtain ⟨z, hz, z1, z2, z3, z4⟩ := mq_rsd_of (x := y) q1 (by omega)
  rcases Int.lt_or_le z 0 with q | q
  · have := z4 q
    omega
  · have := z3 q
    omega
theorem jq_root_loop {ρ : Nat → Nat} {a b r x p : Nat} {h : mj_H} {fs' : List Value} {f : Nat → Value} {d : mq_T mq_W} {k : Nat → mq_V → Bool} {Q : mj_R → Prop} (h1 : h[a]? = some (.inr (10, fs'))) (h2 : fs'[0]? = some (.ref b)) (h3 : h[b]? = some (.inl (1, 91, f))) (h4 : ∀ i, i < 91 → mq_kn (mq_get d i) = true → f i = mq_val ρ (mq_get d i)) (q1 : 2 ≤ p) (q2 : p ≤ 97) (qx : x ≤ 97) (q4 : r ≤ 5) (K : ∀ v e, v < p → mq_Sat ρ e → k v e = true → mj_T 1 mj_m280 37 [some (.ref a), some (.int (jn (r : Nat))), some (.int (jn (x : Nat))), some (.int (jn (p : Nat))), some (.long (jl (v : Nat))), none, some (.int (jn (-1)))] [] h Q) : ∀ m v e, m ≤ 13 → v < p → mq_hor d (r * 13) x p m v e k = true → mq_Sat ρ e → mj_T 1 mj_m280 7 [some (.ref a), some (.int (jn (r : Nat))), some (.int (jn (x : Nat))), some (.int (jn (p : Nat))), some (.long (jl (v : Nat))), none, some (.int (jn ((m : Int) - 1)))] [] h Q
  | 0, v, e, hm, hv, hg, hs => by
    refine mj_T.pl rfl rfl rfl rfl ?_
    refine mj_T.if0 rfl ⟨by omega, by omega⟩ (fun hc9 => ?_) (fun hc9 => ?_)
    · exact K v e hv hs hg
    · simp only [jc, decide_eq_false_iff_not] at hc9
      omega
  | m + 1, v, e, hm, hv, hg, hs => by
    have g0 : mq_vJ (mq_get d (r * 13 + m)) e (fun y e => (Bool.rec (motive := fun _ => Bool) false (mq_hor d (r * 13) x p m (Nat.mod (Nat.add (Nat.mul v x) (mq_rsd y p)) p) e k) (mq_x64 y))) = true := hg
    have hk := mq_vJ_kn g0
    obtain ⟨y, e8, e9, S5, g6⟩ := mq_vJ_of g0 hs
    obtain ⟨q, g7⟩ := mq_cond_of g6
    unfold mq_x64 at q
    have q3 : y + 1 ≤ 18446744073709551616 := Nat.ble_eq.mp q
    have hld : f (r * 13 + m) = .long (jl (y : Nat)) := (h4 (r * 13 + m) (by omega) hk).trans e9
    have hc := jq_rest (D := 0) h1 h2 h3 q1 q2 q3 q4 (show m ≤ 12 by omega) hld
    have hlt := mq_rsd_lt q1 q3
    have hvx : v * x ≤ 97 * 97 := Nat.mul_le_mul (by omega) qx
    have ih := jq_root_loop h1 h2 h3 h4 q1 q2 qx q4 K m ((v * x + mq_rsd y p) % p) e8 (by omega) (Nat.mod_lt _ (by omega)) g7 S5
    refine mj_T.pl rfl rfl rfl rfl ?_
    refine mj_T.if0 rfl ⟨by omega, by omega⟩ (fun hc9 => ?_) (fun hc9 => ?_)
    · simp only [jc, decide_eq_true_eq] at hc9
      omega
    · rw [show ((m + 1 : Nat) : Int) - 1 = (m : Int) by omega]
      iterate 2 refine mj_T.pl rfl rfl rfl rfl ?_
      refine mj_T.i2l rfl ⟨by omega, by omega⟩ ?_
      refine mj_T.lmul rfl ?_
      iterate 4 refine mj_T.pl rfl rfl rfl rfl ?_
      refine mj_T.call (ins := .invokevirtual 243) rfl rfl (Nat.le_of_ble_eq_true rfl) (Nat.le_of_ble_eq_true rfl) (by simp [mj_recv, h1]) rfl hc (fun v' h' hq' => ?_) (fun i h' hq' => by cases hq')
      cases hq'
      refine mj_T.ladd rfl ?_
      refine mj_T.pl rfl rfl rfl rfl ?_
      refine mj_T.i2l rfl ⟨by omega, by omega⟩ ?_
      rw [show (v : Int) * (x : Int) + ((mq_rsd y p : Nat) : Int) = ((v * x + mq_rsd y p : Nat) : Int) by rw [Int.natCast_add, Int.natCast_mul]]
      generalize v * x = vx at hvx ih ⊢
      generalize mq_rsd y p = w at hlt ih ⊢
      refine mj_T.lrem rfl ⟨by omega, by omega⟩ ⟨by omega, by omega⟩ (by omega) ?_
      rw [mq_tmod_nat]
      refine mj_T.pl rfl rfl rfl rfl ?_
      refine mj_T.iinc rfl rfl ?_
      refine mj_T.pl rfl rfl rfl rfl ?_
      exact ih
theorem mq_w280 : mq_okO 280 4 mq_r_root := by
  intro ρ as n t env kr kx h hl g hs hr
  obtain ⟨w, s, a, e, rfl, e1, S, g1⟩ := mq_pA_of g hs
  obtain ⟨w2, s2, r, e2, rfl, e3, S2, g2⟩ := mq_pI_of g1 S
  obtain ⟨w3, s3, x, e4, rfl, e5, S3, g3⟩ := mq_pI_of g2 S2
  obtain ⟨w4, s4, p, e6, rfl, e7, S4, g4⟩ := mq_pI_of g3 S3
  have hs2 : s4 = [] := mq_len1 (by simpa using hl)
  subst hs2
  obtain ⟨b, d, fs', f, h1, h2, h3, h4, g5⟩ := mq_rN_of g4 S4 hr
  obtain ⟨q, g7⟩ := mq_cond_of g5
  unfold mq_p97 at q
  rw [mq_and_eq, mq_and_eq, mq_and_eq] at q
  have q1 : 2 ≤ p := Nat.ble_eq.mp q.1.1.1
  have q2 : p ≤ 97 := Nat.ble_eq.mp q.1.1.2
  have q3 : x ≤ 97 := Nat.ble_eq.mp q.1.2
  have q4 : r ≤ 5 := Nat.ble_eq.mp q.2
  rw [List.map_cons, List.map_cons, List.map_cons, List.map_cons, List.map_nil, e1, e3, e5, e7]
  refine (mj_Ok.of (D := 1) (M := mj_m280) rfl rfl rfl ?_).up (by omega)
  iterate 4 refine mj_T.pl rfl rfl rfl rfl ?_
  refine jq_root_loop (ρ := ρ) h1 h2 h3 h4 q1 q2 q3 q4 (fun v e hv hs hk => ?_) 13 0 e6 (by omega) (by omega) g7 S4
  iterate 2 refine mj_T.pl rfl rfl rfl rfl ?_
  refine mj_T.lif (b := 0) rfl rfl ⟨by omega, by omega⟩ ⟨by omega, by omega⟩ (fun hc40 => ?_) (fun hc40 => ?_)
  · simp only [jc, Bool.not_eq_true', decide_eq_false_iff_not] at hc40
    refine mj_T.pl rfl rfl rfl rfl ?_
    refine mj_T.ret rfl rfl rfl ⟨_, _, _, _, ?_, hr, hs, hk⟩
    cases v with
    | zero => exact absurd rfl hc40
    | succ v => rfl
  · simp only [jc, Bool.not_eq_false', decide_eq_true_eq] at hc40
    have hv0 : v = 0 := by omega
    subst hv0
    iterate 2 refine mj_T.pl rfl rfl rfl rfl ?_
    refine mj_T.ret rfl rfl rfl ⟨_, _, _, _, ?_, hr, hs, hk⟩
    rfl
theorem mq_rsd_nat {w p : Nat} (h : w < 9223372036854775808) : mq_rsd w p = w % p := by
  unfold mq_rsd
  have e1 : Nat.ble (nat_lit 9223372036854775808) w = false := by rw [← Bool.not_eq_true, Nat.ble_eq]; exact Nat.not_le.mpr h
  rw [e1]
  rfl
theorem jq_vby_loop {ρ : Nat → Nat} {b x p len : Nat} {h : mj_H} {f : Nat → Value} {d : mq_T mq_W} {k : Nat → mq_V → Bool} {Q : mj_R → Prop} (hlen : len ≤ 100) (h3 : h[b]? = some (.inl (1, len, f))) (h4 : ∀ i, i < len → mq_kn (mq_get d i) = true → f i = mq_val ρ (mq_get d i)) (q1 : 2 ≤ p) (q2 : p ≤ 97) (qx : x ≤ 97) (K : ∀ v e, v < p → mq_Sat ρ e → k v e = true → mj_T 1 mj_m173 39 [some (.ref b), some (.int (jn (x : Nat))), some (.int (jn (p : Nat))), some (.int (jn (v : Nat))), some (.int (jn (-1)))] [] h Q) : ∀ m v e, m ≤ len → v < p → mq_hor d 0 x p m v e k = true → mq_Sat ρ e → mj_T 1 mj_m173 8 [some (.ref b), some (.int (jn (x : Nat))), some (.int (jn (p : Nat))), some (.int (jn (v : Nat))), some (.int (jn ((m : Int) - 1)))] [] h Q
  | 0, v, e, hm, hv, hg, hs => by
    refine mj_T.pl rfl rfl rfl rfl ?_
    refine mj_T.if0 rfl ⟨by omega, by omega⟩ (fun hc9 => ?_) (fun hc9 => ?_)
    · exact K v e hv hs hg
    · simp only [jc, decide_eq_false_iff_not] at hc9
      omega
  | m + 1, v, e, hm, hv, hg, hs => by
    have g0 : mq_vJ (mq_get d (0 + m)) e (fun y e => (Bool.rec (motive := fun _ => Bool) false (mq_hor d 0 x p m (Nat.mod (Nat.add (Nat.mul v x) (mq_rsd y p)) p) e k) (mq_x64 y))) = true := hg
    rw [Nat.zero_add] at g0
    have hk := mq_vJ_kn g0
    obtain ⟨y, e8, e9, S5, g6⟩ := mq_vJ_of g0 hs
    obtain ⟨q, g7⟩ := mq_cond_of g6
    unfold mq_x64 at q
    have q3 : y + 1 ≤ 18446744073709551616 := Nat.ble_eq.mp q
    have hld : f m = .long (jl (y : Nat)) := (h4 m (by omega) hk).trans e9
    have hlt := mq_rsd_lt q1 q3
    have hvx : v * x ≤ 97 * 97 := Nat.mul_le_mul (by omega) qx
    have ih := jq_vby_loop hlen h3 h4 q1 q2 qx K m ((v * x + mq_rsd y p) % p) e8 (by omega) (Nat.mod_lt _ (by omega)) g7 S5
    obtain ⟨i1, i2⟩ := mq_idx (show m < len by omega) (show len ≤ 1000000 by omega)
    refine mj_T.pl rfl rfl rfl rfl ?_
    refine mj_T.if0 rfl ⟨by omega, by omega⟩ (fun hc9 => ?_) (fun hc9 => ?_)
    · simp only [jc, decide_eq_true_eq] at hc9
      omega
    · rw [show ((m + 1 : Nat) : Int) - 1 = (m : Int) by omega]
      refine mj_T.pl rfl rfl rfl rfl ?_
      refine mj_T.i2l rfl ⟨by omega, by omega⟩ ?_
      refine mj_T.pl rfl rfl rfl rfl ?_
      refine mj_T.i2l rfl ⟨by omega, by omega⟩ ?_
      refine mj_T.lmul rfl ?_
      iterate 2 refine mj_T.pl rfl rfl rfl rfl ?_
      refine mj_T.step (loc' := [some (.ref b), some (.int (jn (x : Nat))), some (.int (jn (p : Nat))), some (.int (jn (v : Nat))), some (.int (jn (m : Int)))]) (st' := [.long (jl (y : Nat)), .long (jl ((v : Int) * (x : Int)))]) (h' := h) (pc' := 22) rfl rfl (by
        simp only [mj_step, h3, i1, i2]
        rw [if_pos ⟨(by first | trivial | rfl | omega), (by first | trivial | rfl | omega)⟩, hld]) ?_
      refine mj_T.pl rfl rfl rfl rfl ?_
      refine mj_T.call (ins := .invokestatic 172) rfl rfl (Nat.le_of_ble_eq_true rfl) (Nat.le_of_ble_eq_true rfl) rfl rfl (jq_rsd (D := 0) q1 q2 (show y < 18446744073709551616 by omega)) (fun v' h' hq' => ?_) (fun i h' hq' => by cases hq')
      cases hq'
      refine mj_T.i2l rfl ⟨by omega, by omega⟩ ?_
      refine mj_T.ladd rfl ?_
      refine mj_T.pl rfl rfl rfl rfl ?_
      rw [show (v : Int) * (x : Int) + ((mq_rsd y p : Nat) : Int) = ((v * x + mq_rsd y p : Nat) : Int) by rw [Int.natCast_add, Int.natCast_mul]]
      generalize v * x = vx at hvx ih ⊢
      generalize mq_rsd y p = w at hlt ih ⊢
      refine mj_T.call (ins := .invokestatic 172) rfl rfl (Nat.le_of_ble_eq_true rfl) (Nat.le_of_ble_eq_true rfl) rfl rfl (jq_rsd (D := 0) q1 q2 (show vx + w < 18446744073709551616 by omega)) (fun v' h' hq' => ?_) (fun i h' hq' => by cases hq')
      cases hq'
      rw [mq_rsd_nat (by omega)]
      refine mj_T.pl rfl rfl rfl rfl ?_
      refine mj_T.iinc rfl rfl ?_
      refine mj_T.pl rfl rfl rfl rfl ?_
      exact ih
theorem mq_w173 : mq_okO 173 3 mq_o_vby := by
  intro ρ as n t env kr kx h hl g hs hr
  obtain ⟨w, s, a, e, rfl, e1, S, g1⟩ := mq_pA_of g hs
  obtain ⟨w3, s3, x, e4, rfl, e5, S3, g3⟩ := mq_pI_of g1 S
  obtain ⟨w4, s4, p, e6, rfl, e7, S4, g4⟩ := mq_pI_of g3 S3
  have hs2 : s4 = [] := mq_len1 (by simpa using hl)
  subst hs2
  obtain ⟨ty, len, dep, d, f, h1, h3, h2, h4, h5, g5⟩ := mq_cA_of g4 hr
  obtain ⟨q, g7⟩ := mq_cond_of g5
  unfold mq_p97 at q
  rw [mq_and_eq, mq_and_eq, mq_and_eq, mq_and_eq] at q
  have q1 : 2 ≤ p := Nat.ble_eq.mp q.1.1.1
  have q2 : p ≤ 97 := Nat.ble_eq.mp q.1.1.2
  have q3 : x ≤ 97 := Nat.ble_eq.mp q.1.2
  have q4 : ty = 1 := Nat.beq_eq.mp q.2.1
  have q5 : len ≤ 100 := Nat.ble_eq.mp q.2.2
  subst q4
  rw [List.map_cons, List.map_cons, List.map_cons, List.map_nil, e1, e5, e7]
  refine (mj_Ok.of (D := 1) (M := mj_m173) rfl rfl rfl ?_).up (by omega)
  iterate 3 refine mj_T.pl rfl rfl rfl rfl ?_
  refine mj_T.alen rfl h3 ?_
  refine mj_T.pl rfl rfl rfl rfl ?_
  refine mj_T.isub (b := 1) rfl ?_
  refine mj_T.pl rfl rfl rfl rfl ?_
  refine jq_vby_loop (ρ := ρ) q5 h3 h4 q1 q2 q3 (fun v e hv hs hk => ?_) len 0 e6 (Nat.le_refl _) (by omega) g7 S4
  refine mj_T.pl rfl rfl rfl rfl ?_
  refine mj_T.ret rfl rfl rfl ⟨_, _, _, _, ?_, hr, hs, hk⟩
  rfl
