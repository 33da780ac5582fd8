/-! The class, exactly: gcd, simple, primitive, residue, setTerm. -/
theorem cgd_cg {f f' : Nat → Int} : ∀ k, (∀ i, i < k → f i = f' i) → cgd f k = cgd f' k
  | 0, _ => rfl
  | k + 1, h => by
    show Nat.gcd (cgd f k) (f k).natAbs = Nat.gcd (cgd f' k) (f' k).natAbs
    rw [cgd_cg k (fun i hi => h i (by omega)), h k (by omega)]
theorem sgc_cg {f f' : Nat → Int} (h : ∀ i, i < 13 → f i = f' i) : sgc f = sgc f' := by
  have e1 : fdg f 13 = fdg f' 13 := fdg_congr 13 h
  have e2 := cgd_cg 13 h
  unfold sgc
  rw [e1, e2]
  by_cases q : 0 < fdg f' 13
  · rw [h (fdg f' 13 - 1) (by have := fdg_le f' 13; omega)]
  · rw [if_neg (fun y => q y.1), if_neg (fun y => q y.1)]
theorem ppr_cg {f f' : Nat → Int} (h : ∀ i, i < 13 → f i = f' i) : ppr f = ppr f' := funext fun i => by
  unfold ppr
  by_cases q : i < 13
  · rw [if_pos q, if_pos q, sgc_cg h, h i q]
  · rw [if_neg q, if_neg q]
theorem gcR_cg {f1 f1' f2 f2' : Nat → Int} (h1 : ∀ i, i < 13 → f1 i = f1' i) (h2 : ∀ i, i < 13 → f2 i = f2' i) {R : pz_P} (q : gcR f1 f2 R) : gcR f1' f2' R := by
  have e1 : fdg f1 13 = fdg f1' 13 := fdg_congr 13 h1
  have e2 : fdg f2 13 = fdg f2' 13 := fdg_congr 13 h2
  unfold gcR at q ⊢
  rw [e1, e2, ppr_cg h1, ppr_cg h2, cgd_cg 13 h1, cgd_cg 13 h2] at q
  exact q
/-- the simple part of a polynomial -/
def smR (R S : pz_P) : Prop := ∃ (G : pz_P) (dg : Nat), GP (ppr R) (drv (ppr R)) G dg ∧ ppr R = pz_mul S G ∧ ∃ ds, ds ≤ 12 ∧ pz_lt S (ds + 1) ∧ S ds ≠ 0
section MP3
variable {g h : mj_H} {n D u : Nat} {V : Nat → Int} {X : Nat → Nat → Int} {N : Nat → Int} {H : Nat → Nat → Int}
theorem oX_gcd (A : AS N u H) (m : jM g n V X h) (b0 : by0 V) (d : DG X) (c : CR X N u H) {a : Int} (ha : 0 ≤ a ∧ a ≤ 5) {b : Int} (hb : 0 ≤ b ∧ b ≤ 5) : mj_Ok (D + 7) 59 [.ref 444, .ref (4 + a.toNat), .ref (4 + b.toNat), .ref 481] h (oR g n X (fun w => ∃ R, gcR (rwN N a) (rwN N b) R ∧ isP R w) (∃ R, gcR (rwN N a) (rwN N b) R ∧ ¬ fit13 R)) := by
  refine (mR_share (D := D) m b0 d (mK_rt a.toNat (by omega)) (mK_rt b.toNat (by omega)) cq_d481 (c.sm A.1 ha) (c.sm A.1 hb)).to (fun z hz => ?_)
  obtain ⟨V2, X2, h2, R, m2, b2, d2, fx, hR, hz⟩ := hz
  have hR2 := gcR_cg (c.rw ha) (c.rw hb) hR
  rcases hz with ⟨hf, rfl, hx⟩ | ⟨hf, rfl⟩
  · exact ⟨V2, X2, h2, 1, m2, b2, d2, sBn.fxt fx, Or.inl ⟨rfl, isP.s ⟨hf, hx⟩, R, hR2, hf, hx⟩, rfl⟩
  · exact ⟨V2, X2, h2, 0, m2, b2, d2, sBn.fxt fx, Or.inr ⟨rfl, R, hR2, hf⟩, rfl⟩
theorem mR_storeS (m : jM g n V X h) {S : pz_P} (hS : ∀ e, e < 13 → V (180 + 4 + 2 * e) = S e) (hz : ∀ e, 13 ≤ e → S e = 0) (hb : ∀ i, (S i).natAbs ≤ kM) : mj_Ok (D + 3) 62 [.ref 444, .ref 481] h (fun z => ∃ (y : Int) (X5 : Nat → Nat → Int) (h5 : mj_H), jM g n V X5 h5 ∧ ((y = 1 ∧ fit13 S ∧ X5 = xfl X 481 (pco V 180) 13) ∨ (y = 0 ∧ ¬ fit13 S ∧ X5 = X)) ∧ z = (.inl (some (.int (jn y))), h5)) := by
  have hc183 : cL (180 + 3) = 13 := by decide +kernel
  have l173 := mK_r.2.2.2.1
  have hfi := pok_fit (V := V) (p := 180) (m := 13) hc183.symm (by decide) S hS hz
  have hcl : pcl V 180 := fun i hi => by
    rw [hc183] at hi
    rw [hS i hi]
    have := jnl_B (hb i) kM_1.2.1
    omega
  refine mj_Ok.of (M := mj_m62) rfl rfl rfl ?_
  refine mj_T.pl rfl rfl rfl rfl ?_
  refine mT_get m 15 cq_d444 (by decide) rfl rfl ?_
  refine mT_get m 16 cq_d172 (by decide) rfl rfl ?_
  refine mj_T.pl rfl rfl rfl rfl ?_
  refine mT_aald m 5 cq_d173 (by decide) rfl rfl (by omega) ⟨by omega, by omega⟩ ?_
  refine mj_T.eq (st2 := [.ref 180]) ?_ rfl rfl rfl rfl
  refine mj_T.pl rfl rfl rfl rfl ?_
  refine mj_T.call rfl rfl (Nat.le_of_ble_eq_true rfl) (Nat.le_of_ble_eq_true rfl) (mV_of m 13 cq_d180 (by decide) rfl (by decide) rfl _) rfl (mj_Ok.up (by omega) (mP_store (D := 0) m cq_d180 hcl cq_d481 (by rw [hc183]; decide))) (fun v g1 hq => ?_) (fun i g1 hq => ?_)
  rotate_left
  · rcases hq with ⟨_, _, _, hq⟩ | ⟨_, hq⟩ <;> cases hq
  obtain ⟨y, X5, m5, hy, hq⟩ : ∃ (y : Int) (X5 : Nat → Nat → Int), jM g n V X5 g1 ∧ ((y = 1 ∧ fit13 S ∧ X5 = xfl X 481 (pco V 180) 13) ∨ (y = 0 ∧ ¬ fit13 S ∧ X5 = X)) ∧ v = some (.int (jn y)) := by
    rcases hq with ⟨ho, h5, m5, hq⟩ | ⟨ho, hq⟩
    · cases hq
      exact ⟨1, _, m5, Or.inl ⟨rfl, hfi.mp ho, rfl⟩, rfl⟩
    · cases hq
      exact ⟨0, X, m, Or.inr ⟨rfl, fun q => ho (hfi.mpr q), rfl⟩, rfl⟩
  subst hq
  have hy2 : y = 0 ∨ y = 1 := by
    rcases hy with ⟨e, _⟩ | ⟨e, _⟩
    · exact Or.inr e
    · exact Or.inl e
  refine mj_T.eq (pc2 := 13) (st2 := [.int (jn y)]) ?_ rfl rfl rfl rfl
  rcases hy with ⟨rfl, hy⟩ | ⟨rfl, hy⟩
  · exact mj_T.ret rfl rfl rfl ⟨1, X5, _, m5, Or.inl ⟨rfl, hy⟩, rfl⟩
  · exact mj_T.ret rfl rfl rfl ⟨0, X5, _, m5, Or.inr ⟨rfl, hy⟩, rfl⟩
theorem oX_sim {R S : pz_P} (A : AS N u H) (m : jM g n V X h) (b0 : by0 V) (d : DG X) (hS : ∀ e, e < 13 → V (180 + 4 + 2 * e) = S e) (hz : ∀ e, 13 ≤ e → S e = 0) (hb : ∀ i, (S i).natAbs ≤ kM) (hR : smR R S) : mj_Ok (D + 3) 62 [.ref 444, .ref 481] h (oR g n X (fun w => ∃ S, smR R S ∧ isP S w) (∃ S, smR R S ∧ ¬ fit13 S)) := by
  refine (mR_storeS (D := D) m hS hz hb).to (fun z hz => ?_)
  obtain ⟨y, X5, h5, m5, hy, rfl⟩ := hz
  rcases hy with ⟨rfl, hf, rfl⟩ | ⟨rfl, hf, rfl⟩
  · have hw : ∀ j, j < 13 → (xfl X 481 (pco V 180) 13) 481 j = S j := fun j hj => (xfl_at _ _ _ hj).trans (hS j hj)
    exact ⟨V, _, h5, 1, m5, b0, d.of (fun p kp => xfl_off _ _ _ (by have := cK_13 kp; omega)), sBn.row (Or.inl rfl), Or.inl ⟨rfl, isP.s ⟨hf, hw⟩, S, hR, hf, hw⟩, rfl⟩
  · exact ⟨V, X5, h5, 0, m5, b0, d, sBn.rf _, Or.inr ⟨rfl, S, hR, hf⟩, rfl⟩
end MP3
section MP3
variable {g h : mj_H} {n D r : Nat} {t a : Int} {V : Nat → Int} {X : Nat → Nat → Int}
theorem mC_prim_loop (kr : cK r = 2) (hne : r ≠ 481) (hr : sml (X r)) {Q : mj_R → Prop} (hend : ∀ h, jM g n V (xfl X 481 (ppr (X r)) 13) h → mj_T D mj_m110 66 [some (.ref 1), some (.int (jn t)), some (.int (jn a)), some (.ref r), some (.long (jl (sgc (X r)))), none, some (.int (jn ((13 : Nat) : Int)))] [] h Q) : ∀ k i, i + k = 13 → ∀ h, jM g n V (xfl X 481 (ppr (X r)) i) h → mj_T D mj_m110 21 [some (.ref 1), some (.int (jn t)), some (.int (jn a)), some (.ref r), some (.long (jl (sgc (X r)))), none, some (.int (jn ((i : Nat) : Int)))] [] h Q
  | 0, i, hi, h, m => by
    iterate 2 refine mj_T.pl rfl rfl rfl rfl ?_
    refine mj_T.icmp (a := ((i : Nat) : Int)) (b := 13) rfl ⟨by omega, by omega⟩ ⟨by omega, by omega⟩ (fun c1 => ?_) (fun c1 => ?_)
    · simp only [jc, Bool.not_eq_true', Bool.not_eq_false', decide_eq_true_eq, decide_eq_false_iff_not] at c1
      have hi13 : i = 13 := by omega
      subst hi13
      exact hend _ m
    · exfalso
      simp only [jc, Bool.not_eq_true', Bool.not_eq_false', decide_eq_true_eq, decide_eq_false_iff_not] at c1
      omega
  | k + 1, i, hi, h, m => by
    have er : (xfl X 481 (ppr (X r)) i) r i = X r i := congrFun (xfl_off _ _ _ hne) i
    have hb := hr i (by omega)
    have hsr : -9223372036854775808 ≤ sgc (X r) ∧ sgc (X r) ≤ 9223372036854775807 := by
      have := sgc_r hr
      unfold jR at this
      omega
    iterate 2 refine mj_T.pl rfl rfl rfl rfl ?_
    refine mj_T.icmp (a := ((i : Nat) : Int)) (b := 13) rfl ⟨by omega, by omega⟩ ⟨by omega, by omega⟩ (fun c1 => ?_) (fun c1 => ?_)
    · exfalso
      simp only [jc, Bool.not_eq_true', Bool.not_eq_false', decide_eq_true_eq, decide_eq_false_iff_not] at c1
      omega
    · simp only [jc, Bool.not_eq_true', Bool.not_eq_false', decide_eq_true_eq, decide_eq_false_iff_not] at c1
      iterate 2 refine mj_T.pl rfl rfl rfl rfl ?_
      refine mT_llen m kr rfl ?_
      refine mj_T.icmp (a := ((i : Nat) : Int)) (b := ((13 : Nat) : Int)) rfl ⟨by omega, by omega⟩ ⟨by omega, by omega⟩ (fun c2 => ?_) (fun c2 => ?_)
      · exfalso
        simp only [jc, Bool.not_eq_true', Bool.not_eq_false', decide_eq_true_eq, decide_eq_false_iff_not] at c2
        omega
      · simp only [jc, Bool.not_eq_true', Bool.not_eq_false', decide_eq_true_eq, decide_eq_false_iff_not] at c2
        refine mj_T.pl rfl rfl rfl rfl ?_
        refine mT_get m 19 cq_d1 (by decide) rfl rfl ?_
        iterate 2 refine mj_T.pl rfl rfl rfl rfl ?_
        refine jT.lc 0 rfl rfl ?_
        refine mj_T.lif (a := (sgc (X r))) (b := ((0 : Nat) : Int)) rfl rfl ⟨by omega, by omega⟩ ⟨by omega, by omega⟩ (fun c3 => ?_) (fun c3 => ?_)
        · simp only [jc, Bool.not_eq_true', Bool.not_eq_false', decide_eq_true_eq, decide_eq_false_iff_not] at c3
          iterate 2 refine mj_T.pl rfl rfl rfl rfl ?_
          refine mT_lald m kr rfl ⟨by omega, by omega⟩ ?_
          refine mj_T.eq (st2 := [.long (jl ((xfl X 481 (ppr (X r)) i) r i)), .int (jn ((i : Nat) : Int)), .ref 481]) ?_ rfl rfl rfl rfl
          refine mj_T.pl rfl rfl rfl rfl ?_
          refine mT_ldiv rfl ⟨by omega, by omega⟩ (by omega) ⟨by omega, by omega⟩ (by omega) ?_
          refine mT_last (v := (((xfl X 481 (ppr (X r)) i) r i).tdiv (sgc (X r)))) m cq_d481 rfl ⟨by omega, by omega⟩ (fun h4 m5 => ?_)
          refine mj_T.iinc rfl rfl ?_
          rw [show ((i : Nat) : Int) + 1 = ((i + 1 : Nat) : Int) by omega]
          refine mj_T.eq (loc2 := [some (.ref 1), some (.int (jn t)), some (.int (jn a)), some (.ref r), some (.long (jl (sgc (X r)))), none, some (.int (jn (((i + 1) : Nat) : Int)))]) ?_ rfl rfl rfl rfl
          refine mj_T.pl rfl rfl rfl rfl ?_
          refine mC_prim_loop kr hne hr hend k (i + 1) (by omega) _ ?_
          rw [xfl_full (v := (((xfl X 481 (ppr (X r)) i) r i).tdiv (sgc (X r)))) ?_]
          · exact m5
          · show _ = if i < 13 then (X r i).tdiv (sgc (X r)) else 0
            rw [if_pos (by omega), er]
        · simp only [jc, Bool.not_eq_true', Bool.not_eq_false', decide_eq_true_eq, decide_eq_false_iff_not] at c3
          refine jT.lc 0 rfl rfl ?_
          refine mj_T.pl rfl rfl rfl rfl ?_
          refine mT_last (v := ((0 : Nat) : Int)) m cq_d481 rfl ⟨by omega, by omega⟩ (fun h6 m7 => ?_)
          refine mj_T.iinc rfl rfl ?_
          rw [show ((i : Nat) : Int) + 1 = ((i + 1 : Nat) : Int) by omega]
          refine mj_T.eq (loc2 := [some (.ref 1), some (.int (jn t)), some (.int (jn a)), some (.ref r), some (.long (jl (sgc (X r)))), none, some (.int (jn (((i + 1) : Nat) : Int)))]) ?_ rfl rfl rfl rfl
          refine mj_T.pl rfl rfl rfl rfl ?_
          refine mC_prim_loop kr hne hr hend k (i + 1) (by omega) _ ?_
          rw [xfl_full (v := ((0 : Nat) : Int)) ?_]
          · exact m7
          · show ((0 : Nat) : Int) = if i < 13 then (X r i).tdiv (sgc (X r)) else 0
            rw [if_pos (by omega), show sgc (X r) = 0 by omega, Int.tdiv_zero]
            rfl
theorem mC_res_loop (kr : cK r = 2) (hne : r ≠ 481) (hr : sml (X r)) {p : Int} (hp : 0 < p ∧ p ≤ 97) {Q : mj_R → Prop} (hend : ∀ h, jM g n V (xfl X 481 (fun j => X r j % p) 13) h → mj_T (D + 1) mj_m112 58 [some (.ref 1), some (.int (jn t)), some (.int (jn a)), some (.int (jn p)), some (.ref r), some (.int (jn ((13 : Nat) : Int)))] [] h Q) : ∀ k i, i + k = 13 → ∀ h, jM g n V (xfl X 481 (fun j => X r j % p) i) h → mj_T (D + 1) mj_m112 20 [some (.ref 1), some (.int (jn t)), some (.int (jn a)), some (.int (jn p)), some (.ref r), some (.int (jn ((i : Nat) : Int)))] [] h Q
  | 0, i, hi, h, m => by
    iterate 2 refine mj_T.pl rfl rfl rfl rfl ?_
    refine mj_T.icmp (a := ((i : Nat) : Int)) (b := 13) rfl ⟨by omega, by omega⟩ ⟨by omega, by omega⟩ (fun c1 => ?_) (fun c1 => ?_)
    · simp only [jc, Bool.not_eq_true', Bool.not_eq_false', decide_eq_true_eq, decide_eq_false_iff_not] at c1
      have hi13 : i = 13 := by omega
      subst hi13
      exact hend _ m
    · exfalso
      simp only [jc, Bool.not_eq_true', Bool.not_eq_false', decide_eq_true_eq, decide_eq_false_iff_not] at c1
      omega
  | k + 1, i, hi, h, m => by
    have er : (xfl X 481 (fun j => X r j % p) i) r i = X r i := congrFun (xfl_off _ _ _ hne) i
    have hb := hr i (by omega)
    have hm1 : 0 ≤ (xfl X 481 (fun j => X r j % p) i) r i % p := Int.emod_nonneg _ (by omega)
    have hm2 : (xfl X 481 (fun j => X r j % p) i) r i % p < p := Int.emod_lt_of_pos _ hp.1
    iterate 2 refine mj_T.pl rfl rfl rfl rfl ?_
    refine mj_T.icmp (a := ((i : Nat) : Int)) (b := 13) rfl ⟨by omega, by omega⟩ ⟨by omega, by omega⟩ (fun c1 => ?_) (fun c1 => ?_)
    · exfalso
      simp only [jc, Bool.not_eq_true', Bool.not_eq_false', decide_eq_true_eq, decide_eq_false_iff_not] at c1
      omega
    · simp only [jc, Bool.not_eq_true', Bool.not_eq_false', decide_eq_true_eq, decide_eq_false_iff_not] at c1
      iterate 2 refine mj_T.pl rfl rfl rfl rfl ?_
      refine mT_llen m kr rfl ?_
      refine mj_T.icmp (a := ((i : Nat) : Int)) (b := ((13 : Nat) : Int)) rfl ⟨by omega, by omega⟩ ⟨by omega, by omega⟩ (fun c2 => ?_) (fun c2 => ?_)
      · exfalso
        simp only [jc, Bool.not_eq_true', Bool.not_eq_false', decide_eq_true_eq, decide_eq_false_iff_not] at c2
        omega
      · simp only [jc, Bool.not_eq_true', Bool.not_eq_false', decide_eq_true_eq, decide_eq_false_iff_not] at c2
        refine mj_T.pl rfl rfl rfl rfl ?_
        refine mT_get m 19 cq_d1 (by decide) rfl rfl ?_
        iterate 3 refine mj_T.pl rfl rfl rfl rfl ?_
        refine mT_lald m kr rfl ⟨by omega, by omega⟩ ?_
        refine mj_T.eq (st2 := [.long (jl ((xfl X 481 (fun j => X r j % p) i) r i)), .int (jn ((i : Nat) : Int)), .ref 481]) ?_ rfl rfl rfl rfl
        refine mj_T.pl rfl rfl rfl rfl ?_
        refine mj_T.call rfl rfl (Nat.le_of_ble_eq_true rfl) (Nat.le_of_ble_eq_true rfl) rfl rfl (mj_Ok.up (by omega) (mS_res (D := 0) (v := ((xfl X 481 (fun j => X r j % p) i) r i)) (p := p) (by unfold jR; omega) (by omega) (by omega))) (fun v g3 hq => ?_) (fun i g3 hq => ?_)
        rotate_left
        · cases hq
        cases hq
        refine mj_T.eq (pc2 := 50) (st2 := [.int (jn (((xfl X 481 (fun j => X r j % p) i) r i) % p)), .int (jn ((i : Nat) : Int)), .ref 481]) ?_ rfl rfl rfl rfl
        refine mj_T.i2l rfl ⟨by omega, by omega⟩ ?_
        refine mT_last (v := (((xfl X 481 (fun j => X r j % p) i) r i) % p)) m cq_d481 rfl ⟨by omega, by omega⟩ (fun h4 m5 => ?_)
        refine mj_T.iinc rfl rfl ?_
        rw [show ((i : Nat) : Int) + 1 = ((i + 1 : Nat) : Int) by omega]
        refine mj_T.eq (loc2 := [some (.ref 1), some (.int (jn t)), some (.int (jn a)), some (.int (jn p)), some (.ref r), some (.int (jn (((i + 1) : Nat) : Int)))]) ?_ rfl rfl rfl rfl
        refine mj_T.pl rfl rfl rfl rfl ?_
        refine mC_res_loop kr hne hr hp hend k (i + 1) (by omega) _ ?_
        rw [xfl_full (v := (((xfl X 481 (fun j => X r j % p) i) r i) % p)) ?_]
        · exact m5
        · show _ = X r i % p
          rw [er]
end MP3
/-! The class, exactly: the calls gcd, simple, primitive, residue, setTerm. -/
section MP4
variable {g h : mj_H} {n D u : Nat} {N : Nat → Int} {H : Nat → Nat → Int}
theorem pX_gcd (hg : g.length ≤ n) (A : AS N u H) (s : cS g n N u H h) {to : Int} (rto : -2147483648 ≤ to ∧ to ≤ 2147483647) {a : Int} (ra : -2147483648 ≤ a ∧ a ≤ 2147483647) {b : Int} (rb : -2147483648 ≤ b ∧ b ≤ 2147483647) : mj_Ok (D + 8) 109 [.ref 1, .int (jn to), .int (jn a), .int (jn b)] h (RO g n N u H ((0 ≤ to ∧ to ≤ 5) ∧ (0 ≤ a ∧ a ≤ 5) ∧ (0 ≤ b ∧ b ≤ 5)) (fun k => (∃ R, gcR (rwN N a) (rwN N b) R ∧ ¬ fit13 R) ∧ k = 1) (fun w => ∃ R, gcR (rwN N a) (rwN N b) R ∧ isP R w) to) := by
  obtain ⟨V, X, m, b0, d, c⟩ := s
  refine mj_Ok.of (M := mj_m109) rfl rfl rfl ?_
  iterate 2 refine mj_T.pl rfl rfl rfl rfl ?_
  refine mj_T.call rfl rfl (Nat.le_of_ble_eq_true rfl) (Nat.le_of_ble_eq_true rfl) (mV_of m 19 cq_d1 (by decide) rfl (by decide) rfl _) rfl (mj_Ok.up (by omega) (mC_rowOf (D := 0) m (i := to) (by omega))) (fun v g1 hq => ?_) (fun i g1 hq => ?_)
  rotate_left
  · rcases hq with ⟨_, hq⟩ | ⟨hn, hq⟩
    · cases hq
    · cases hq
      exact Or.inl ⟨rfl, Or.inr ⟨_, _, Or.inl ⟨by omega, rfl⟩, cS.thr hg m b0 d c, rfl⟩⟩
  rcases hq with ⟨kto, hq⟩ | ⟨_, hq⟩
  rotate_left
  · cases hq
  cases hq
  refine mj_T.eq (pc2 := 5) (st2 := [.ref (4 + to.toNat)]) ?_ rfl rfl rfl rfl
  iterate 2 refine mj_T.pl rfl rfl rfl rfl ?_
  refine mT_get m 19 cq_d1 (by decide) rfl rfl ?_
  iterate 2 refine mj_T.pl rfl rfl rfl rfl ?_
  refine mj_T.call rfl rfl (Nat.le_of_ble_eq_true rfl) (Nat.le_of_ble_eq_true rfl) (mV_of m 19 cq_d1 (by decide) rfl (by decide) rfl _) rfl (mj_Ok.up (by omega) (mC_rowOf (D := 0) m (i := a) (by omega))) (fun v g2 hq => ?_) (fun i g2 hq => ?_)
  rotate_left
  · rcases hq with ⟨_, hq⟩ | ⟨hn, hq⟩
    · cases hq
    · cases hq
      exact Or.inl ⟨rfl, Or.inr ⟨_, _, Or.inl ⟨by omega, rfl⟩, cS.thr hg m b0 d c, rfl⟩⟩
  rcases hq with ⟨ka, hq⟩ | ⟨_, hq⟩
  rotate_left
  · cases hq
  cases hq
  refine mj_T.eq (pc2 := 15) (st2 := [.ref (4 + a.toNat), .ref 444]) ?_ rfl rfl rfl rfl
  iterate 2 refine mj_T.pl rfl rfl rfl rfl ?_
  refine mj_T.call rfl rfl (Nat.le_of_ble_eq_true rfl) (Nat.le_of_ble_eq_true rfl) (mV_of m 19 cq_d1 (by decide) rfl (by decide) rfl _) rfl (mj_Ok.up (by omega) (mC_rowOf (D := 0) m (i := b) (by omega))) (fun v g3 hq => ?_) (fun i g3 hq => ?_)
  rotate_left
  · rcases hq with ⟨_, hq⟩ | ⟨hn, hq⟩
    · cases hq
    · cases hq
      exact Or.inl ⟨rfl, Or.inr ⟨_, _, Or.inl ⟨by omega, rfl⟩, cS.thr hg m b0 d c, rfl⟩⟩
  rcases hq with ⟨kb, hq⟩ | ⟨_, hq⟩
  rotate_left
  · cases hq
  cases hq
  refine mj_T.eq (pc2 := 20) (st2 := [.ref (4 + b.toNat), .ref (4 + a.toNat), .ref 444]) ?_ rfl rfl rfl rfl
  refine mj_T.pl rfl rfl rfl rfl ?_
  refine mT_get m 19 cq_d1 (by decide) rfl rfl ?_
  refine mj_T.call rfl rfl (Nat.le_of_ble_eq_true rfl) (Nat.le_of_ble_eq_true rfl) (mV_of m 15 cq_d444 (by decide) rfl (by decide) rfl _) rfl (mj_Ok.up (by omega) (oX_gcd (D := 0) A m b0 d c ka kb)) (fun v g4 hq => ?_) (fun i g4 hq => ?_)
  rotate_left
  · obtain ⟨_, _, _, _, _, _, _, _, _, hq⟩ := hq; cases hq
  obtain ⟨V5, X5, _, y, m5, b5, d5, s5, hy, hq⟩ := hq
  cases hq
  have hy2 : y = 0 ∨ y = 1 := by
    rcases hy with ⟨e, _⟩ | ⟨e, _⟩
    · exact Or.inr e
    · exact Or.inl e
  refine mj_T.eq (pc2 := 27) (st2 := [.int (jn y)]) ?_ rfl rfl rfl rfl
  refine mj_T.if0 (a := y) rfl ⟨by omega, by omega⟩ (fun c5 => ?_) (fun c5 => ?_)
  · simp only [jc, Bool.not_eq_true', Bool.not_eq_false', decide_eq_true_eq, decide_eq_false_iff_not] at c5
    have hok := hy.resolve_right (fun q => absurd q.1 (by omega))
    iterate 2 refine mj_T.pl rfl rfl rfl rfl ?_
    refine mj_T.call rfl rfl (Nat.le_of_ble_eq_true rfl) (Nat.le_of_ble_eq_true rfl) (mV_of m5 19 cq_d1 (by decide) rfl (by decide) rfl _) rfl (mj_Ok.up (by omega) (mX_keep (D := 0) A m5 b5 d5 (c.sb s5) kto hok.2.1)) (fun v g6 hq => ?_) (fun i g6 hq => ?_)
    rotate_left
    · obtain ⟨_, _, hq⟩ := hq; cases hq
    obtain ⟨_, cs, hq⟩ := hq
    cases hq
    refine mj_T.eq (pc2 := 43) (st2 := [.int (jn ((fdg (X5 481) 13 : Int) - 1))]) ?_ rfl rfl rfl rfl
    exact mj_T.ret rfl rfl rfl (Or.inl ⟨⟨kto, ka, kb⟩, _, _, hok.2.1, hok.2.2, cs, rfl⟩)
  · simp only [jc, Bool.not_eq_true', Bool.not_eq_false', decide_eq_true_eq, decide_eq_false_iff_not] at c5
    have hbad := hy.resolve_left (fun q => absurd q.1 (by omega))
    exact mj_T.throws rfl rfl rfl (Nat.le_of_ble_eq_true rfl) (Or.inr ⟨_, _, Or.inr ⟨⟨kto, ka, kb⟩, ⟨hbad.2, rfl⟩⟩, cS.thr hg m5 b5 d5 (c.sb s5), rfl⟩)
theorem pX_simple (hg : g.length ≤ n) (A : AS N u H) (s : cS g n N u H h) {to : Int} (rto : -2147483648 ≤ to ∧ to ≤ 2147483647) {a : Int} (ra : -2147483648 ≤ a ∧ a ≤ 2147483647) : mj_Ok (D + 8) 111 [.ref 1, .int (jn to), .int (jn a)] h (RO g n N u H ((0 ≤ to ∧ to ≤ 5) ∧ (0 ≤ a ∧ a ≤ 5)) (fun k => (fdg (rwN N a) 13 = 0 ∧ k = 3) ∨ (0 < fdg (rwN N a) 13 ∧ (∃ S, smR (rwN N a) S ∧ ¬ fit13 S) ∧ k = 1)) (fun w => 0 < fdg (rwN N a) 13 ∧ ∃ S, smR (rwN N a) S ∧ isP S w) to) := by
  obtain ⟨V, X, m, b0, d, c⟩ := s
  refine mj_Ok.of (M := mj_m111) rfl rfl rfl ?_
  iterate 2 refine mj_T.pl rfl rfl rfl rfl ?_
  refine mj_T.call rfl rfl (Nat.le_of_ble_eq_true rfl) (Nat.le_of_ble_eq_true rfl) (mV_of m 19 cq_d1 (by decide) rfl (by decide) rfl _) rfl (mj_Ok.up (by omega) (mC_rowOf (D := 0) m (i := to) (by omega))) (fun v g1 hq => ?_) (fun i g1 hq => ?_)
  rotate_left
  · rcases hq with ⟨_, hq⟩ | ⟨hn, hq⟩
    · cases hq
    · cases hq
      exact Or.inl ⟨rfl, Or.inr ⟨_, _, Or.inl ⟨by omega, rfl⟩, cS.thr hg m b0 d c, rfl⟩⟩
  rcases hq with ⟨kto, hq⟩ | ⟨_, hq⟩
  rotate_left
  · cases hq
  cases hq
  refine mj_T.eq (pc2 := 5) (st2 := [.ref (4 + to.toNat)]) ?_ rfl rfl rfl rfl
  iterate 3 refine mj_T.pl rfl rfl rfl rfl ?_
  refine mj_T.call rfl rfl (Nat.le_of_ble_eq_true rfl) (Nat.le_of_ble_eq_true rfl) (mV_of m 19 cq_d1 (by decide) rfl (by decide) rfl _) rfl (mj_Ok.up (by omega) (mC_rowOf (D := 0) m (i := a) (by omega))) (fun v g2 hq => ?_) (fun i g2 hq => ?_)
  rotate_left
  · rcases hq with ⟨_, hq⟩ | ⟨hn, hq⟩
    · cases hq
    · cases hq
      exact Or.inl ⟨rfl, Or.inr ⟨_, _, Or.inl ⟨by omega, rfl⟩, cS.thr hg m b0 d c, rfl⟩⟩
  rcases hq with ⟨ka, hq⟩ | ⟨_, hq⟩
  rotate_left
  · cases hq
  cases hq
  refine mj_T.eq (pc2 := 11) (st2 := [.ref (4 + a.toNat)]) ?_ rfl rfl rfl rfl
  refine mj_T.pl (loc' := [some (.ref 1), some (.int (jn to)), some (.int (jn a)), some (.ref (4 + a.toNat))]) rfl rfl rfl rfl ?_
  refine mj_T.pl rfl rfl rfl rfl ?_
  refine mj_T.call rfl rfl (Nat.le_of_ble_eq_true rfl) (Nat.le_of_ble_eq_true rfl) rfl rfl (mj_Ok.up (by omega) (mC_zero (D := 0) m (mK_rt a.toNat (by omega)) (c.sm A.1 ka))) (fun v g3 hq => ?_) (fun i g3 hq => ?_)
  rotate_left
  · rcases hq with ⟨_, hq⟩ | ⟨hn, hq⟩
    · cases hq
    · cases hq
      exact Or.inl ⟨rfl, Or.inr ⟨_, _, Or.inr ⟨⟨kto, ka⟩, Or.inl ⟨by have ez := fdg_congr 13 (c.rw ka); omega, rfl⟩⟩, cS.thr hg m b0 d c, rfl⟩⟩
  rcases hq with ⟨kz, hq⟩ | ⟨_, hq⟩
  rotate_left
  · cases hq
  cases hq
  refine mj_T.eq (pc2 := 16) (st2 := []) ?_ rfl rfl rfl rfl
  refine mj_T.pl rfl rfl rfl rfl ?_
  refine mT_get m 19 cq_d1 (by decide) rfl rfl ?_
  refine mj_T.pl rfl rfl rfl rfl ?_
  refine mj_T.call rfl rfl (Nat.le_of_ble_eq_true rfl) (Nat.le_of_ble_eq_true rfl) (mV_of m 15 cq_d444 (by decide) rfl (by decide) rfl _) rfl (mj_Ok.up (by omega) (mR_begin (D := 0) m b0 d (mK_rt a.toNat (by omega)) (c.sm A.1 ka) (by omega))) (fun v g4 hq => ?_) (fun i g4 hq => ?_)
  rotate_left
  · obtain ⟨_, _, _, _, _, _, _, _, _, _, _, _, _, _, _, _, _, _, _, hq⟩ := hq; cases hq
  obtain ⟨V6, X6, _, S, G, ds, dG, m6, b6, d6, fx, gp, es, hS1, hS2, hS3, hSb, hS4, hS5, hq⟩ := hq
  cases hq
  have s6 := sBn.fx fx
  have ez := fdg_congr 13 (c.rw ka)
  have hR : smR (rwN N a) S := by
    rw [ppr_cg (c.rw ka)] at gp es
    exact ⟨G, dG, gp, es, ds, hS3, hS1, hS2⟩
  refine mj_T.eq (pc2 := 24) (st2 := []) ?_ rfl rfl rfl rfl
  refine mj_T.pl rfl rfl rfl rfl ?_
  refine mT_get m6 19 cq_d1 (by decide) rfl rfl ?_
  refine mj_T.pl rfl rfl rfl rfl ?_
  refine mT_get m6 19 cq_d1 (by decide) rfl rfl ?_
  refine mj_T.call rfl rfl (Nat.le_of_ble_eq_true rfl) (Nat.le_of_ble_eq_true rfl) (mV_of m6 15 cq_d444 (by decide) rfl (by decide) rfl _) rfl (mj_Ok.up (by omega) (oX_sim (D := 0) (R := rwN N a) A m6 b6 d6 hS4 (fun e he => hS1 e (by omega)) hSb hR)) (fun v g5 hq => ?_) (fun i g5 hq => ?_)
  rotate_left
  · obtain ⟨_, _, _, _, _, _, _, _, _, hq⟩ := hq; cases hq
  obtain ⟨V5, X5, _, y, m5, b5, d5, s5, hy, hq⟩ := hq
  cases hq
  have hy2 : y = 0 ∨ y = 1 := by
    rcases hy with ⟨e, _⟩ | ⟨e, _⟩
    · exact Or.inr e
    · exact Or.inl e
  refine mj_T.eq (pc2 := 35) (st2 := [.int (jn y)]) ?_ rfl rfl rfl rfl
  refine mj_T.if0 (a := y) rfl ⟨by omega, by omega⟩ (fun c6 => ?_) (fun c6 => ?_)
  · simp only [jc, Bool.not_eq_true', Bool.not_eq_false', decide_eq_true_eq, decide_eq_false_iff_not] at c6
    have hok := hy.resolve_right (fun q => absurd q.1 (by omega))
    have hok : y = 1 ∧ sml (X5 481) ∧ (0 < fdg (rwN N a) 13 ∧ ∃ S, smR (rwN N a) S ∧ isP S (X5 481)) := ⟨hok.1, hok.2.1, by omega, hok.2.2⟩
    iterate 2 refine mj_T.pl rfl rfl rfl rfl ?_
    refine mj_T.call rfl rfl (Nat.le_of_ble_eq_true rfl) (Nat.le_of_ble_eq_true rfl) (mV_of m5 19 cq_d1 (by decide) rfl (by decide) rfl _) rfl (mj_Ok.up (by omega) (mX_keep (D := 0) A m5 b5 d5 (c.sb (s6.tr s5)) kto hok.2.1)) (fun v g7 hq => ?_) (fun i g7 hq => ?_)
    rotate_left
    · obtain ⟨_, _, hq⟩ := hq; cases hq
    obtain ⟨_, cs, hq⟩ := hq
    cases hq
    refine mj_T.eq (pc2 := 51) (st2 := [.int (jn ((fdg (X5 481) 13 : Int) - 1))]) ?_ rfl rfl rfl rfl
    exact mj_T.ret rfl rfl rfl (Or.inl ⟨⟨kto, ka⟩, _, _, hok.2.1, hok.2.2, cs, rfl⟩)
  · simp only [jc, Bool.not_eq_true', Bool.not_eq_false', decide_eq_true_eq, decide_eq_false_iff_not] at c6
    have hbad := hy.resolve_left (fun q => absurd q.1 (by omega))
    exact mj_T.throws rfl rfl rfl (Nat.le_of_ble_eq_true rfl) (Or.inr ⟨_, _, Or.inr ⟨⟨kto, ka⟩, Or.inr ⟨by omega, hbad.2, rfl⟩⟩, cS.thr hg m5 b5 d5 (c.sb (s6.tr s5)), rfl⟩)
theorem pX_primitive (hg : g.length ≤ n) (A : AS N u H) (s : cS g n N u H h) {to : Int} (rto : -2147483648 ≤ to ∧ to ≤ 2147483647) {a : Int} (ra : -2147483648 ≤ a ∧ a ≤ 2147483647) : mj_Ok (D + 6) 110 [.ref 1, .int (jn to), .int (jn a)] h (RO g n N u H ((0 ≤ to ∧ to ≤ 5) ∧ (0 ≤ a ∧ a ≤ 5)) (fun k => False ∧ k = 1) (fun w => ∀ j, j < 13 → w j = ppr (rwN N a) j) to) := by
  obtain ⟨V, X, m, b0, d, c⟩ := s
  refine mj_Ok.of (M := mj_m110) rfl rfl rfl ?_
  iterate 2 refine mj_T.pl rfl rfl rfl rfl ?_
  refine mj_T.call rfl rfl (Nat.le_of_ble_eq_true rfl) (Nat.le_of_ble_eq_true rfl) (mV_of m 19 cq_d1 (by decide) rfl (by decide) rfl _) rfl (mj_Ok.up (by omega) (mC_rowOf (D := 0) m (i := to) (by omega))) (fun v g1 hq => ?_) (fun i g1 hq => ?_)
  rotate_left
  · rcases hq with ⟨_, hq⟩ | ⟨hn, hq⟩
    · cases hq
    · cases hq
      exact Or.inl ⟨rfl, Or.inr ⟨_, _, Or.inl ⟨by omega, rfl⟩, cS.thr hg m b0 d c, rfl⟩⟩
  rcases hq with ⟨kto, hq⟩ | ⟨_, hq⟩
  rotate_left
  · cases hq
  cases hq
  refine mj_T.eq (pc2 := 5) (st2 := [.ref (4 + to.toNat)]) ?_ rfl rfl rfl rfl
  iterate 3 refine mj_T.pl rfl rfl rfl rfl ?_
  refine mj_T.call rfl rfl (Nat.le_of_ble_eq_true rfl) (Nat.le_of_ble_eq_true rfl) (mV_of m 19 cq_d1 (by decide) rfl (by decide) rfl _) rfl (mj_Ok.up (by omega) (mC_rowOf (D := 0) m (i := a) (by omega))) (fun v g2 hq => ?_) (fun i g2 hq => ?_)
  rotate_left
  · rcases hq with ⟨_, hq⟩ | ⟨hn, hq⟩
    · cases hq
    · cases hq
      exact Or.inl ⟨rfl, Or.inr ⟨_, _, Or.inl ⟨by omega, rfl⟩, cS.thr hg m b0 d c, rfl⟩⟩
  rcases hq with ⟨ka, hq⟩ | ⟨_, hq⟩
  rotate_left
  · cases hq
  cases hq
  refine mj_T.eq (pc2 := 11) (st2 := [.ref (4 + a.toNat)]) ?_ rfl rfl rfl rfl
  refine mj_T.pl (loc' := [some (.ref 1), some (.int (jn to)), some (.int (jn a)), some (.ref (4 + a.toNat)), none, none, none]) rfl rfl rfl rfl ?_
  refine mj_T.pl rfl rfl rfl rfl ?_
  refine mj_T.call rfl rfl (Nat.le_of_ble_eq_true rfl) (Nat.le_of_ble_eq_true rfl) rfl rfl (mj_Ok.up (by omega) (mS_scont (D := 0) m (mK_rt a.toNat (by omega)) (c.sm A.1 ka))) (fun v g3 hq => ?_) (fun i g3 hq => ?_)
  rotate_left
  · cases hq
  cases hq
  refine mj_T.eq (pc2 := 16) (st2 := [.long (jl (sgc (X (4 + a.toNat))))]) ?_ rfl rfl rfl rfl
  refine mj_T.pl (loc' := [some (.ref 1), some (.int (jn to)), some (.int (jn a)), some (.ref (4 + a.toNat)), some (.long (jl (sgc (X (4 + a.toNat))))), none, none]) rfl rfl rfl rfl ?_
  refine mj_T.pl rfl rfl rfl rfl ?_
  refine mj_T.pl (loc' := [some (.ref 1), some (.int (jn to)), some (.int (jn a)), some (.ref (4 + a.toNat)), some (.long (jl (sgc (X (4 + a.toNat))))), none, some (.int (jn 0))]) rfl rfl rfl rfl ?_
  refine mC_prim_loop (mK_rt a.toNat (by omega)) (by omega) (c.sm A.1 ka) (fun h5 m5 => ?_) 13 0 (by omega) _ (by rw [xfl_zero]; exact m)
  have b5 := b0
  have d5 : DG (xfl X 481 (ppr (X (4 + a.toNat))) 13) := d.of (fun p kp => xfl_off _ _ _ (by have := cK_13 kp; omega))
  have s5 : sBn X (xfl X 481 (ppr (X (4 + a.toNat))) 13) := sBn.row (Or.inl rfl)
  have hw : ∀ j, j < 13 → (xfl X 481 (ppr (X (4 + a.toNat))) 13) 481 j = ppr (rwN N a) j := fun j hj => by
    rw [xfl_at _ _ _ hj, ppr_cg (c.rw ka)]
  have hok : True ∧ sml ((xfl X 481 (ppr (X (4 + a.toNat))) 13) 481) ∧ ∀ j, j < 13 → (xfl X 481 (ppr (X (4 + a.toNat))) 13) 481 j = ppr (rwN N a) j := ⟨trivial, fun j hj => by
    rw [xfl_at _ _ _ hj]
    exact ppr_sml (c.sm A.1 ka) j, hw⟩
  iterate 2 refine mj_T.pl rfl rfl rfl rfl ?_
  refine mj_T.call rfl rfl (Nat.le_of_ble_eq_true rfl) (Nat.le_of_ble_eq_true rfl) (mV_of m5 19 cq_d1 (by decide) rfl (by decide) rfl _) rfl (mj_Ok.up (by omega) (mX_keep (D := 0) A m5 b5 d5 (c.sb s5) kto hok.2.1)) (fun v g61 hq => ?_) (fun i g61 hq => ?_)
  rotate_left
  · obtain ⟨_, _, hq⟩ := hq; cases hq
  obtain ⟨_, cs, hq⟩ := hq
  cases hq
  refine mj_T.eq (pc2 := 71) (st2 := [.int (jn ((fdg ((xfl X 481 (ppr (X (4 + a.toNat))) 13) 481) 13 : Int) - 1))]) ?_ rfl rfl rfl rfl
  exact mj_T.ret rfl rfl rfl (Or.inl ⟨⟨kto, ka⟩, _, _, hok.2.1, hok.2.2, cs, rfl⟩)
theorem pX_residue (hg : g.length ≤ n) (A : AS N u H) (s : cS g n N u H h) {to : Int} (rto : -2147483648 ≤ to ∧ to ≤ 2147483647) {a : Int} (ra : -2147483648 ≤ a ∧ a ≤ 2147483647) {p : Int} (rp : -2147483648 ≤ p ∧ p ≤ 2147483647) : mj_Ok (D + 6) 112 [.ref 1, .int (jn to), .int (jn a), .int (jn p)] h (RO g n N u H ((0 ≤ to ∧ to ≤ 5) ∧ (0 ≤ a ∧ a ≤ 5)) (fun k => ¬ prm p ∧ k = 2) (fun w => prm p ∧ ∀ j, j < 13 → w j = rwN N a j % p) to) := by
  obtain ⟨V, X, m, b0, d, c⟩ := s
  refine mj_Ok.of (M := mj_m112) rfl rfl rfl ?_
  iterate 2 refine mj_T.pl rfl rfl rfl rfl ?_
  refine mj_T.call rfl rfl (Nat.le_of_ble_eq_true rfl) (Nat.le_of_ble_eq_true rfl) (mV_of m 19 cq_d1 (by decide) rfl (by decide) rfl _) rfl (mj_Ok.up (by omega) (mC_rowOf (D := 0) m (i := to) (by omega))) (fun v g1 hq => ?_) (fun i g1 hq => ?_)
  rotate_left
  · rcases hq with ⟨_, hq⟩ | ⟨hn, hq⟩
    · cases hq
    · cases hq
      exact Or.inl ⟨rfl, Or.inr ⟨_, _, Or.inl ⟨by omega, rfl⟩, cS.thr hg m b0 d c, rfl⟩⟩
  rcases hq with ⟨kto, hq⟩ | ⟨_, hq⟩
  rotate_left
  · cases hq
  cases hq
  refine mj_T.eq (pc2 := 5) (st2 := [.ref (4 + to.toNat)]) ?_ rfl rfl rfl rfl
  iterate 3 refine mj_T.pl rfl rfl rfl rfl ?_
  refine mj_T.call rfl rfl (Nat.le_of_ble_eq_true rfl) (Nat.le_of_ble_eq_true rfl) (mV_of m 19 cq_d1 (by decide) rfl (by decide) rfl _) rfl (mj_Ok.up (by omega) (mC_rowOf (D := 0) m (i := a) (by omega))) (fun v g2 hq => ?_) (fun i g2 hq => ?_)
  rotate_left
  · rcases hq with ⟨_, hq⟩ | ⟨hn, hq⟩
    · cases hq
    · cases hq
      exact Or.inl ⟨rfl, Or.inr ⟨_, _, Or.inl ⟨by omega, rfl⟩, cS.thr hg m b0 d c, rfl⟩⟩
  rcases hq with ⟨ka, hq⟩ | ⟨_, hq⟩
  rotate_left
  · cases hq
  cases hq
  refine mj_T.eq (pc2 := 11) (st2 := [.ref (4 + a.toNat)]) ?_ rfl rfl rfl rfl
  refine mj_T.pl (loc' := [some (.ref 1), some (.int (jn to)), some (.int (jn a)), some (.int (jn p)), some (.ref (4 + a.toNat)), none]) rfl rfl rfl rfl ?_
  refine mj_T.pl rfl rfl rfl rfl ?_
  refine mj_T.call rfl rfl (Nat.le_of_ble_eq_true rfl) (Nat.le_of_ble_eq_true rfl) rfl rfl (mj_Ok.up (by omega) (mC_prime (D := 0) (p := p) (by omega))) (fun v g3 hq => ?_) (fun i g3 hq => ?_)
  rotate_left
  · rcases hq with ⟨_, hq⟩ | ⟨hn, hq⟩
    · cases hq
    · cases hq
      exact Or.inl ⟨rfl, Or.inr ⟨_, _, Or.inr ⟨⟨kto, ka⟩, ⟨hn, rfl⟩⟩, cS.thr hg m b0 d c, rfl⟩⟩
  rcases hq with ⟨kp, hq⟩ | ⟨_, hq⟩
  rotate_left
  · cases hq
  cases hq
  refine mj_T.eq (pc2 := 17) (st2 := []) ?_ rfl rfl rfl rfl
  refine mj_T.pl rfl rfl rfl rfl ?_
  refine mj_T.pl (loc' := [some (.ref 1), some (.int (jn to)), some (.int (jn a)), some (.int (jn p)), some (.ref (4 + a.toNat)), some (.int (jn 0))]) rfl rfl rfl rfl ?_
  refine mC_res_loop (mK_rt a.toNat (by omega)) (by omega) (c.sm A.1 ka) (p := p) ⟨by have := kp.1; omega, kp.1.2⟩ (fun h5 m5 => ?_) 13 0 (by omega) _ (by rw [xfl_zero]; exact m)
  have b5 := b0
  have d5 : DG (xfl X 481 (fun j => X (4 + a.toNat) j % p) 13) := d.of (fun p kp => xfl_off _ _ _ (by have := cK_13 kp; omega))
  have s5 : sBn X (xfl X 481 (fun j => X (4 + a.toNat) j % p) 13) := sBn.row (Or.inl rfl)
  have hw : ∀ j, j < 13 → (xfl X 481 (fun j => X (4 + a.toNat) j % p) 13) 481 j = rwN N a j % p := fun j hj => by
    rw [xfl_at _ _ _ hj, c.rw ka j hj]
  have hok : True ∧ sml ((xfl X 481 (fun j => X (4 + a.toNat) j % p) 13) 481) ∧ (prm p ∧ ∀ j, j < 13 → (xfl X 481 (fun j => X (4 + a.toNat) j % p) 13) 481 j = rwN N a j % p) := ⟨trivial, fun j hj => by
    rw [hw j hj]
    have h1 := Int.emod_nonneg (rwN N a j) (b := p) (by have := kp.1; omega)
    have h2 := Int.emod_lt_of_pos (rwN N a j) (b := p) (by have := kp.1; omega)
    have := kp.1
    omega, kp, hw⟩
  iterate 2 refine mj_T.pl rfl rfl rfl rfl ?_
  refine mj_T.call rfl rfl (Nat.le_of_ble_eq_true rfl) (Nat.le_of_ble_eq_true rfl) (mV_of m5 19 cq_d1 (by decide) rfl (by decide) rfl _) rfl (mj_Ok.up (by omega) (mX_keep (D := 0) A m5 b5 d5 (c.sb s5) kto hok.2.1)) (fun v g61 hq => ?_) (fun i g61 hq => ?_)
  rotate_left
  · obtain ⟨_, _, hq⟩ := hq; cases hq
  obtain ⟨_, cs, hq⟩ := hq
  cases hq
  refine mj_T.eq (pc2 := 63) (st2 := [.int (jn ((fdg ((xfl X 481 (fun j => X (4 + a.toNat) j % p) 13) 481) 13 : Int) - 1))]) ?_ rfl rfl rfl rfl
  exact mj_T.ret rfl rfl rfl (Or.inl ⟨⟨kto, ka⟩, _, _, hok.2.1, hok.2.2, cs, rfl⟩)
theorem pX_setTerm (hg : g.length ≤ n) (A : AS N u H) (s : cS g n N u H h) {to : Int} (rto : -2147483648 ≤ to ∧ to ≤ 2147483647) {e : Int} (re : -2147483648 ≤ e ∧ e ≤ 2147483647) {x : Int} (rx : jR x) : mj_Ok (D + 6) 113 [.ref 1, .int (jn to), .int (jn e), .long (jl x)] h (RO g n N u H ((0 ≤ to ∧ to ≤ 5)) (fun k => (¬ (0 ≤ e ∧ e ≤ 12) ∧ k = 2) ∨ ((0 ≤ e ∧ e ≤ 12) ∧ ¬ x.natAbs ≤ 999999999999999999 ∧ k = 1)) (fun w => ((0 ≤ e ∧ e ≤ 12) ∧ x.natAbs ≤ 999999999999999999) ∧ ∀ j, j < 13 → w j = if j = e.toNat then x else rwN N to j) to) := by
  obtain ⟨V, X, m, b0, d, c⟩ := s
  refine mj_Ok.of (M := mj_m113) rfl rfl rfl ?_
  iterate 2 refine mj_T.pl rfl rfl rfl rfl ?_
  refine mj_T.call rfl rfl (Nat.le_of_ble_eq_true rfl) (Nat.le_of_ble_eq_true rfl) (mV_of m 19 cq_d1 (by decide) rfl (by decide) rfl _) rfl (mj_Ok.up (by omega) (mC_rowOf (D := 0) m (i := to) (by omega))) (fun v g1 hq => ?_) (fun i g1 hq => ?_)
  rotate_left
  · rcases hq with ⟨_, hq⟩ | ⟨hn, hq⟩
    · cases hq
    · cases hq
      exact Or.inl ⟨rfl, Or.inr ⟨_, _, Or.inl ⟨by omega, rfl⟩, cS.thr hg m b0 d c, rfl⟩⟩
  rcases hq with ⟨kto, hq⟩ | ⟨_, hq⟩
  rotate_left
  · cases hq
  cases hq
  refine mj_T.eq (pc2 := 5) (st2 := [.ref (4 + to.toNat)]) ?_ rfl rfl rfl rfl
  refine mj_T.pl (loc' := [some (.ref 1), some (.int (jn to)), some (.int (jn e)), some (.long (jl x)), none, some (.ref (4 + to.toNat))]) rfl rfl rfl rfl ?_
  refine mj_T.pl rfl rfl rfl rfl ?_
  refine mj_T.call rfl rfl (Nat.le_of_ble_eq_true rfl) (Nat.le_of_ble_eq_true rfl) rfl rfl (mj_Ok.up (by omega) (mC_exponent (D := 0) (i := e) (by omega))) (fun v g2 hq => ?_) (fun i g2 hq => ?_)
  rotate_left
  · rcases hq with ⟨_, hq⟩ | ⟨hn, hq⟩
    · cases hq
    · cases hq
      exact Or.inl ⟨rfl, Or.inr ⟨_, _, Or.inr ⟨kto, Or.inl ⟨hn, rfl⟩⟩, cS.thr hg m b0 d c, rfl⟩⟩
  rcases hq with ⟨ke, hq⟩ | ⟨_, hq⟩
  rotate_left
  · cases hq
  cases hq
  refine mj_T.eq (pc2 := 11) (st2 := []) ?_ rfl rfl rfl rfl
  refine mj_T.pl rfl rfl rfl rfl ?_
  refine mj_T.call rfl rfl (Nat.le_of_ble_eq_true rfl) (Nat.le_of_ble_eq_true rfl) rfl rfl (mj_Ok.up (by omega) (mS_short (D := 0) (x := x) rx)) (fun v g3 hq => ?_) (fun i g3 hq => ?_)
  rotate_left
  · rcases hq with ⟨_, hq⟩ | ⟨_, hq⟩ <;> cases hq
  obtain ⟨y, hy, hq⟩ : ∃ y : Int, ((y = 1 ∧ x.natAbs ≤ 999999999999999999) ∨ (y = 0 ∧ ¬ x.natAbs ≤ 999999999999999999)) ∧ ((.inl v, g3) : mj_R) = (.inl (some (.int (jn y))), h) := by
    rcases hq with ⟨ho, hq⟩ | ⟨ho, hq⟩
    · exact ⟨1, Or.inl ⟨rfl, ho⟩, hq⟩
    · exact ⟨0, Or.inr ⟨rfl, ho⟩, hq⟩
  cases hq
  have hy2 : y = 0 ∨ y = 1 := by omega
  refine mj_T.eq (pc2 := 15) (st2 := [.int (jn y)]) ?_ rfl rfl rfl rfl
  refine mj_T.if0 (a := y) rfl ⟨by omega, by omega⟩ (fun c4 => ?_) (fun c4 => ?_)
  · simp only [jc, Bool.not_eq_true', Bool.not_eq_false', decide_eq_true_eq, decide_eq_false_iff_not] at c4
    iterate 2 refine mj_T.pl rfl rfl rfl rfl ?_
    refine mT_get m 19 cq_d1 (by decide) rfl rfl ?_
    refine mj_T.call rfl rfl (Nat.le_of_ble_eq_true rfl) (Nat.le_of_ble_eq_true rfl) rfl rfl (mj_Ok.up (by omega) (mS_copy (D := 0) m (mK_rt to.toNat (by omega)) cq_d481)) (fun v g5 hq => ?_) (fun i g5 hq => ?_)
    rotate_left
    · obtain ⟨_, _, hq⟩ := hq; cases hq
    obtain ⟨_, m6, hq⟩ := hq
    cases hq
    refine mj_T.eq (pc2 := 35) (st2 := []) ?_ rfl rfl rfl rfl
    refine mj_T.pl rfl rfl rfl rfl ?_
    refine mT_get m6 19 cq_d1 (by decide) rfl rfl ?_
    iterate 2 refine mj_T.pl rfl rfl rfl rfl ?_
    refine mT_last (v := x) m6 cq_d481 rfl ⟨by omega, by omega⟩ (fun h6 m7 => ?_)
    iterate 2 refine mj_T.pl rfl rfl rfl rfl ?_
    have hw : ∀ j, j < 13 → (xup (xfl X 481 (X (4 + to.toNat)) 13) 481 e.toNat x) 481 j = if j = e.toNat then x else rwN N to j := fun j hj => by
      by_cases q : j = e.toNat
      · rw [if_pos q, q, xup_at]
      · rw [if_neg q, xup_ne _ _ (Or.inr q), xfl_at _ _ _ hj]
        exact c.rw kto j hj
    have hok : True ∧ sml ((xup (xfl X 481 (X (4 + to.toNat)) 13) 481 e.toNat x) 481) ∧ (((0 ≤ e ∧ e ≤ 12) ∧ x.natAbs ≤ 999999999999999999) ∧ ∀ j, j < 13 → (xup (xfl X 481 (X (4 + to.toNat)) 13) 481 e.toNat x) 481 j = if j = e.toNat then x else rwN N to j) := ⟨trivial, fun j hj => by
      rw [hw j hj]
      split
      · omega
      · rw [← c.rw kto j hj]
        exact c.sm A.1 kto j hj, ⟨ke, by omega⟩, hw⟩
    have m5 : jM g n V (xup (xfl X 481 (X (4 + to.toNat)) 13) 481 e.toNat x) h6 := m7
    have b5 := b0
    have d5 : DG (xup (xfl X 481 (X (4 + to.toNat)) 13) 481 e.toNat x) := d.of (fun p kp => by rw [xup_oth (by have := cK_13 kp; omega), xfl_off _ _ _ (by have := cK_13 kp; omega)])
    have s5 : sBn X (xup (xfl X 481 (X (4 + to.toNat)) 13) 481 e.toNat x) := sBn.of (fun c hc => by rw [xup_oth hc, xfl_off _ _ _ hc])
    refine mj_T.call rfl rfl (Nat.le_of_ble_eq_true rfl) (Nat.le_of_ble_eq_true rfl) (mV_of m7 19 cq_d1 (by decide) rfl (by decide) rfl _) rfl (mj_Ok.up (by omega) (mX_keep (D := 0) A m5 b5 d5 (c.sb s5) kto hok.2.1)) (fun v g8 hq => ?_) (fun i g8 hq => ?_)
    rotate_left
    · obtain ⟨_, _, hq⟩ := hq; cases hq
    obtain ⟨_, cs, hq⟩ := hq
    cases hq
    refine mj_T.eq (pc2 := 47) (st2 := [.int (jn ((fdg ((xup (xfl X 481 (X (4 + to.toNat)) 13) 481 e.toNat x) 481) 13 : Int) - 1))]) ?_ rfl rfl rfl rfl
    exact mj_T.ret rfl rfl rfl (Or.inl ⟨kto, _, _, hok.2.1, hok.2.2, cs, rfl⟩)
  · simp only [jc, Bool.not_eq_true', Bool.not_eq_false', decide_eq_true_eq, decide_eq_false_iff_not] at c4
    exact mj_T.throws rfl rfl rfl (Nat.le_of_ble_eq_true rfl) (Or.inr ⟨_, _, Or.inr ⟨kto, Or.inr ⟨ke, by omega, rfl⟩⟩, cS.thr hg m b0 d c, rfl⟩)
end MP4
/-! The class, exactly: divide, addPoint, clearPoints, undo. -/
/-- what divide lays: quotient and rest -/
def dvQ (A B : pz_P) : pz_P := qe A B (fdg B 13 - 1) ((fdg A 13 - (fdg B 13 - 1)) - 1) (fdg A 13 - (fdg B 13 - 1))
def dvT (A B : pz_P) : pz_P := er A B (fdg B 13 - 1) ((fdg A 13 - (fdg B 13 - 1)) - 1) (fdg A 13 - (fdg B 13 - 1))
theorem CR.pts0 {X : Nat → Nat → Int} {N : Nat → Int} {u : Nat} {H : Nat → Nat → Int} (c : CR X N u H) : CR (xup X 2 3 0) (jvu N 78 0) u H := by
  obtain ⟨e, he, h3, h2, b, bh, tl⟩ := c
  refine ⟨e, he, by rw [xup_oth (by omega)]; exact h3, by rw [xup_oth (by omega)]; exact h2, ⟨fun r hr j hj => ?_, ?_, fun k hk => ?_⟩, fun k hk => (bh k hk).cg (fun c c1 c2 => xup_oth (by omega)), tl.to (fun c hc => xup_oth (by omega))⟩
  · rw [xup_oth (by omega), jvu_ne _ _ _ (by omega)]
    exact b.1 r hr j hj
  · rw [xup_at, jvu_at]
  · rw [jvu_at] at hk
    exact absurd hk (by omega)
/-- one point more -/
def adN (N : Nat → Int) (x y : Int) : Nat → Int := jvu (jvu (jvu N (79 + (N 78).toNat) x) (85 + (N 78).toNat) y) 78 (((N 78).toNat + 1 : Nat) : Int)
theorem CR.addp {X : Nat → Nat → Int} {N : Nat → Int} {u : Nat} {H : Nat → Nat → Int} {x y : Int} (hp : 0 ≤ N 78 ∧ N 78 < 6) (c : CR X N u H) : CR (xup (xup (xup X (2 + 8) (N 78).toNat x) (2 + 9) (N 78).toNat y) 2 3 (((N 78).toNat + 1 : Nat) : Int)) (adN N x y) u H := by
  obtain ⟨e, he, h3, h2, b, bh, tl⟩ := c
  unfold adN
  refine ⟨e, he, by rw [xup_oth (by omega), xup_oth (by omega), xup_oth (by omega)]; exact h3, by rw [xup_oth (by omega), xup_oth (by omega), xup_oth (by omega)]; exact h2, ⟨fun r hr j hj => ?_, ?_, fun k hk => ?_⟩, fun k hk => (bh k hk).cg (fun c c1 c2 => by rw [xup_oth (by omega), xup_oth (by omega), xup_oth (by omega)]), tl.to (fun c hc => by rw [xup_oth (by omega), xup_oth (by omega), xup_oth (by omega)])⟩
  · rw [xup_oth (by omega), xup_oth (by omega), xup_oth (by omega), jvu_ne _ _ _ (by omega), jvu_ne _ _ _ (by omega), jvu_ne _ _ _ (by omega)]
    exact b.1 r hr j hj
  · rw [xup_at, jvu_at]
  · rw [jvu_at] at hk
    by_cases q : k = (N 78).toNat
    · subst q
      refine ⟨?_, ?_⟩
      · rw [xup_oth (by omega), xup_oth (by omega), xup_at, jvu_ne _ _ _ (by omega), jvu_ne _ _ _ (by omega), jvu_at]
      · rw [xup_oth (by omega), xup_at, jvu_ne _ _ _ (by omega), jvu_at]
    · refine ⟨?_, ?_⟩
      · rw [xup_oth (by omega), xup_oth (by omega), xup_ne _ _ (Or.inr q), jvu_ne _ _ _ (by omega), jvu_ne _ _ _ (by omega), jvu_ne _ _ _ (by omega)]
        exact (b.2.2 k (by omega)).1
      · rw [xup_oth (by omega), xup_ne _ _ (Or.inr q), xup_oth (by omega), jvu_ne _ _ _ (by omega), jvu_ne _ _ _ (by omega), jvu_ne _ _ _ (by omega)]
        exact (b.2.2 k (by omega)).2
section MP5
variable {g h : mj_H} {n D u : Nat} {V : Nat → Int} {X : Nat → Nat → Int} {N : Nat → Int} {H : Nat → Nat → Int}
theorem mX_keepM (A : AS N u H) (m : jM g n V X h) (d : DG X) (c : CR X N u H) {to : Int} (ht : 0 ≤ to ∧ to ≤ 5) (hr : sml (X 481)) : mj_Ok (D + 5) 154 [.ref 1, .int (jn to)] h (fun z => ∃ (X2 : Nat → Nat → Int) (h2 : mj_H), jM g n V (xfl X2 (4 + to.toNat) (X 481) 13) h2 ∧ DG X2 ∧ CR X2 N (upu u) (pushH N H) ∧ X2 482 = X 482 ∧ z = (.inl (some (.int (jn ((fdg (X 481) 13 : Int) - 1)))), h2)) := by
  obtain ⟨e, he, h3, h2, b, bh, tl⟩ := c
  have k := mC_keep (D := D) m he A.2.1 h3 h2 (b.pt A.1) (to := to.toNat) (by omega) hr
  rw [Int.toNat_of_nonneg ht.1] at k
  refine k.to (fun z hz => ?_)
  obtain ⟨X2, h2', m2, kk, rfl⟩ := hz
  exact ⟨X2, h2', m2, kk.dg he d, CR.keep he A.2.1 h3 b bh tl kk, kk.2.1 482 (by omega) (by decide), rfl⟩
theorem oX_div (A : AS N u H) (m : jM g n V X h) (b0 : by0 V) (d : DG X) (c : CR X N u H) {a : Int} (ha : 0 ≤ a ∧ a ≤ 5) {b : Int} (hb : 0 ≤ b ∧ b ≤ 5) (hz : 0 < fdg (X (4 + b.toNat)) 13) : mj_Ok (D + 5) 16 [.ref 19, .ref (4 + a.toNat), .ref (4 + b.toNat), .ref 481, .ref 482] h (fun z => ∃ (V2 : Nat → Int) (X2 : Nat → Nat → Int) (h2 : mj_H) (y : Int), jM g n V2 X2 h2 ∧ by0 V2 ∧ DG X2 ∧ sBn X X2 ∧ ((y = 1 ∧ (fit13 (dvQ (rwN N a) (rwN N b)) ∧ fit13 (dvT (rwN N a) (rwN N b))) ∧ (∀ j, j < 13 → X2 481 j = dvQ (rwN N a) (rwN N b) j) ∧ ∀ j, j < 13 → X2 482 j = dvT (rwN N a) (rwN N b) j) ∨ (y = 0 ∧ ¬ (fit13 (dvQ (rwN N a) (rwN N b)) ∧ fit13 (dvT (rwN N a) (rwN N b))))) ∧ z = (.inl (some (.int (jn y))), h2)) := by
  refine (mD_divRows (D := D) m b0 (db := fdg (X (4 + b.toNat)) 13 - 1) (mK_rt a.toNat (by omega)) (mK_rt b.toNat (by omega)) cq_d481 cq_d482 (by decide) (c.sm A.1 ha) (c.sm A.1 hb) (by omega) d).to (fun z hq => ?_)
  obtain ⟨V2, X2, h2, m2, b2, d2, fx, hq⟩ := hq
  rw [c.rw13 ha, c.rw13 hb, fdg_congr 13 (c.rw ha), fdg_congr 13 (c.rw hb)] at hq
  rcases hq with ⟨f1, f2, rfl, x1, x2⟩ | ⟨hf, rfl⟩
  · exact ⟨V2, X2, h2, 1, m2, b2, d2, sBn.fxu fx, Or.inl ⟨rfl, ⟨f1, f2⟩, x1, x2⟩, rfl⟩
  · exact ⟨V2, X2, h2, 0, m2, b2, d2, sBn.fxu fx, Or.inr ⟨rfl, hf⟩, rfl⟩
end MP5
section MP6
variable {g h : mj_H} {n D u : Nat} {N : Nat → Int} {H : Nat → Nat → Int}
theorem pX_divide (hg : g.length ≤ n) (A : AS N u H) (s : cS g n N u H h) {to : Int} (rto : -2147483648 ≤ to ∧ to ≤ 2147483647) {tr : Int} (rtr : -2147483648 ≤ tr ∧ tr ≤ 2147483647) {a : Int} (ra : -2147483648 ≤ a ∧ a ≤ 2147483647) {b : Int} (rb : -2147483648 ≤ b ∧ b ≤ 2147483647) : mj_Ok (D + 7) 108 [.ref 1, .int (jn to), .int (jn tr), .int (jn a), .int (jn b)] h (fun z => (((0 ≤ to ∧ to ≤ 5) ∧ (0 ≤ tr ∧ tr ≤ 5) ∧ (0 ≤ a ∧ a ≤ 5) ∧ (0 ≤ b ∧ b ≤ 5)) ∧ to ≠ tr ∧ 0 < fdg (rwN N b) 13 ∧ fit13 (dvQ (rwN N a) (rwN N b)) ∧ fit13 (dvT (rwN N a) (rwN N b)) ∧ ∃ (q r : Nat → Int) (h2 : mj_H), (∀ j, j < 13 → q j = dvQ (rwN N a) (rwN N b) j) ∧ (∀ j, j < 13 → r j = dvT (rwN N a) (rwN N b) j) ∧ cS g n (jfl (jfl N to.toNat q 13) tr.toNat r 13) (upu u) (pushH N H) h2 ∧ z = (.inl (some (.int (jn ((fdg (rwN N a) 13 - (fdg (rwN N b) 13 - 1) : Nat) : Int)))), h2)) ∨ (∃ (k : Nat) (h2 : mj_H), ((¬ ((0 ≤ to ∧ to ≤ 5) ∧ (0 ≤ tr ∧ tr ≤ 5) ∧ (0 ≤ a ∧ a ≤ 5) ∧ (0 ≤ b ∧ b ≤ 5)) ∧ k = 0) ∨ (((0 ≤ to ∧ to ≤ 5) ∧ (0 ≤ tr ∧ tr ≤ 5) ∧ (0 ≤ a ∧ a ≤ 5) ∧ (0 ≤ b ∧ b ≤ 5)) ∧ ((to = tr ∧ k = 2) ∨ (to ≠ tr ∧ fdg (rwN N b) 13 = 0 ∧ k = 3) ∨ (to ≠ tr ∧ 0 < fdg (rwN N b) 13 ∧ ¬ (fit13 (dvQ (rwN N a) (rwN N b)) ∧ fit13 (dvT (rwN N a) (rwN N b))) ∧ k = 1)))) ∧ cS g (n + 1) N u H h2 ∧ z = (.inr k, h2))) := by
  obtain ⟨V, X, m, b0, d, c⟩ := s
  refine mj_Ok.of (M := mj_m108) rfl rfl rfl ?_
  iterate 2 refine mj_T.pl rfl rfl rfl rfl ?_
  refine mj_T.call rfl rfl (Nat.le_of_ble_eq_true rfl) (Nat.le_of_ble_eq_true rfl) (mV_of m 19 cq_d1 (by decide) rfl (by decide) rfl _) rfl (mj_Ok.up (by omega) (mC_rowOf (D := 0) m (i := to) (by omega))) (fun v g1 hq => ?_) (fun i g1 hq => ?_)
  rotate_left
  · rcases hq with ⟨_, hq⟩ | ⟨hn, hq⟩
    · cases hq
    · cases hq
      exact Or.inl ⟨rfl, Or.inr ⟨_, _, Or.inl ⟨by omega, rfl⟩, cS.thr hg m b0 d c, rfl⟩⟩
  rcases hq with ⟨kto, hq⟩ | ⟨_, hq⟩
  rotate_left
  · cases hq
  cases hq
  refine mj_T.eq (pc2 := 5) (st2 := [.ref (4 + to.toNat)]) ?_ rfl rfl rfl rfl
  iterate 3 refine mj_T.pl rfl rfl rfl rfl ?_
  refine mj_T.call rfl rfl (Nat.le_of_ble_eq_true rfl) (Nat.le_of_ble_eq_true rfl) (mV_of m 19 cq_d1 (by decide) rfl (by decide) rfl _) rfl (mj_Ok.up (by omega) (mC_rowOf (D := 0) m (i := tr) (by omega))) (fun v g2 hq => ?_) (fun i g2 hq => ?_)
  rotate_left
  · rcases hq with ⟨_, hq⟩ | ⟨hn, hq⟩
    · cases hq
    · cases hq
      exact Or.inl ⟨rfl, Or.inr ⟨_, _, Or.inl ⟨by omega, rfl⟩, cS.thr hg m b0 d c, rfl⟩⟩
  rcases hq with ⟨ktr, hq⟩ | ⟨_, hq⟩
  rotate_left
  · cases hq
  cases hq
  refine mj_T.eq (pc2 := 11) (st2 := [.ref (4 + tr.toNat)]) ?_ rfl rfl rfl rfl
  iterate 3 refine mj_T.pl rfl rfl rfl rfl ?_
  refine mj_T.call rfl rfl (Nat.le_of_ble_eq_true rfl) (Nat.le_of_ble_eq_true rfl) (mV_of m 19 cq_d1 (by decide) rfl (by decide) rfl _) rfl (mj_Ok.up (by omega) (mC_rowOf (D := 0) m (i := a) (by omega))) (fun v g3 hq => ?_) (fun i g3 hq => ?_)
  rotate_left
  · rcases hq with ⟨_, hq⟩ | ⟨hn, hq⟩
    · cases hq
    · cases hq
      exact Or.inl ⟨rfl, Or.inr ⟨_, _, Or.inl ⟨by omega, rfl⟩, cS.thr hg m b0 d c, rfl⟩⟩
  rcases hq with ⟨ka, hq⟩ | ⟨_, hq⟩
  rotate_left
  · cases hq
  cases hq
  refine mj_T.eq (pc2 := 17) (st2 := [.ref (4 + a.toNat)]) ?_ rfl rfl rfl rfl
  refine mj_T.pl (loc' := [some (.ref 1), some (.int (jn to)), some (.int (jn tr)), some (.int (jn a)), some (.int (jn b)), some (.ref (4 + a.toNat)), none, none]) rfl rfl rfl rfl ?_
  iterate 2 refine mj_T.pl rfl rfl rfl rfl ?_
  refine mj_T.call rfl rfl (Nat.le_of_ble_eq_true rfl) (Nat.le_of_ble_eq_true rfl) (mV_of m 19 cq_d1 (by decide) rfl (by decide) rfl _) rfl (mj_Ok.up (by omega) (mC_rowOf (D := 0) m (i := b) (by omega))) (fun v g4 hq => ?_) (fun i g4 hq => ?_)
  rotate_left
  · rcases hq with ⟨_, hq⟩ | ⟨hn, hq⟩
    · cases hq
    · cases hq
      exact Or.inl ⟨rfl, Or.inr ⟨_, _, Or.inl ⟨by omega, rfl⟩, cS.thr hg m b0 d c, rfl⟩⟩
  rcases hq with ⟨kb, hq⟩ | ⟨_, hq⟩
  rotate_left
  · cases hq
  cases hq
  refine mj_T.eq (pc2 := 25) (st2 := [.ref (4 + b.toNat)]) ?_ rfl rfl rfl rfl
  refine mj_T.pl (loc' := [some (.ref 1), some (.int (jn to)), some (.int (jn tr)), some (.int (jn a)), some (.int (jn b)), some (.ref (4 + a.toNat)), some (.ref (4 + b.toNat)), none]) rfl rfl rfl rfl ?_
  iterate 2 refine mj_T.pl rfl rfl rfl rfl ?_
  refine mj_T.icmp (a := to) (b := tr) rfl ⟨by omega, by omega⟩ ⟨by omega, by omega⟩ (fun c5 => ?_) (fun c5 => ?_)
  · simp only [jc, Bool.not_eq_true', Bool.not_eq_false', decide_eq_true_eq, decide_eq_false_iff_not] at c5
    refine mj_T.pl rfl rfl rfl rfl ?_
    refine mj_T.call rfl rfl (Nat.le_of_ble_eq_true rfl) (Nat.le_of_ble_eq_true rfl) rfl rfl (mj_Ok.up (by omega) (mC_zero (D := 0) m (mK_rt b.toNat (by omega)) (c.sm A.1 kb))) (fun v g6 hq => ?_) (fun i g6 hq => ?_)
    rotate_left
    · rcases hq with ⟨_, hq⟩ | ⟨hn, hq⟩
      · cases hq
      · cases hq
        exact Or.inl ⟨rfl, Or.inr ⟨_, _, Or.inr ⟨⟨kto, ktr, ka, kb⟩, Or.inr (Or.inl ⟨by omega, by have ez := fdg_congr 13 (c.rw kb); omega, rfl⟩)⟩, cS.thr hg m b0 d c, rfl⟩⟩
    rcases hq with ⟨kz, hq⟩ | ⟨_, hq⟩
    rotate_left
    · cases hq
    cases hq
    refine mj_T.eq (pc2 := 45) (st2 := []) ?_ rfl rfl rfl rfl
    refine mj_T.pl rfl rfl rfl rfl ?_
    refine mj_T.call rfl rfl (Nat.le_of_ble_eq_true rfl) (Nat.le_of_ble_eq_true rfl) rfl rfl (mj_Ok.up (by omega) (mS_deg (D := 0) m (mK_rt a.toNat (by omega)) (c.sm A.1 ka))) (fun v g7 hq => ?_) (fun i g7 hq => ?_)
    rotate_left
    · cases hq
    cases hq
    have ga := fdg_le (X (4 + a.toNat)) 13
    have ea := fdg_congr 13 (c.rw ka)
    refine mj_T.eq (pc2 := 50) (st2 := [.int (jn ((fdg (X (4 + a.toNat)) 13 : Int) - 1))]) ?_ rfl rfl rfl rfl
    refine mj_T.pl rfl rfl rfl rfl ?_
    refine mj_T.call rfl rfl (Nat.le_of_ble_eq_true rfl) (Nat.le_of_ble_eq_true rfl) rfl rfl (mj_Ok.up (by omega) (mS_deg (D := 0) m (mK_rt b.toNat (by omega)) (c.sm A.1 kb))) (fun v g8 hq => ?_) (fun i g8 hq => ?_)
    rotate_left
    · cases hq
    cases hq
    have gb := fdg_le (X (4 + b.toNat)) 13
    have eb := fdg_congr 13 (c.rw kb)
    refine mj_T.eq (pc2 := 55) (st2 := [.int (jn ((fdg (X (4 + b.toNat)) 13 : Int) - 1)), .int (jn ((fdg (X (4 + a.toNat)) 13 : Int) - 1))]) ?_ rfl rfl rfl rfl
    refine mj_T.isub (a := ((fdg (X (4 + a.toNat)) 13 : Int) - 1)) (b := ((fdg (X (4 + b.toNat)) 13 : Int) - 1)) rfl ?_
    refine mj_T.pl rfl rfl rfl rfl ?_
    refine mj_T.iadd (a := (((fdg (X (4 + a.toNat)) 13 : Int) - 1) - ((fdg (X (4 + b.toNat)) 13 : Int) - 1))) (b := 1) rfl ?_
    refine mj_T.pl rfl rfl rfl rfl ?_
    refine mj_T.imax (a := ((((fdg (X (4 + a.toNat)) 13 : Int) - 1) - ((fdg (X (4 + b.toNat)) 13 : Int) - 1)) + 1)) (b := 0) rfl rfl (Nat.le_of_ble_eq_true rfl) ⟨by omega, by omega⟩ ⟨by omega, by omega⟩ ?_
    refine mj_T.pl (loc' := [some (.ref 1), some (.int (jn to)), some (.int (jn tr)), some (.int (jn a)), some (.int (jn b)), some (.ref (4 + a.toNat)), some (.ref (4 + b.toNat)), some (.int (jn (max ((((fdg (X (4 + a.toNat)) 13 : Int) - 1) - ((fdg (X (4 + b.toNat)) 13 : Int) - 1)) + 1) 0)))]) rfl rfl rfl rfl ?_
    refine mj_T.pl rfl rfl rfl rfl ?_
    refine mT_get m 19 cq_d1 (by decide) rfl rfl ?_
    iterate 3 refine mj_T.pl rfl rfl rfl rfl ?_
    refine mT_get m 19 cq_d1 (by decide) rfl rfl ?_
    refine mj_T.pl rfl rfl rfl rfl ?_
    refine mT_get m 19 cq_d1 (by decide) rfl rfl ?_
    refine mj_T.call rfl rfl (Nat.le_of_ble_eq_true rfl) (Nat.le_of_ble_eq_true rfl) (mV_of m 11 cq_d19 (by decide) rfl (by decide) rfl _) rfl (mj_Ok.up (by omega) (oX_div (D := 0) A m b0 d c ka kb (by omega))) (fun v g9 hq => ?_) (fun i g9 hq => ?_)
    rotate_left
    · obtain ⟨_, _, _, _, _, _, _, _, _, hq⟩ := hq; cases hq
    obtain ⟨V5, X5, _, y, m5, b5, d5, s5, hy, hq⟩ := hq
    cases hq
    have hy2 : y = 0 ∨ y = 1 := by
      rcases hy with ⟨e, _⟩ | ⟨e, _⟩
      · exact Or.inr e
      · exact Or.inl e
    refine mj_T.eq (pc2 := 83) (st2 := [.int (jn y)]) ?_ rfl rfl rfl rfl
    refine mj_T.if0 (a := y) rfl ⟨by omega, by omega⟩ (fun c10 => ?_) (fun c10 => ?_)
    · simp only [jc, Bool.not_eq_true', Bool.not_eq_false', decide_eq_true_eq, decide_eq_false_iff_not] at c10
      have hok := hy.resolve_right (fun q => absurd q.1 (by omega))
      iterate 2 refine mj_T.pl rfl rfl rfl rfl ?_
      refine mj_T.call rfl rfl (Nat.le_of_ble_eq_true rfl) (Nat.le_of_ble_eq_true rfl) (mV_of m5 19 cq_d1 (by decide) rfl (by decide) rfl _) rfl (mj_Ok.up (by omega) (mX_keepM (D := 0) A m5 d5 (c.sb s5) kto (isP.s ⟨hok.2.1.1, hok.2.2.1⟩))) (fun v g11 hq => ?_) (fun i g11 hq => ?_)
      rotate_left
      · obtain ⟨_, _, _, _, _, _, hq⟩ := hq; cases hq
      obtain ⟨X7, _, m7, d7, c7, e7, hq⟩ := hq
      cases hq
      have e8 : (xfl X7 (4 + to.toNat) (X5 481) 13) 482 = X5 482 := (xfl_off _ _ _ (by omega)).trans e7
      refine mj_T.eq (pc2 := 99) (st2 := [.int (jn ((fdg (X5 481) 13 : Int) - 1))]) ?_ rfl rfl rfl rfl
      iterate 2 refine mj_T.pl rfl rfl rfl rfl ?_
      refine mT_get m7 19 cq_d1 (by decide) rfl rfl ?_
      iterate 2 refine mj_T.pl rfl rfl rfl rfl ?_
      refine mj_T.call rfl rfl (Nat.le_of_ble_eq_true rfl) (Nat.le_of_ble_eq_true rfl) (mV_of m7 19 cq_d1 (by decide) rfl (by decide) rfl _) rfl (mj_Ok.up (by omega) (mC_rowOf (D := 0) m7 (i := tr) (by omega))) (fun v g12 hq => ?_) (fun i g12 hq => ?_)
      rotate_left
      · rcases hq with ⟨_, hq⟩ | ⟨hn, hq⟩
        · cases hq
        · omega
      rcases hq with ⟨ktr, hq⟩ | ⟨_, hq⟩
      rotate_left
      · cases hq
      cases hq
      refine mj_T.eq (pc2 := 109) (st2 := [.ref (4 + tr.toNat), .ref 482]) ?_ rfl rfl rfl rfl
      refine mj_T.call rfl rfl (Nat.le_of_ble_eq_true rfl) (Nat.le_of_ble_eq_true rfl) rfl rfl (mj_Ok.up (by omega) (mS_copy (D := 0) m7 cq_d482 (mK_rt tr.toNat (by omega)))) (fun v g13 hq => ?_) (fun i g13 hq => ?_)
      rotate_left
      · obtain ⟨_, _, hq⟩ := hq; cases hq
      obtain ⟨_, m9, hq⟩ := hq
      cases hq
      rw [e8] at m9
      refine mj_T.eq (pc2 := 112) (st2 := []) ?_ rfl rfl rfl rfl
      refine mj_T.pl rfl rfl rfl rfl ?_
      have hmx : (max ((((fdg (X (4 + a.toNat)) 13 : Int) - 1) - ((fdg (X (4 + b.toNat)) 13 : Int) - 1)) + 1) 0) = (((fdg (rwN N a) 13 - (fdg (rwN N b) 13 - 1)) : Nat) : Int) := by
        rw [Int.max_def]
        split <;> omega
      exact mj_T.ret rfl rfl rfl (Or.inl ⟨⟨kto, ktr, ka, kb⟩, by omega, by omega, hok.2.1.1, hok.2.1.2, X5 481, X5 482, _, hok.2.2.1, hok.2.2.2, ⟨_, _, m9, b5, d7.of (fun p kp => by rw [xfl_off _ _ _ (by have := cK_13 kp; omega), xfl_off _ _ _ (by have := cK_13 kp; omega)]), (c7.put (t := to.toNat) (by omega)).put (t := tr.toNat) (by omega)⟩, congrArg (fun z : Int => ((.inl (some (Value.int (jn z))), _) : mj_R)) hmx⟩)
    · simp only [jc, Bool.not_eq_true', Bool.not_eq_false', decide_eq_true_eq, decide_eq_false_iff_not] at c10
      have hbad := hy.resolve_left (fun q => absurd q.1 (by omega))
      exact mj_T.throws rfl rfl rfl (Nat.le_of_ble_eq_true rfl) (Or.inr ⟨_, _, Or.inr ⟨⟨kto, ktr, ka, kb⟩, Or.inr (Or.inr ⟨by omega, by omega, hbad.2, rfl⟩)⟩, cS.thr hg m5 b5 d5 (c.sb s5), rfl⟩)
  · simp only [jc, Bool.not_eq_true', Bool.not_eq_false', decide_eq_true_eq, decide_eq_false_iff_not] at c5
    exact mj_T.throws rfl rfl rfl (Nat.le_of_ble_eq_true rfl) (Or.inr ⟨_, _, Or.inr ⟨⟨kto, ktr, ka, kb⟩, Or.inl ⟨by omega, rfl⟩⟩, cS.thr hg m b0 d c, rfl⟩)
theorem pX_clearPoints (A : AS N u H) (s : cS g n N u H h) : mj_Ok (D + 5) 116 [.ref 1] h (fun z => ∃ h2, cS g n (jvu N 78 0) (upu u) (pushH N H) h2 ∧ z = (.inl (some (.int (jn (N 78)))), h2)) := by
  obtain ⟨V, X, m, b0, d, c⟩ := s
  refine mj_Ok.of (M := mj_m116) rfl rfl rfl ?_
  refine mj_T.pl rfl rfl rfl rfl ?_
  refine mj_T.call rfl rfl (Nat.le_of_ble_eq_true rfl) (Nat.le_of_ble_eq_true rfl) (mV_of m 19 cq_d1 (by decide) rfl (by decide) rfl _) rfl (mj_Ok.up (by omega) (mX_keepE (D := 0) A m d c)) (fun v g1 hq => ?_) (fun i g1 hq => ?_)
  rotate_left
  · obtain ⟨_, _, _, _, _, _, hq⟩ := hq; cases hq
  obtain ⟨X2, _, m2, d2, c2, e2, hq⟩ := hq
  cases hq
  have hp : X2 2 3 = N 78 := by
    obtain ⟨_, _, _, _, bb, _⟩ := c2
    exact bb.2.1
  refine mj_T.eq (pc2 := 4) (st2 := []) ?_ rfl rfl rfl rfl
  refine mj_T.pl rfl rfl rfl rfl ?_
  refine mT_get m2 19 cq_d1 (by decide) rfl rfl ?_
  refine mT_get (v := .int (jn (N 78))) m2 10 cq_d2 (by decide) rfl (congrArg (fun z : Int => some (Value.int (jn z))) (hp)) ?_
  refine mj_T.pl (loc' := [some (.ref 1), some (.int (jn (N 78)))]) rfl rfl rfl rfl ?_
  refine mj_T.pl rfl rfl rfl rfl ?_
  refine mT_get m2 19 cq_d1 (by decide) rfl rfl ?_
  refine mj_T.pl rfl rfl rfl rfl ?_
  refine mT_put (v := 0) m2 10 cq_d2 (by decide) rfl (by simp [jMf, xup]) (by simp [jMf]) rfl (fun h2 m3 => ?_)
  refine mj_T.pl rfl rfl rfl rfl ?_
  exact mj_T.ret rfl rfl rfl ⟨_, ⟨_, _, m3, b0, d2.of (fun p kp => xup_oth (by have := cK_13 kp; omega)), c2.pts0⟩, rfl⟩
theorem pX_addPoint (hg : g.length ≤ n) (A : AS N u H) (s : cS g n N u H h) {x : Int} (rx : -2147483648 ≤ x ∧ x ≤ 2147483647) {y : Int} (ry : -2147483648 ≤ y ∧ y ≤ 2147483647) : mj_Ok (D + 6) 115 [.ref 1, .int (jn x), .int (jn y)] h (fun z => (((-9 ≤ x ∧ x ≤ 9) ∧ (-999 ≤ y ∧ y ≤ 999)) ∧ ¬ (6 ≤ N 78 ∨ ∃ i : Nat, (i : Int) < N 78 ∧ N (79 + i) = x) ∧ ∃ h2, cS g n (adN N x y) (upu u) (pushH N H) h2 ∧ z = (.inl (some (.int (jn (((N 78).toNat + 1 : Nat) : Int)))), h2)) ∨ (∃ (k : Nat) (h2 : mj_H), ((¬ ((-9 ≤ x ∧ x ≤ 9) ∧ (-999 ≤ y ∧ y ≤ 999)) ∧ k = 2) ∨ (((-9 ≤ x ∧ x ≤ 9) ∧ (-999 ≤ y ∧ y ≤ 999)) ∧ (6 ≤ N 78 ∨ ∃ i : Nat, (i : Int) < N 78 ∧ N (79 + i) = x) ∧ k = 1)) ∧ cS g (n + 1) N u H h2 ∧ z = (.inr k, h2))) := by
  obtain ⟨V, X, m, b0, d, c⟩ := s
  have bb : BN X 2 N := by
    obtain ⟨_, _, _, _, bb, _⟩ := c
    exact bb
  have hn := A.1.2.1
  have hb3 := bb.2.1
  refine mj_Ok.of (M := mj_m115) rfl rfl rfl ?_
  iterate 2 refine mj_T.pl rfl rfl rfl rfl ?_
  refine mj_T.icmp (a := x) (b := (-9)) rfl ⟨by omega, by omega⟩ ⟨by omega, by omega⟩ (fun c1 => ?_) (fun c1 => ?_)
  · simp only [jc, Bool.not_eq_true', Bool.not_eq_false', decide_eq_true_eq, decide_eq_false_iff_not] at c1
    exact mj_T.throws rfl rfl rfl (Nat.le_of_ble_eq_true rfl) (Or.inr ⟨_, _, Or.inl ⟨by omega, rfl⟩, cS.thr hg m b0 d c, rfl⟩)
  · simp only [jc, Bool.not_eq_true', Bool.not_eq_false', decide_eq_true_eq, decide_eq_false_iff_not] at c1
    iterate 2 refine mj_T.pl rfl rfl rfl rfl ?_
    refine mj_T.icmp (a := x) (b := 9) rfl ⟨by omega, by omega⟩ ⟨by omega, by omega⟩ (fun c2 => ?_) (fun c2 => ?_)
    · simp only [jc, Bool.not_eq_true', Bool.not_eq_false', decide_eq_true_eq, decide_eq_false_iff_not] at c2
      exact mj_T.throws rfl rfl rfl (Nat.le_of_ble_eq_true rfl) (Or.inr ⟨_, _, Or.inl ⟨by omega, rfl⟩, cS.thr hg m b0 d c, rfl⟩)
    · simp only [jc, Bool.not_eq_true', Bool.not_eq_false', decide_eq_true_eq, decide_eq_false_iff_not] at c2
      iterate 2 refine mj_T.pl rfl rfl rfl rfl ?_
      refine mj_T.icmp (a := y) (b := (-999)) rfl ⟨by omega, by omega⟩ ⟨by omega, by omega⟩ (fun c3 => ?_) (fun c3 => ?_)
      · simp only [jc, Bool.not_eq_true', Bool.not_eq_false', decide_eq_true_eq, decide_eq_false_iff_not] at c3
        exact mj_T.throws rfl rfl rfl (Nat.le_of_ble_eq_true rfl) (Or.inr ⟨_, _, Or.inl ⟨by omega, rfl⟩, cS.thr hg m b0 d c, rfl⟩)
      · simp only [jc, Bool.not_eq_true', Bool.not_eq_false', decide_eq_true_eq, decide_eq_false_iff_not] at c3
        iterate 2 refine mj_T.pl rfl rfl rfl rfl ?_
        refine mj_T.icmp (a := y) (b := 999) rfl ⟨by omega, by omega⟩ ⟨by omega, by omega⟩ (fun c4 => ?_) (fun c4 => ?_)
        · simp only [jc, Bool.not_eq_true', Bool.not_eq_false', decide_eq_true_eq, decide_eq_false_iff_not] at c4
          refine mj_T.pl rfl rfl rfl rfl ?_
          refine mT_get m 19 cq_d1 (by decide) rfl rfl ?_
          refine mT_get (v := .int (jn (N 78))) m 10 cq_d2 (by decide) rfl (congrArg (fun z : Int => some (Value.int (jn z))) (bb.2.1)) ?_
          refine mj_T.pl rfl rfl rfl rfl ?_
          refine mj_T.icmp (a := (N 78)) (b := 6) rfl ⟨by omega, by omega⟩ ⟨by omega, by omega⟩ (fun c5 => ?_) (fun c5 => ?_)
          · simp only [jc, Bool.not_eq_true', Bool.not_eq_false', decide_eq_true_eq, decide_eq_false_iff_not] at c5
            exact mj_T.throws rfl rfl rfl (Nat.le_of_ble_eq_true rfl) (Or.inr ⟨_, _, Or.inr ⟨⟨⟨by omega, by omega⟩, by omega, by omega⟩, by first | exact Or.inl (by omega) | exact Or.inr (hy.resolve_right (fun q => absurd q.1 (by omega))).2, rfl⟩, cS.thr hg m b0 d c, rfl⟩)
          · simp only [jc, Bool.not_eq_true', Bool.not_eq_false', decide_eq_true_eq, decide_eq_false_iff_not] at c5
            refine mj_T.pl rfl rfl rfl rfl ?_
            refine mT_get m 19 cq_d1 (by decide) rfl rfl ?_
            refine mj_T.pl rfl rfl rfl rfl ?_
            refine mj_T.call rfl rfl (Nat.le_of_ble_eq_true rfl) (Nat.le_of_ble_eq_true rfl) (mV_of m 10 cq_d2 (by decide) rfl (by decide) rfl _) rfl (mj_Ok.up (by omega) (mB_has (D := 0) m cq_d2 (p := (N 78).toNat) (by omega) (by omega) (by omega) (fun i hi => by rw [(bb.2.2 i (by omega)).1]; exact (A.1.2.2.1 i (by omega)).1))) (fun v g6 hq => ?_) (fun i g6 hq => ?_)
            rotate_left
            · rcases hq with ⟨_, hq⟩ | ⟨_, hq⟩ <;> cases hq
            obtain ⟨v5, hy, hq⟩ : ∃ v5 : Int, ((v5 = 1 ∧ ∃ i : Nat, (i : Int) < N 78 ∧ N (79 + i) = x) ∨ (v5 = 0 ∧ ¬ ∃ i : Nat, (i : Int) < N 78 ∧ N (79 + i) = x)) ∧ ((.inl v, g6) : mj_R) = (.inl (some (.int (jn v5))), h) := by
              rcases hq with ⟨⟨i, hi, e⟩, hq⟩ | ⟨ho, hq⟩
              · exact ⟨1, Or.inl ⟨rfl, i, by omega, ((bb.2.2 i (by omega)).1.symm.trans e)⟩, hq⟩
              · exact ⟨0, Or.inr ⟨rfl, fun ⟨i, hi, e⟩ => ho i (by omega) ((bb.2.2 i hi).1.trans e)⟩, hq⟩
            cases hq
            have hy2 : v5 = 0 ∨ v5 = 1 := by
              rcases hy with ⟨e, _⟩ | ⟨e, _⟩
              · exact Or.inr e
              · exact Or.inl e
            refine mj_T.eq (pc2 := 54) (st2 := [.int (jn v5)]) ?_ rfl rfl rfl rfl
            refine mj_T.if0 (a := v5) rfl ⟨by omega, by omega⟩ (fun c7 => ?_) (fun c7 => ?_)
            · simp only [jc, Bool.not_eq_true', Bool.not_eq_false', decide_eq_true_eq, decide_eq_false_iff_not] at c7
              refine mj_T.pl rfl rfl rfl rfl ?_
              refine mj_T.call rfl rfl (Nat.le_of_ble_eq_true rfl) (Nat.le_of_ble_eq_true rfl) (mV_of m 19 cq_d1 (by decide) rfl (by decide) rfl _) rfl (mj_Ok.up (by omega) (mX_keepE (D := 0) A m d c)) (fun v g8 hq => ?_) (fun i g8 hq => ?_)
              rotate_left
              · obtain ⟨_, _, _, _, _, _, hq⟩ := hq; cases hq
              obtain ⟨X2, _, m2, d2, c2, e2, hq⟩ := hq
              cases hq
              have hp : X2 2 3 = N 78 := by
                obtain ⟨_, _, _, _, bb, _⟩ := c2
                exact bb.2.1
              refine mj_T.eq (pc2 := 69) (st2 := []) ?_ rfl rfl rfl rfl
              refine mj_T.pl rfl rfl rfl rfl ?_
              refine mT_get m2 19 cq_d1 (by decide) rfl rfl ?_
              iterate 2 refine mj_T.pl rfl rfl rfl rfl ?_
              refine mj_T.call rfl rfl (Nat.le_of_ble_eq_true rfl) (Nat.le_of_ble_eq_true rfl) (mV_of m2 10 cq_d2 (by decide) rfl (by decide) rfl _) rfl (mj_Ok.up (by omega) (mB_put (D := 0) m2 cq_d2 (p := (N 78).toNat) (x := x) (y := y) (by omega) (by omega))) (fun v g9 hq => ?_) (fun i g9 hq => ?_)
              rotate_left
              · obtain ⟨_, _, hq⟩ := hq; cases hq
              obtain ⟨_, m5, hq⟩ := hq
              cases hq
              have c5 := c2.addp (x := x) (y := y) ⟨by omega, by omega⟩
              refine mj_T.eq (pc2 := 78) (st2 := []) ?_ rfl rfl rfl rfl
              refine mj_T.pl rfl rfl rfl rfl ?_
              refine mT_get m5 19 cq_d1 (by decide) rfl rfl ?_
              refine mT_get (v := .int (jn ((((N 78).toNat + 1) : Nat) : Int))) m5 10 cq_d2 (by decide) rfl (congrArg (fun z : Int => some (Value.int (jn z))) (xup_at _ _ _ _)) ?_
              exact mj_T.ret rfl rfl rfl (Or.inl ⟨⟨⟨by omega, by omega⟩, by omega, by omega⟩, fun q => q.elim (fun y => by omega) (hy.resolve_left (fun q => absurd q.1 (by omega))).2, _, ⟨_, _, m5, b0, d2.of (fun p kp => by rw [xup_oth (by have := cK_13 kp; omega), xup_oth (by have := cK_13 kp; omega), xup_oth (by have := cK_13 kp; omega)]), c5⟩, rfl⟩)
            · simp only [jc, Bool.not_eq_true', Bool.not_eq_false', decide_eq_true_eq, decide_eq_false_iff_not] at c7
              exact mj_T.throws rfl rfl rfl (Nat.le_of_ble_eq_true rfl) (Or.inr ⟨_, _, Or.inr ⟨⟨⟨by omega, by omega⟩, by omega, by omega⟩, by first | exact Or.inl (by omega) | exact Or.inr (hy.resolve_right (fun q => absurd q.1 (by omega))).2, rfl⟩, cS.thr hg m b0 d c, rfl⟩)
        · simp only [jc, Bool.not_eq_true', Bool.not_eq_false', decide_eq_true_eq, decide_eq_false_iff_not] at c4
          exact mj_T.throws rfl rfl rfl (Nat.le_of_ble_eq_true rfl) (Or.inr ⟨_, _, Or.inl ⟨by omega, rfl⟩, cS.thr hg m b0 d c, rfl⟩)
end MP6
/-! The class, exactly: undo. -/
section MP7
variable {g h : mj_H} {n D u : Nat} {N : Nat → Int} {H : Nat → Nat → Int}
theorem pX_undo (A : AS N u H) (s : cS g n N u H h) : mj_Ok (D + 5) 118 [.ref 1] h (fun z => (u = 0 ∧ ∃ h2, cS g n N u H h2 ∧ z = (.inl (some (.int (jn (-1)))), h2)) ∨ (∃ v : Nat, u = v + 1 ∧ ∃ h2, cS g n (H 0) v (fun k => H (k + 1)) h2 ∧ z = (.inl (some (.int (jn (v : Int)))), h2))) := by
  obtain ⟨V, X, m, b0, d, e, he, q3, q2, b, bh, tl⟩ := s
  have hu := A.2.1
  refine mj_Ok.of (M := mj_m118) rfl rfl rfl ?_
  refine mj_T.pl rfl rfl rfl rfl ?_
  refine mT_get (v := .int (jn ((u : Nat) : Int))) m 19 cq_d1 (by decide) rfl (congrArg (fun z : Int => some (Value.int (jn z))) (q2)) ?_
  refine mj_T.if0 (a := ((u : Nat) : Int)) rfl ⟨by omega, by omega⟩ (fun c1 => ?_) (fun c1 => ?_)
  · simp only [jc, Bool.not_eq_true', Bool.not_eq_false', decide_eq_true_eq, decide_eq_false_iff_not] at c1
    have hb0 : BN X (483 + 10 * ((e + 7) % 8)) (H 0) := by
          have y := bh 0 (by omega)
          rw [show (e + 7 - 0) % 8 = (e + 7) % 8 by omega] at y
          exact y
    have hg0 := (A.2.2 0 (by omega)).2.1
    iterate 2 refine mj_T.pl rfl rfl rfl rfl ?_
    refine mT_get (v := .int (jn ((e : Nat) : Int))) m 19 cq_d1 (by decide) rfl (congrArg (fun z : Int => some (Value.int (jn z))) (q3)) ?_
    refine mj_T.pl rfl rfl rfl rfl ?_
    refine mj_T.iadd (a := ((e : Nat) : Int)) (b := 8) rfl ?_
    refine mj_T.pl rfl rfl rfl rfl ?_
    refine mj_T.isub (a := (((e : Nat) : Int) + 8)) (b := 1) rfl ?_
    refine mj_T.pl rfl rfl rfl rfl ?_
    refine mj_T.irem rfl ⟨by omega, by omega⟩ ⟨by omega, by omega⟩ (by omega) ?_
    refine mT_put (v := (((((e : Nat) : Int) + 8) - 1).tmod 8)) m 19 cq_d1 (by decide) rfl (by simp [jMf, xup]) (by simp [jMf]) rfl (fun h2 m3 => ?_)
    have ev : ((((e : Nat) : Int) + 8) - 1).tmod 8 = (((e + 7) % 8 : Nat) : Int) := by
      rw [Int.tmod_eq_emod_of_nonneg (by omega)]
      omega
    rw [ev] at m3
    iterate 2 refine mj_T.pl rfl rfl rfl rfl ?_
    refine mT_get (v := .int (jn ((u : Nat) : Int))) m3 19 cq_d1 (by decide) rfl (congrArg (fun z : Int => some (Value.int (jn z))) ((xup_ne _ _ (Or.inr (by decide))).trans q2)) ?_
    refine mj_T.pl rfl rfl rfl rfl ?_
    refine mj_T.isub (a := ((u : Nat) : Int)) (b := 1) rfl ?_
    refine mT_put (v := (((u : Nat) : Int) - 1)) m3 19 cq_d1 (by decide) rfl (by simp [jMf, xup]) (by simp [jMf]) rfl (fun h4 m5 => ?_)
    refine mj_T.pl rfl rfl rfl rfl ?_
    refine mT_get m5 19 cq_d1 (by decide) rfl rfl ?_
    refine mj_T.pl rfl rfl rfl rfl ?_
    refine mj_T.call rfl rfl (Nat.le_of_ble_eq_true rfl) (Nat.le_of_ble_eq_true rfl) (mV_of m5 19 cq_d1 (by decide) rfl (by decide) rfl _) rfl (mj_Ok.up (by omega) (mC_earlier (D := 0) m5 (e := (e + 7) % 8) (by omega) ((xup_ne _ _ (Or.inr (by decide))).trans (xup_at _ _ _ _)))) (fun v g6 hq => ?_) (fun i g6 hq => ?_)
    rotate_left
    · cases hq
    cases hq
    refine mj_T.eq (pc2 := 43) (st2 := [.ref (483 + 10 * ((e + 7) % 8)), .ref 2]) ?_ rfl rfl rfl rfl
    refine mj_T.call rfl rfl (Nat.le_of_ble_eq_true rfl) (Nat.le_of_ble_eq_true rfl) (mV_of m5 10 cq_d2 (by decide) rfl (by decide) rfl _) rfl (mj_Ok.up (by omega) (mB_copy (D := 0) m5 (p := (H 0 78).toNat) cq_d2 (cq_eb ((e + 7) % 8) (by omega)) (by omega) (by rw [xup_oth (by omega), xup_oth (by omega), hb0.2.1]; omega) (by omega))) (fun v g7 hq => ?_) (fun i g7 hq => ?_)
    rotate_left
    · obtain ⟨_, _, _, _, _, _, _, hq⟩ := hq; cases hq
    obtain ⟨X5, _, m5, y1, y2, y3, y4, hq⟩ := hq
    cases hq
    refine mj_T.eq (pc2 := 46) (st2 := []) ?_ rfl rfl rfl rfl
    refine mj_T.pl rfl rfl rfl rfl ?_
    refine mT_get (v := .int (jn ((u : Int) - 1))) m5 19 cq_d1 (by decide) rfl (congrArg (fun z : Int => some (Value.int (jn z))) ((congrFun (y4 1 (by omega)) 2).trans (xup_at _ _ _ _))) ?_
    have xo : ∀ c, c ≠ 1 → (xup (xup X 1 3 (((e + 7) % 8 : Nat) : Int)) 1 2 ((u : Int) - 1)) c = X c := fun c hc => by rw [xup_oth hc, xup_oth hc]
    have x13 : (xup (xup X 1 3 (((e + 7) % 8 : Nat) : Int)) 1 2 ((u : Int) - 1)) 1 3 = (((e + 7) % 8 : Nat) : Int) := (xup_ne _ _ (Or.inr (by decide))).trans (xup_at _ _ _ _)
    have x12 : (xup (xup X 1 3 (((e + 7) % 8 : Nat) : Int)) 1 2 ((u : Int) - 1)) 1 2 = (u : Int) - 1 := xup_at _ _ _ _
    refine mj_T.ret rfl rfl rfl (Or.inr ⟨u - 1, by omega, _, ⟨V, X5, m5, b0, d.of (fun p kp => (y4 p (by have := cK_13 kp; omega)).trans (xo p (by have := cK_13 kp; omega))), (e + 7) % 8, by omega, (congrFun (y4 1 (by omega)) 3).trans x13, ((congrFun (y4 1 (by omega)) 2).trans x12).trans (by omega), ⟨fun r hr j hj => ?_, ?_, fun k hk => ?_⟩, fun k hk => ?_, tl.to (fun c hc => (y4 c (by omega)).trans (xo c (by omega)))⟩, congrArg (fun z : Int => ((.inl (some (Value.int (jn z))), _) : mj_R)) (by omega)⟩)
    · refine (y1 r hr j hj).trans ?_
      rw [xo _ (by omega)]
      exact hb0.1 r hr j hj
    · rw [y2]
      omega
    · have y := y3 k (by omega)
      rw [xo _ (by omega), xo _ (by omega)] at y
      exact ⟨y.1.trans (hb0.2.2 k hk).1, y.2.trans (hb0.2.2 k hk).2⟩
    · rw [show 483 + 10 * (((e + 7) % 8 + 7 - k) % 8) = 483 + 10 * ((e + 7 - (k + 1)) % 8) by omega]
      exact (bh (k + 1) (by omega)).cg (fun c c1 c2 => (y4 c (by omega)).trans (xo c (by omega)))
  · simp only [jc, Bool.not_eq_true', Bool.not_eq_false', decide_eq_true_eq, decide_eq_false_iff_not] at c1
    refine mj_T.pl rfl rfl rfl rfl ?_
    exact mj_T.ret rfl rfl rfl (Or.inl ⟨by omega, _, ⟨V, X, m, b0, d, e, he, q3, q2, b, bh, tl⟩, rfl⟩)
end MP7
/-! The class, exactly: interpolate. -/
theorem rdf_cg {x : Int} {g g' : Nat → Int} {i : Nat} : ∀ k, (∀ j, j < k → g j = g' j) → rdf x g i k = rdf x g' i k
  | 0, _ => rfl
  | k + 1, h => by
    unfold rdf
    rw [rdf_cg k (fun j hj => h j (by omega)), h k (by omega)]
theorem wgt_cg {P P' : Nat → Int} {p : Nat} (h : ∀ j, j < p → P j = P' j) {i : Nat} (hi : i < p) : wgt P p i = wgt P' p i := by
  unfold wgt
  rw [h i hi, rdf_cg p h]
theorem lcw_cg {w w' : Nat → Int} : ∀ k, (∀ i, i < k → w i = w' i) → lcw w k = lcw w' k
  | 0, _ => rfl
  | k + 1, h => by
    unfold lcw
    rw [lcw_cg k (fun j hj => h j (by omega)), h k (by omega)]
theorem bsf_cg {P P' : Nat → Int} {i : Nat} : ∀ k, (∀ j, j < k → P j = P' j) → bsf P i k = bsf P' i k
  | 0, _ => rfl
  | k + 1, h => by
    unfold bsf
    rw [bsf_cg k (fun j hj => h j (by omega)), h k (by omega)]
theorem bsf_abs {P : Nat → Int} {i : Nat} : ∀ k, (∀ j, j < k → (P j).natAbs ≤ 9) → ∀ e, (bsf P i k e).natAbs ≤ 10 ^ k
  | 0, _, e => by
    show (if e = 0 then (1 : Int) else 0).natAbs ≤ 1
    split <;> decide
  | k + 1, h, e => by
    have ih := bsf_abs (i := i) k (fun j hj => h j (by omega))
    have hp : 10 ^ (k + 1) = 10 ^ k * 10 := Nat.pow_succ 10 k
    have h0 := Nat.pow_pos (n := k) (show 0 < 10 by decide)
    unfold bsf
    split
    · have := ih e
      omega
    · have h1 : (P k * bsf P i k e).natAbs ≤ 9 * 10 ^ k := by
        rw [Int.natAbs_mul]
        exact Nat.mul_le_mul (h k (by omega)) (ih e)
      show ((if e = 0 then 0 else bsf P i k (e - 1)) - P k * bsf P i k e).natAbs ≤ _
      split
      · omega
      · have := ih (e - 1)
        omega
/-- the polynomial through the points, times M -/
def itp (P Y : Nat → Int) (M : Int) (p : Nat) : Nat → pz_P
  | 0 => fun _ => 0
  | k + 1 => fun e => itp P Y M p k e + (Y k * M.tdiv (wgt P p k)) * bsf P k p e
theorem itp_cg {P P' Y Y' : Nat → Int} {M : Int} {p : Nat} (h : ∀ j, j < p → P j = P' j) (h' : ∀ j, j < p → Y j = Y' j) : ∀ k, k ≤ p → itp P Y M p k = itp P' Y' M p k
  | 0, _ => rfl
  | k + 1, hk => by
    unfold itp
    rw [itp_cg h h' k (by omega), h' k (by omega), wgt_cg h (by omega), bsf_cg p h]
theorem itp_f {Y M w : Int} (hY : Y.natAbs ≤ 999) (hM : M.natAbs ≤ 6402373705728000) : (Y * M.tdiv w).natAbs ≤ 6395971332022272000 := by
  rw [Int.natAbs_mul, Int.natAbs_tdiv]
  have h1 : M.natAbs.div w.natAbs ≤ 6402373705728000 := Nat.le_trans (Nat.div_le_self _ _) hM
  exact Nat.le_trans (Nat.mul_le_mul hY h1) (by decide)
theorem itp_abs {P Y : Nat → Int} {M : Int} {p : Nat} (hp : p ≤ 6) (hP : ∀ j, j < p → (P j).natAbs ≤ 9) (hY : ∀ j, j < p → (Y j).natAbs ≤ 999) (hM : M.natAbs ≤ 6402373705728000) : ∀ k, k ≤ p → ∀ e, (itp P Y M p k e).natAbs ≤ k * 6395971332022272000000000
  | 0, _, e => by
    show (0 : Int).natAbs ≤ _
    exact Nat.zero_le _
  | k + 1, hk, e => by
    have ih := itp_abs hp hP hY hM k (by omega) e
    have h1 := itp_f (w := wgt P p k) (hY k (by omega)) hM
    have h2 : (bsf P k p e).natAbs ≤ 10 ^ 6 := Nat.le_trans (bsf_abs p hP e) (Nat.pow_le_pow_right (by decide) hp)
    have h3 : ((Y k * M.tdiv (wgt P p k)) * bsf P k p e).natAbs ≤ 6395971332022272000 * 10 ^ 6 := by
      rw [Int.natAbs_mul]
      exact Nat.mul_le_mul h1 h2
    show (itp P Y M p k e + (Y k * M.tdiv (wgt P p k)) * bsf P k p e).natAbs ≤ _
    omega
/-- what interpolate lays into a register (w) and tells (D) -/
def itR (N : Nat → Int) (w : Nat → Int) (D : Int) : Prop := ∃ M : Int, 0 < M ∧ (∀ i, i < (N 78).toNat → wgt (fun i => N (79 + i)) (N 78).toNat i ∣ M) ∧ (∀ j, j < 13 → M * w j = D * itp (fun i => N (79 + i)) (fun i => N (85 + i)) M (N 78).toNat (N 78).toNat j) ∧ 0 < D ∧ Nat.gcd D.natAbs (cgd w 13) = 1
theorem it_red {I : pz_P} {M0 d : Nat} (hM : 0 < M0) (hd : d ≤ 13) (hz : ∀ e, d ≤ e → e < 13 → I e = 0) {f : Nat → Int} (hf : ∀ e, e < 13 → f e = I e) {w : Nat → Int} (hw : ∀ e, e < 13 → w e = (I e).tdiv ((shg f M0 d : Nat) : Int)) : (∀ j, j < 13 → (M0 : Int) * w j = (M0 : Int).tdiv ((shg f M0 d : Nat) : Int) * I j) ∧ 0 < (M0 : Int).tdiv ((shg f M0 d : Nat) : Int) ∧ Nat.gcd ((M0 : Int).tdiv ((shg f M0 d : Nat) : Int)).natAbs (cgd w 13) = 1 := by
  have hg := (shg_le f hM d).1
  obtain ⟨g1, g2⟩ := shg_dvd f M0 d
  generalize hG : shg f M0 d = G at hg g1 g2 hw ⊢
  have gI : ∀ e, e < 13 → (G : Int) ∣ I e := fun e he => by
    by_cases q : e < d
    · have y := g2 e q
      rw [hf e he] at y
      exact Int.natAbs_dvd_natAbs.mp (by rw [Int.natAbs_natCast]; exact y)
    · rw [hz e (by omega) he]
      exact ⟨0, (Int.mul_zero _).symm⟩
  obtain ⟨m, hm⟩ := g1
  have eM : (M0 : Int).tdiv (G : Int) = (m : Int) := by
    rw [hm, Int.natCast_mul]
    exact Int.mul_tdiv_cancel_left _ (by omega)
  have eW : ∀ e, e < 13 → I e = (G : Int) * w e := fun e he => by
    rw [hw e he]
    exact (Int.mul_tdiv_cancel' (gI e he)).symm
  rw [eM]
  have hm0 : 0 < m := Nat.pos_of_ne_zero (fun e => by rw [e, Nat.mul_zero] at hm; omega)
  refine ⟨fun j hj => ?_, by omega, ?_⟩
  · rw [eW j hj, hm, Int.natCast_mul, Int.mul_assoc, Int.mul_left_comm]
  · rw [Int.natAbs_natCast]
    have q1 : Nat.gcd m (cgd w 13) ∣ m := Nat.gcd_dvd_left _ _
    have q2 : Nat.gcd m (cgd w 13) ∣ cgd w 13 := Nat.gcd_dvd_right _ _
    generalize Nat.gcd m (cgd w 13) = q at q1 q2 ⊢
    have h1 : G * q ∣ shg f M0 d := shg_max f M0 (G * q) (by rw [hm]; exact Nat.mul_dvd_mul_left G q1) d (fun i hi => by
      rw [hf i (by omega), eW i (by omega), Int.natAbs_mul, Int.natAbs_natCast]
      exact Nat.mul_dvd_mul_left G (Nat.dvd_trans q2 (cgd_dvd w 13 i (by omega))))
    rw [hG] at h1
    have h2 := Nat.le_of_dvd hg h1
    by_cases c0 : q = 0
    · rw [c0, Nat.mul_zero] at h1
      have := Nat.eq_zero_of_zero_dvd h1
      omega
    · by_cases c1 : q = 1
      · exact c1
      · have h3 : G * 2 ≤ G * q := Nat.mul_le_mul_left G (by omega)
        omega
section MIT
variable {g h : mj_H} {n D : Nat} {V : Nat → Int} {X : Nat → Nat → Int}
theorem it_fit : 6 * 6395971332022272000000000 + 9223372036854775807 * 999999999999999999 < jB ^ 29 := by decide +kernel
theorem PT.cg {X X1 : Nat → Nat → Int} {o p : Nat} (q : PT X o p) (h : ∀ c, o ≤ c → c < o + 10 → X1 c = X c) : PT X1 o p := by
  unfold PT at q ⊢
  rw [h o (by omega) (by omega), h (o + 8) (by omega) (by omega), h (o + 9) (by omega) (by omega)]
  exact q
theorem mC_it_loop {t M : Int} {p : Nat} (hp : PT X 2 p) (hM : 0 < M ∧ M ≤ 6402373705728000) {Q : mj_R → Prop} (hend : ∀ (V1 : Nat → Int) (X1 : Nat → Nat → Int) (h1 : mj_H) (l5 : Option Value), jM g n V1 X1 h1 → (∀ e, e < 13 → V1 (20 + 4 + 2 * e) = itp (X (2 + 8)) (X (2 + 9)) M p p e) → X1 20 2 = (fdg (itp (X (2 + 8)) (X (2 + 9)) M p p) 13 : Int) - 1 → (∀ x, x ≠ 164 → x ≠ 166 → x ≠ 168 → (x < 20 + 4 ∨ 20 + 4 + 2 * 13 ≤ x) → V1 x = V x) → (∀ c, c ≠ 482 → c ≠ 20 → X1 c = X c) → mj_T (D + 4) mj_m117 106 [some (.ref 1), some (.int (jn t)), some (.long (jl M)), none, some (.int (jn ((p : Nat) : Int))), l5, none] [] h1 Q) : ∀ k i, i + k = p → ∀ (V1 : Nat → Int) (X1 : Nat → Nat → Int) (h1 : mj_H) (l5 : Option Value), jM g n V1 X1 h1 → (∀ e, e < 13 → V1 (20 + 4 + 2 * e) = itp (X (2 + 8)) (X (2 + 9)) M p i e) → X1 20 2 = (fdg (itp (X (2 + 8)) (X (2 + 9)) M p i) 13 : Int) - 1 → (∀ x, x ≠ 164 → x ≠ 166 → x ≠ 168 → (x < 20 + 4 ∨ 20 + 4 + 2 * 13 ≤ x) → V1 x = V x) → (∀ c, c ≠ 482 → c ≠ 20 → X1 c = X c) → mj_T (D + 4) mj_m117 27 [some (.ref 1), some (.int (jn t)), some (.long (jl M)), none, some (.int (jn ((i : Nat) : Int))), l5, none] [] h1 Q
  | 0, i, hi, V1, X1, h1, l5, m, e1, e2, e3, e4 => by
    have hp6 := hp.2.1
    iterate 2 refine mj_T.pl rfl rfl rfl rfl ?_
    refine mT_get m 19 cq_d1 (by decide) rfl rfl ?_
    refine mT_get (v := .int (jn ((p : Nat) : Int))) m 10 cq_d2 (by decide) rfl (congrArg (fun z : Int => some (Value.int (jn z))) ((congrFun (e4 2 (by decide) (by decide)) 3).trans hp.1)) ?_
    refine mj_T.icmp (a := ((i : Nat) : Int)) (b := ((p : Nat) : Int)) rfl ⟨by omega, by omega⟩ ⟨by omega, by omega⟩ (fun c1 => ?_) (fun c1 => ?_)
    · simp only [jc, Bool.not_eq_true', Bool.not_eq_false', decide_eq_true_eq, decide_eq_false_iff_not] at c1
      have hip : i = p := by omega
      subst hip
      exact hend _ _ _ _ m e1 e2 e3 e4
    · exfalso
      simp only [jc, Bool.not_eq_true', Bool.not_eq_false', decide_eq_true_eq, decide_eq_false_iff_not] at c1
      omega
  | k + 1, i, hi, V1, X1, h1, l5, m, e1, e2, e3, e4 => by
    have hp6 := hp.2.1
    have hPa : ∀ j, j < p → (X (2 + 8) j).natAbs ≤ 9 := fun j hj => by
      have := (hp.2.2.1 j hj).1
      omega
    have hYa : ∀ j, j < p → (X (2 + 9) j).natAbs ≤ 999 := fun j hj => by
      have := (hp.2.2.1 j hj).2
      omega
    have hw := hp.w (i := i) (by omega)
    have hYi := hYa i (by omega)
    have e8 : X1 (2 + 8) = X (2 + 8) := e4 _ (by decide) (by decide)
    have ew : wgt (X1 (2 + 8)) p i = wgt (X (2 + 8)) p i := by rw [e8]
    have hba : ∀ e, (bsf (X (2 + 8)) i p e).natAbs ≤ 1000000 := fun e => Nat.le_trans (bsf_abs p hPa e) (Nat.le_trans (Nat.pow_le_pow_right (by decide) hp6) (by decide))
    iterate 2 refine mj_T.pl rfl rfl rfl rfl ?_
    refine mT_get m 19 cq_d1 (by decide) rfl rfl ?_
    refine mT_get (v := .int (jn ((p : Nat) : Int))) m 10 cq_d2 (by decide) rfl (congrArg (fun z : Int => some (Value.int (jn z))) ((congrFun (e4 2 (by decide) (by decide)) 3).trans hp.1)) ?_
    refine mj_T.icmp (a := ((i : Nat) : Int)) (b := ((p : Nat) : Int)) rfl ⟨by omega, by omega⟩ ⟨by omega, by omega⟩ (fun c1 => ?_) (fun c1 => ?_)
    · exfalso
      simp only [jc, Bool.not_eq_true', Bool.not_eq_false', decide_eq_true_eq, decide_eq_false_iff_not] at c1
      omega
    · simp only [jc, Bool.not_eq_true', Bool.not_eq_false', decide_eq_true_eq, decide_eq_false_iff_not] at c1
      refine mj_T.pl rfl rfl rfl rfl ?_
      refine mT_get m 19 cq_d1 (by decide) rfl rfl ?_
      refine mj_T.pl rfl rfl rfl rfl ?_
      refine mj_T.call rfl rfl (Nat.le_of_ble_eq_true rfl) (Nat.le_of_ble_eq_true rfl) (mV_of m 10 cq_d2 (by decide) rfl (by decide) rfl _) rfl (mj_Ok.up (by omega) (mB_weight (D := 0) m cq_d2 (hp.cg (fun c c1 c2 => e4 c (by omega) (by omega))) (i := i) (by omega))) (fun v g2 hq => ?_) (fun i g2 hq => ?_)
      rotate_left
      · cases hq
      rw [ew] at hq
      cases hq
      refine mj_T.eq (pc2 := 48) (st2 := [.long (jl (wgt (X (2 + 8)) p i))]) ?_ rfl rfl rfl rfl
      refine mj_T.pl (loc' := [some (.ref 1), some (.int (jn t)), some (.long (jl M)), none, some (.int (jn ((i : Nat) : Int))), some (.long (jl (wgt (X (2 + 8)) p i))), none]) rfl rfl rfl rfl ?_
      refine mj_T.pl rfl rfl rfl rfl ?_
      refine mT_get m 19 cq_d1 (by decide) rfl rfl ?_
      iterate 2 refine mj_T.pl rfl rfl rfl rfl ?_
      refine mT_get m 19 cq_d1 (by decide) rfl rfl ?_
      refine mj_T.call rfl rfl (Nat.le_of_ble_eq_true rfl) (Nat.le_of_ble_eq_true rfl) (mV_of m 10 cq_d2 (by decide) rfl (by decide) rfl _) rfl (mj_Ok.up (by omega) (mB_basis (D := 0) m cq_d2 cq_d482 (hp.cg (fun c c1 c2 => e4 c (by omega) (by omega))) (i := i) (by omega) (by decide) (by decide))) (fun v g3 hq => ?_) (fun i g3 hq => ?_)
      rotate_left
      · obtain ⟨_, _, _, _, _, hq⟩ := hq; cases hq
      obtain ⟨X2, _, m2, y1, y2, hq⟩ := hq
      cases hq
      rw [e8] at y1
      have x20 : X2 20 2 = X1 20 2 := congrFun (y2 20 (by decide)) 2
      have x11 : X2 (2 + 9) i = X (2 + 9) i := by
        rw [y2 _ (by decide), e4 _ (by decide) (by decide)]
      refine mj_T.eq (pc2 := 63) (st2 := []) ?_ rfl rfl rfl rfl
      refine mj_T.pl rfl rfl rfl rfl ?_
      refine mT_get m2 19 cq_d1 (by decide) rfl rfl ?_
      refine mj_T.pl rfl rfl rfl rfl ?_
      refine jT.lc 0 rfl rfl ?_
      refine mj_T.lif (a := (wgt (X (2 + 8)) p i)) (b := ((0 : Nat) : Int)) rfl rfl ⟨by omega, by omega⟩ ⟨by omega, by omega⟩ (fun c4 => ?_) (fun c4 => ?_)
      · simp only [jc, Bool.not_eq_true', Bool.not_eq_false', decide_eq_true_eq, decide_eq_false_iff_not] at c4
        refine mj_T.pl rfl rfl rfl rfl ?_
        refine mT_get m2 19 cq_d1 (by decide) rfl rfl ?_
        refine mj_T.pl rfl rfl rfl rfl ?_
        refine mj_T.call rfl rfl (Nat.le_of_ble_eq_true rfl) (Nat.le_of_ble_eq_true rfl) (mV_of m2 10 cq_d2 (by decide) rfl (by decide) rfl _) rfl (mj_Ok.up (by omega) (mB_height (D := 0) (i := i) m2 cq_d2 (by omega))) (fun v g5 hq => ?_) (fun i g5 hq => ?_)
        rotate_left
        · cases hq
        rw [x11] at hq
        cases hq
        refine mj_T.eq (pc2 := 87) (st2 := [.int (jn (X (2 + 9) i)), .ref 19]) ?_ rfl rfl rfl rfl
        refine mj_T.i2l rfl ⟨by omega, by omega⟩ ?_
        iterate 2 refine mj_T.pl rfl rfl rfl rfl ?_
        refine mT_ldiv rfl ⟨by omega, by omega⟩ (by omega) ⟨by omega, by omega⟩ (by omega) ?_
        refine mj_T.lmul (a := (X (2 + 9) i)) (b := (M.tdiv (wgt (X (2 + 8)) p i))) rfl ?_
        refine mj_T.pl rfl rfl rfl rfl ?_
        refine mT_get m2 19 cq_d1 (by decide) rfl rfl ?_
        refine mj_T.call rfl rfl (Nat.le_of_ble_eq_true rfl) (Nat.le_of_ble_eq_true rfl) (mV_of m2 11 cq_d19 (by decide) rfl (by decide) rfl _) rfl (mj_Ok.up (by omega) (mD_gather (D := 0) m2 (f := (X (2 + 9) i * M.tdiv (wgt (X (2 + 8)) p i))) (W := itp (X (2 + 8)) (X (2 + 9)) M p i) (M := i * 6395971332022272000000000) cq_d482 (by have := itp_f (w := wgt (X (2 + 8)) p i) (Y := X (2 + 9) i) (M := M) (by omega) (by omega); omega) (fun e he => by rw [y1 e he]; have := hba e; omega) (itp_abs hp6 hPa hYa (by omega) i (by omega)) (Nat.lt_of_le_of_lt (Nat.add_le_add_right (Nat.mul_le_mul_right _ (show i ≤ 6 by omega)) _) it_fit) e1)) (fun v g6 hq => ?_) (fun i g6 hq => ?_)
        rotate_left
        · obtain ⟨_, _, _, _, _, hq⟩ := hq; cases hq
        obtain ⟨V3, _, m3, z1, z2, hq⟩ := hq
        cases hq
        refine mj_T.eq (pc2 := 100) (st2 := []) ?_ rfl rfl rfl rfl
        refine mj_T.iinc rfl rfl ?_
        rw [show ((i : Nat) : Int) + 1 = ((i + 1 : Nat) : Int) by omega]
        refine mj_T.eq (loc2 := [some (.ref 1), some (.int (jn t)), some (.long (jl M)), none, some (.int (jn (((i + 1) : Nat) : Int))), some (.long (jl (wgt (X (2 + 8)) p i))), none]) ?_ rfl rfl rfl rfl
        refine mj_T.pl rfl rfl rfl rfl ?_
        refine mC_it_loop hp hM hend k (i + 1) (by omega) _ _ _ _ m3 (fun e he => ?_) ?_ (fun x x1 x2 x3 x4 => (z2 x x1 x2 x3 x4).trans (e3 x x1 x2 x3 x4)) (fun c c1 c2 => by rw [xup_oth c2, y2 c c1, e4 c c1 c2])
        · rw [z1 e he, y1 e he]
          rfl
        · rw [xup_at]
          exact congrArg (fun z : Nat => (z : Int) - 1) (fdg_congr 13 (fun e he => by
            show itp (X (2 + 8)) (X (2 + 9)) M p i e + X (2 + 9) i * M.tdiv (wgt (X (2 + 8)) p i) * X2 482 e = itp (X (2 + 8)) (X (2 + 9)) M p i e + X (2 + 9) i * M.tdiv (wgt (X (2 + 8)) p i) * bsf (X (2 + 8)) i p e
            rw [y1 e he]))
      · exfalso
        simp only [jc, Bool.not_eq_true', Bool.not_eq_false', decide_eq_true_eq, decide_eq_false_iff_not] at c4
        omega
end MIT
/-! The class, exactly: interpolate. -/
theorem it_fit2 : 6 * 6395971332022272000000000 < jB ^ 29 := by decide +kernel
theorem itR.cg {N w w' : Nat → Int} {D : Int} (h : ∀ j, j < 13 → w j = w' j) (q : itR N w D) : itR N w' D := by
  obtain ⟨M, q1, q2, q3, q4, q5⟩ := q
  refine ⟨M, q1, q2, fun j hj => ?_, q4, ?_⟩
  · rw [← h j hj]
    exact q3 j hj
  · rw [← cgd_cg 13 h]
    exact q5
section MI2
variable {g h : mj_H} {n D u : Nat} {N : Nat → Int} {H : Nat → Nat → Int}
theorem cq_bd2 : (bydl.all fun x => decide (x = 21 ∨ (50 ≤ x ∧ x ≠ 164 ∧ x ≠ 166 ∧ x ≠ 168 ∧ x ≠ 170))) = true := by decide +kernel
theorem pX_interpolate (hg : g.length ≤ n) (A : AS N u H) (s : cS g n N u H h) {to : Int} (rto : -2147483648 ≤ to ∧ to ≤ 2147483647) : mj_Ok (D + 7) 117 [.ref 1, .int (jn to)] h (fun z => ((0 ≤ to ∧ to ≤ 5) ∧ ∃ (w : Nat → Int) (D : Int) (h2 : mj_H), itR N w D ∧ sml w ∧ cS g n (jfl N to.toNat w 13) (upu u) (pushH N H) h2 ∧ z = (.inl (some (.long (jl D))), h2)) ∨ (∃ (k : Nat) (h2 : mj_H), ((¬ (0 ≤ to ∧ to ≤ 5) ∧ k = 0) ∨ ((0 ≤ to ∧ to ≤ 5) ∧ (∃ (w : Nat → Int) (D : Int), itR N w D ∧ ¬ sml w) ∧ k = 1)) ∧ cS g (n + 1) N u H h2 ∧ z = (.inr k, h2))) := by
  obtain ⟨V, X, m, b0, d, c⟩ := s
  have bb : BN X 2 N := by
    obtain ⟨_, _, _, _, bb, _⟩ := c
    exact bb
  have hpt := bb.pt A.1
  have hp6 := hpt.2.1
  have hl := hpt.l (k := (N 78).toNat) (Nat.le_refl _)
  refine mj_Ok.of (M := mj_m117) rfl rfl rfl ?_
  iterate 2 refine mj_T.pl rfl rfl rfl rfl ?_
  refine mj_T.call rfl rfl (Nat.le_of_ble_eq_true rfl) (Nat.le_of_ble_eq_true rfl) (mV_of m 19 cq_d1 (by decide) rfl (by decide) rfl _) rfl (mj_Ok.up (by omega) (mC_rowOf (D := 0) m (i := to) (by omega))) (fun v g1 hq => ?_) (fun i g1 hq => ?_)
  rotate_left
  · rcases hq with ⟨_, hq⟩ | ⟨hn, hq⟩
    · cases hq
    · cases hq
      exact Or.inl ⟨rfl, Or.inr ⟨_, _, Or.inl ⟨by omega, rfl⟩, cS.thr hg m b0 d c, rfl⟩⟩
  rcases hq with ⟨kto, hq⟩ | ⟨_, hq⟩
  rotate_left
  · cases hq
  cases hq
  refine mj_T.eq (pc2 := 5) (st2 := [.ref (4 + to.toNat)]) ?_ rfl rfl rfl rfl
  iterate 2 refine mj_T.pl rfl rfl rfl rfl ?_
  refine mT_get m 19 cq_d1 (by decide) rfl rfl ?_
  refine mj_T.call rfl rfl (Nat.le_of_ble_eq_true rfl) (Nat.le_of_ble_eq_true rfl) (mV_of m 10 cq_d2 (by decide) rfl (by decide) rfl _) rfl (mj_Ok.up (by omega) (mB_common (D := 0) m cq_d2 hpt)) (fun v g2 hq => ?_) (fun i g2 hq => ?_)
  rotate_left
  · cases hq
  cases hq
  refine mj_T.eq (pc2 := 13) (st2 := [.long (jl (((lcw (wgt (X (2 + 8)) (N 78).toNat) (N 78).toNat).natAbs : Nat) : Int))]) ?_ rfl rfl rfl rfl
  refine mj_T.pl (loc' := [some (.ref 1), some (.int (jn to)), some (.long (jl (((lcw (wgt (X (2 + 8)) (N 78).toNat) (N 78).toNat).natAbs : Nat) : Int))), none, none, none, none]) rfl rfl rfl rfl ?_
  refine mj_T.pl rfl rfl rfl rfl ?_
  refine mT_get m 19 cq_d1 (by decide) rfl rfl ?_
  refine mT_get m 11 cq_d19 (by decide) rfl rfl ?_
  refine mj_T.call rfl rfl (Nat.le_of_ble_eq_true rfl) (Nat.le_of_ble_eq_true rfl) (mV_of m 13 cq_d20 (by decide) rfl (by decide) rfl _) rfl (mj_Ok.up (by omega) (mP_clear (D := 0) m cq_d20)) (fun v g3 hq => ?_) (fun i g3 hq => ?_)
  rotate_left
  · obtain ⟨_, _, hq⟩ := hq; cases hq
  obtain ⟨_, m4, hq⟩ := hq
  cases hq
  refine mj_T.eq (pc2 := 24) (st2 := []) ?_ rfl rfl rfl rfl
  refine mj_T.pl rfl rfl rfl rfl ?_
  refine mj_T.pl (loc' := [some (.ref 1), some (.int (jn to)), some (.long (jl (((lcw (wgt (X (2 + 8)) (N 78).toNat) (N 78).toNat).natAbs : Nat) : Int))), none, some (.int (jn 0)), none, none]) rfl rfl rfl rfl ?_
  refine mC_it_loop (V := V) (X := X) hpt (t := to) (M := (((lcw (wgt (X (2 + 8)) (N 78).toNat) (N 78).toNat).natAbs : Nat) : Int)) ⟨by omega, by omega⟩ (fun V1 X1 h1 l5 m1 i1 i2 i3 i4 => ?_) (N 78).toNat 0 (by omega) _ _ _ _ m4 (fun e he => ?_) ?_ (fun x x1 x2 x3 x4 => pfl_off _ _ _ (by rw [mK_z.1]; omega)) (fun c c1 c2 => xup_oth c2)
  rotate_left
  · exact pfl_at _ _ _ (by rw [mK_z.1]; exact he)
  · rw [xup_at]
    show (-1 : Int) = ((fdg (fun _ => (0 : Int)) 13 : Nat) : Int) - 1
    decide
  have hz : ∀ e, fdg (itp (X (2 + 8)) (X (2 + 9)) (((lcw (wgt (X (2 + 8)) (N 78).toNat) (N 78).toNat).natAbs : Nat) : Int) (N 78).toNat (N 78).toNat) 13 ≤ e → e < 13 → V1 (20 + 4 + 2 * e) = 0 := fun e h1 h2 => (i1 e h2).trans (fdg_zero (itp (X (2 + 8)) (X (2 + 9)) (((lcw (wgt (X (2 + 8)) (N 78).toNat) (N 78).toNat).natAbs : Nat) : Int) (N 78).toNat (N 78).toNat) 13 e h1 h2)
  have hIb : ∀ e, ((itp (X (2 + 8)) (X (2 + 9)) (((lcw (wgt (X (2 + 8)) (N 78).toNat) (N 78).toNat).natAbs : Nat) : Int) (N 78).toNat (N 78).toNat) e).natAbs ≤ (N 78).toNat * 6395971332022272000000000 := itp_abs hp6 (fun j hj => by have := (hpt.2.2.1 j hj).1; omega) (fun j hj => by have := (hpt.2.2.1 j hj).2; omega) (by omega) _ (Nat.le_refl _)
  have it_fit3 : (N 78).toNat * 6395971332022272000000000 < jB ^ 29 := Nat.lt_of_le_of_lt (Nat.mul_le_mul_right _ hp6) it_fit2
  refine mj_T.pl rfl rfl rfl rfl ?_
  refine mT_get m1 19 cq_d1 (by decide) rfl rfl ?_
  refine mj_T.pl rfl rfl rfl rfl ?_
  refine mj_T.call rfl rfl (Nat.le_of_ble_eq_true rfl) (Nat.le_of_ble_eq_true rfl) (mV_of m1 11 cq_d19 (by decide) rfl (by decide) rfl _) rfl (mj_Ok.up (by omega) (mD_shorten (D := 0) m1 (d := fdg (itp (X (2 + 8)) (X (2 + 9)) (((lcw (wgt (X (2 + 8)) (N 78).toNat) (N 78).toNat).natAbs : Nat) : Int) (N 78).toNat (N 78).toNat) 13) (s0 := (lcw (wgt (X (2 + 8)) (N 78).toNat) (N 78).toNat).natAbs) i2 (fdg_le _ 13) hl.1 (by omega) hz (fun e he => by rw [i1 e he]; exact jnl_B (hIb e) it_fit3))) (fun v g41 hq => ?_) (fun i g41 hq => ?_)
  rotate_left
  · obtain ⟨_, _, _, _, _, hq⟩ := hq; cases hq
  obtain ⟨V5, _, m4, j1, j2, hq⟩ := hq
  cases hq
  have hgb := shg_le (pco V1 20) (s0 := (lcw (wgt (X (2 + 8)) (N 78).toNat) (N 78).toNat).natAbs) hl.1 (fdg (itp (X (2 + 8)) (X (2 + 9)) (((lcw (wgt (X (2 + 8)) (N 78).toNat) (N 78).toNat).natAbs : Nat) : Int) (N 78).toNat (N 78).toNat) 13)
  have hw5 : ∀ e, e < 13 → pco V5 20 e = ((itp (X (2 + 8)) (X (2 + 9)) (((lcw (wgt (X (2 + 8)) (N 78).toNat) (N 78).toNat).natAbs : Nat) : Int) (N 78).toNat (N 78).toNat) e).tdiv (((shg (pco V1 20) ((lcw (wgt (X (2 + 8)) (N 78).toNat) (N 78).toNat).natAbs) (fdg (itp (X (2 + 8)) (X (2 + 9)) (((lcw (wgt (X (2 + 8)) (N 78).toNat) (N 78).toNat).natAbs : Nat) : Int) (N 78).toNat (N 78).toNat) 13)) : Nat) : Int) := fun e he => (j1 e he).trans (by rw [i1 e he])
  have hred := it_red (M0 := (lcw (wgt (X (2 + 8)) (N 78).toNat) (N 78).toNat).natAbs) hl.1 (fdg_le (itp (X (2 + 8)) (X (2 + 9)) (((lcw (wgt (X (2 + 8)) (N 78).toNat) (N 78).toNat).natAbs : Nat) : Int) (N 78).toNat (N 78).toNat) 13) (fun e h1 h2 => fdg_zero (itp (X (2 + 8)) (X (2 + 9)) (((lcw (wgt (X (2 + 8)) (N 78).toNat) (N 78).toNat).natAbs : Nat) : Int) (N 78).toNat (N 78).toNat) 13 e h1 h2) (f := pco V1 20) (fun e he => i1 e he) (w := pco V5 20) hw5
  have hit : itR N (pco V5 20) ((((lcw (wgt (X (2 + 8)) (N 78).toNat) (N 78).toNat).natAbs : Nat) : Int).tdiv (((shg (pco V1 20) ((lcw (wgt (X (2 + 8)) (N 78).toNat) (N 78).toNat).natAbs) (fdg (itp (X (2 + 8)) (X (2 + 9)) (((lcw (wgt (X (2 + 8)) (N 78).toNat) (N 78).toNat).natAbs : Nat) : Int) (N 78).toNat (N 78).toNat) 13)) : Nat) : Int)) := by
    refine ⟨(((lcw (wgt (X (2 + 8)) (N 78).toNat) (N 78).toNat).natAbs : Nat) : Int), by omega, fun i hi => ?_, fun j hj => ?_, hred.2.1, hred.2.2⟩
    · rw [← wgt_cg (P := X (2 + 8)) (fun j hj => (bb.2.2 j (by omega)).1) hi]
      have y := lcw_of (wgt (X (2 + 8)) (N 78).toNat) (N 78).toNat i hi
      exact Int.natAbs_dvd_natAbs.mp (by rw [Int.natAbs_natCast]; exact y)
    · rw [← itp_cg (P := X (2 + 8)) (Y := X (2 + 9)) (fun j hj => (bb.2.2 j (by omega)).1) (fun j hj => (bb.2.2 j (by omega)).2) _ (Nat.le_refl _)]
      exact hred.1 j hj
  have b5 : by0 V5 := fun x hx => by
    have y := of_decide_eq_true (List.all_eq_true.mp cq_bd2 x hx)
    rw [j2 x (by omega) (by omega) (by omega) (by omega) (by omega), i3 x (by omega) (by omega) (by omega) (by omega)]
    exact b0 x hx
  have d1 : DG X1 := fun p kp => by
    by_cases q : p = 20
    · subst q
      rw [i2, mK_z.1]
      have := fdg_le (itp (X (2 + 8)) (X (2 + 9)) (((lcw (wgt (X (2 + 8)) (N 78).toNat) (N 78).toNat).natAbs : Nat) : Int) (N 78).toNat (N 78).toNat) 13
      omega
    · rw [i4 p (by have := cK_13 kp; omega) q]
      exact d p kp
  have s1 : sBn X X1 := ⟨congrFun (i4 1 (by decide) (by decide)) 2, congrFun (i4 1 (by decide) (by decide)) 3, fun c hc => i4 c (by omega) (by omega)⟩
  refine mj_T.eq (pc2 := 114) (st2 := [.long (jl (((shg (pco V1 20) ((lcw (wgt (X (2 + 8)) (N 78).toNat) (N 78).toNat).natAbs) (fdg (itp (X (2 + 8)) (X (2 + 9)) (((lcw (wgt (X (2 + 8)) (N 78).toNat) (N 78).toNat).natAbs : Nat) : Int) (N 78).toNat (N 78).toNat) 13)) : Nat) : Int))]) ?_ rfl rfl rfl rfl
  refine mj_T.pl (loc' := [some (.ref 1), some (.int (jn to)), some (.long (jl (((lcw (wgt (X (2 + 8)) (N 78).toNat) (N 78).toNat).natAbs : Nat) : Int))), none, some (.long (jl (((shg (pco V1 20) ((lcw (wgt (X (2 + 8)) (N 78).toNat) (N 78).toNat).natAbs) (fdg (itp (X (2 + 8)) (X (2 + 9)) (((lcw (wgt (X (2 + 8)) (N 78).toNat) (N 78).toNat).natAbs : Nat) : Int) (N 78).toNat (N 78).toNat) 13)) : Nat) : Int))), none, none]) rfl rfl rfl rfl ?_
  refine mj_T.pl rfl rfl rfl rfl ?_
  refine mT_get m4 19 cq_d1 (by decide) rfl rfl ?_
  refine mT_get m4 11 cq_d19 (by decide) rfl rfl ?_
  refine mj_T.pl rfl rfl rfl rfl ?_
  refine mT_get m4 19 cq_d1 (by decide) rfl rfl ?_
  have hfi := pok_fit (V := V5) (p := 20) (m := 13) mK_z.1.symm (by decide) (fun e => if e < 13 then pco V5 20 e else 0) (fun i hi => by show _ = if i < 13 then pco V5 20 i else 0; rw [if_pos hi]; rfl) (fun i hi => if_neg (by omega))
  have hcl : pcl V5 20 := fun i hi => by
    rw [mK_z.1] at hi
    have y := jnl_B (hIb i) it_fit3
    have y2 : jnl (V5 (20 + 4 + 2 * i)).natAbs ≤ jnl ((itp (X (2 + 8)) (X (2 + 9)) (((lcw (wgt (X (2 + 8)) (N 78).toNat) (N 78).toNat).natAbs : Nat) : Int) (N 78).toNat (N 78).toNat) i).natAbs := by
      have e := hw5 i hi
      show jnl (pco V5 20 i).natAbs ≤ _
      rw [e, Int.natAbs_tdiv]
      exact jnl_mono (Nat.div_le_self _ _)
    omega
  refine mj_T.call rfl rfl (Nat.le_of_ble_eq_true rfl) (Nat.le_of_ble_eq_true rfl) (mV_of m4 13 cq_d20 (by decide) rfl (by decide) rfl _) rfl (mj_Ok.up (by omega) (mP_store (D := 0) m4 cq_d20 hcl cq_d481 (by rw [mK_z.1]; decide))) (fun v g42 hq => ?_) (fun i g42 hq => ?_)
  rotate_left
  · rcases hq with ⟨_, _, _, hq⟩ | ⟨_, hq⟩ <;> cases hq
  obtain ⟨y, X5, m5, hy, d5, s5, hq⟩ : ∃ (y : Int) (X5 : Nat → Nat → Int), jM g n V5 X5 g42 ∧ ((y = 1 ∧ sml (X5 481) ∧ itR N (X5 481) ((((lcw (wgt (X (2 + 8)) (N 78).toNat) (N 78).toNat).natAbs : Nat) : Int).tdiv (((shg (pco V1 20) ((lcw (wgt (X (2 + 8)) (N 78).toNat) (N 78).toNat).natAbs) (fdg (itp (X (2 + 8)) (X (2 + 9)) (((lcw (wgt (X (2 + 8)) (N 78).toNat) (N 78).toNat).natAbs : Nat) : Int) (N 78).toNat (N 78).toNat) 13)) : Nat) : Int))) ∨ (y = 0 ∧ ¬ sml (pco V5 20))) ∧ DG X5 ∧ sBn X X5 ∧ v = some (.int (jn y)) := by
    rcases hq with ⟨ho, h5, m5, hq⟩ | ⟨ho, hq⟩
    · cases hq
      have hx : ∀ j, j < 13 → pco V5 20 j = (xfl X1 481 (pco V5 20) 13) 481 j := fun j hj => (xfl_at _ _ _ hj).symm
      refine ⟨1, _, m5, Or.inl ⟨rfl, sml_cg hx (sml_cg (fun j hj => if_pos hj) (hfi.mp ho).1), hit.cg hx⟩, d1.of (fun p kp => xfl_off _ _ _ (by have := cK_13 kp; omega)), s1.tr (sBn.row (Or.inl rfl)), rfl⟩
    · cases hq
      exact ⟨0, X1, m4, Or.inr ⟨rfl, fun q => ho (hfi.mpr ⟨sml_cg (fun j hj => (if_pos hj).symm) q, fun i hi => if_neg (by omega)⟩)⟩, d1, s1, rfl⟩
  subst hq
  have hy2 : y = 0 ∨ y = 1 := by
    rcases hy with ⟨e, _⟩ | ⟨e, _⟩
    · exact Or.inr e
    · exact Or.inl e
  refine mj_T.eq (pc2 := 130) (st2 := [.int (jn y)]) ?_ rfl rfl rfl rfl
  refine mj_T.if0 (a := y) rfl ⟨by omega, by omega⟩ (fun c43 => ?_) (fun c43 => ?_)
  · simp only [jc, Bool.not_eq_true', Bool.not_eq_false', decide_eq_true_eq, decide_eq_false_iff_not] at c43
    have hok := hy.resolve_right (fun q => absurd q.1 (by omega))
    iterate 2 refine mj_T.pl rfl rfl rfl rfl ?_
    refine mj_T.call rfl rfl (Nat.le_of_ble_eq_true rfl) (Nat.le_of_ble_eq_true rfl) (mV_of m5 19 cq_d1 (by decide) rfl (by decide) rfl _) rfl (mj_Ok.up (by omega) (mX_keep (D := 0) A m5 b5 d5 (c.sb s5) kto hok.2.1)) (fun v g44 hq => ?_) (fun i g44 hq => ?_)
    rotate_left
    · obtain ⟨_, _, hq⟩ := hq; cases hq
    obtain ⟨_, cs, hq⟩ := hq
    cases hq
    refine mj_T.eq (pc2 := 146) (st2 := [.int (jn ((fdg (X5 481) 13 : Int) - 1))]) ?_ rfl rfl rfl rfl
    iterate 2 refine mj_T.pl rfl rfl rfl rfl ?_
    refine jT.lc 0 rfl rfl ?_
    refine mj_T.lif (a := (((shg (pco V1 20) ((lcw (wgt (X (2 + 8)) (N 78).toNat) (N 78).toNat).natAbs) (fdg (itp (X (2 + 8)) (X (2 + 9)) (((lcw (wgt (X (2 + 8)) (N 78).toNat) (N 78).toNat).natAbs : Nat) : Int) (N 78).toNat (N 78).toNat) 13)) : Nat) : Int)) (b := ((0 : Nat) : Int)) rfl rfl ⟨by omega, by omega⟩ ⟨by omega, by omega⟩ (fun c45 => ?_) (fun c45 => ?_)
    · simp only [jc, Bool.not_eq_true', Bool.not_eq_false', decide_eq_true_eq, decide_eq_false_iff_not] at c45
      iterate 2 refine mj_T.pl rfl rfl rfl rfl ?_
      refine mj_T.ldiv rfl ⟨by omega, by omega⟩ ⟨by omega, by omega⟩ (by omega) ?_
      exact mj_T.ret rfl rfl rfl (Or.inl ⟨kto, _, _, _, hok.2.2, hok.2.1, cs, rfl⟩)
    · exfalso
      simp only [jc, Bool.not_eq_true', Bool.not_eq_false', decide_eq_true_eq, decide_eq_false_iff_not] at c45
      omega
  · simp only [jc, Bool.not_eq_true', Bool.not_eq_false', decide_eq_true_eq, decide_eq_false_iff_not] at c43
    have hbad := hy.resolve_left (fun q => absurd q.1 (by omega))
    exact mj_T.throws rfl rfl rfl (Nat.le_of_ble_eq_true rfl) (Or.inr ⟨_, _, Or.inr ⟨kto, ⟨_, _, hit, hbad.2⟩, rfl⟩, cS.thr hg m5 b5 d5 (c.sb s5), rfl⟩)
end MI2
/-! The class: calls that write nothing leave the benches. -/
/-- a normal end leaves the heap, a thrown exception is one cell more -/
def jQe (h : mj_H) (exc : List Nat) (V : Option Value → Prop) (r : mj_R) : Prop := match r.1 with
  | .inl v => V v ∧ r.2 = h
  | .inr i => i ∈ exc ∧ r.2 = h ++ [xE]
section JQE
variable {K L : Nat → Nat} {R : Nat → Nat → Nat} {g h : mj_H} {n D pc r1 r2 r3 r4 r5 : Nat} {tm : Int} {M : mj_M} {loc : mj_L} {st : List Value}
theorem jT.thre {exc : List Nat} {V : Option Value → Prop} {ins : Instr} (_o : jO K L R g n tm h) (_hg : g.length ≤ n) (hc : M.2.2.2.2.1 pc = some (ins, r1, r2, r3, r4, r5)) (hk : mj_kind ins r3 = 2) (hh : M.2.2.2.2.2.1 = []) (hs : mj_cat st ≤ 8) (he : exc.contains r1 = true) : mj_T D M pc loc st h (jQe h exc V) := mj_T.throws hc hk hh hs ⟨List.contains_iff_mem.mp he, rfl⟩
theorem jT.calle {V : Option Value → Prop} {A exc : List Nat} {ins : Instr} {as : List Value} {V' : Option Value → Prop} (hc : M.2.2.2.2.1 pc = some (ins, r1, r2, r3, r4, r5)) (hk : mj_kind ins r3 = 3) (hl : r2 ≤ st.length) (hcat : mj_cat (st.drop r2) ≤ 8) (hr : mj_recv ins r2 r5 st h = true) (has : (st.take r2).reverse = as) (hcall : mj_Ok D r1 as h (jQe h A V)) (hM : M.2.2.2.2.2.1 = []) (hs : (A.all fun i => exc.contains i) = true) (q : ∀ v, V v → mj_T D M (pc + 3) loc (v.toList ++ st.drop r2) h (jQe h exc V')) : mj_T D M pc loc st h (jQe h exc V') :=
  mj_T.call hc hk hl hcat hr has hcall (fun v h' hq => by
    obtain ⟨h1, h2⟩ := hq
    have h2 : h' = h := h2
    subst h2
    exact q v h1) (fun i h' hq => Or.inl ⟨hM, jsub hs hq.1, hq.2⟩)
theorem jT.calle0 {V : Option Value → Prop} {A exc : List Nat} {ins : Instr} {as : List Value} {V' : Option Value → Prop} (hc : M.2.2.2.2.1 pc = some (ins, r1, r2, r3, r4, r5)) (hk : mj_kind ins r3 = 3) (hl : r2 ≤ st.length) (hcat : mj_cat (st.drop r2) ≤ 8) (hr : mj_recv ins r2 r5 st h = true) (has : (st.take r2).reverse = as) (hcall : mj_Ok D r1 as h (jQp K L R g n tm h [] V)) (_hM : M.2.2.2.2.2.1 = []) (_hs : (A.all fun i => exc.contains i) = true) (q : ∀ v, V v → mj_T D M (pc + 3) loc (v.toList ++ st.drop r2) h (jQe h exc V')) : mj_T D M pc loc st h (jQe h exc V') :=
  mj_T.call hc hk hl hcat hr has hcall (fun v h' hq => by
    obtain ⟨h1, h2⟩ := hq
    have h2 : h' = h := h2
    subst h2
    exact q v h1) (fun i h' hq => absurd hq.1 (by intro y; cases y))
theorem jT.rete {w : Option Value} {exc : List Nat} {V : Option Value → Prop} {ins : Instr} (hc : M.2.2.2.2.1 pc = some (ins, r1, r2, r3, r4, r5)) (hk : mj_kind ins r3 = 1) (hr : mj_retv ins M.2.2.2.1 st = some w) (q : V w) : mj_T D M pc loc st h (jQe h exc V) := mj_T.ret hc hk hr ⟨q, rfl⟩
theorem jT.retbe {exc : List Nat} {x : Int} (hc : M.2.2.2.2.1 pc = some (.ireturn, r1, r2, r3, r4, r5)) (hret : M.2.2.2.1 = some .boolean) (h0 : 0 ≤ x) (h1 : x ≤ 1) : mj_T D M pc loc [.int (jn x)] h (jQe h exc (jVi 0 1)) := by
  refine mj_T.ret hc rfl (v := some (.int (jn x))) ?_ ⟨⟨x, h0, h1, rfl⟩, rfl⟩
  have : x = 0 ∨ x = 1 := by omega
  simp only [mj_retv, hret]
  rcases this with q | q
  · subst q; rfl
  · subst q; rfl
end JQE
theorem je_149 {D n : Nat} {tm : Int} {h g : mj_H} {K L : Nat → Nat} {R : Nat → Nat → Nat} {p0 : Nat} {p1 : Int} (ty : jTY K L R) (hg : g.length ≤ n) (o : jO K L R g n tm h) (kp0 : K p0 = 19) (rp1 : -2147483648 ≤ p1 ∧ p1 ≤ 2147483647) : mj_Ok (D + 1) 149 [.ref p0, .int (jn p1)] h (jQe h [0] (jVr K 2)) := by
  refine mj_Ok.of (M := mj_m149) (loc := [some (.ref p0), some (.int (jn p1))]) rfl rfl rfl ?_
  refine mj_T.pl rfl rfl rfl rfl ?_
  refine jT.if0 rfl rp1 (fun c1 => ?_) (fun c1 => ?_)
  · have c1 := of_decide_eq_true c1
    exact jT.thre o hg rfl rfl rfl (Nat.le_of_ble_eq_true rfl) rfl
  · have c1 := of_decide_eq_false c1
    iterate 2 refine mj_T.pl rfl rfl rfl rfl ?_
    refine jT.getR 19 110 10 ty o rfl kp0 (by decide) rfl rfl rfl (fun k1 => ?_)
    refine jT.getR 10 106 6 ty o rfl k1 (by decide) rfl rfl rfl (fun k2 => ?_)
    refine jT.alen 6 ty o rfl k2 (by decide) (by decide) (fun z3 ez3 (az3 : 6 ≤ z3) (bz3 : z3 ≤ 9) => ?_)
    have rz3 : -2147483648 ≤ z3 ∧ z3 ≤ 2147483647 := ⟨by omega, by omega⟩
    refine jT.icmp rfl rp1 rz3 (fun c13 => ?_) (fun c13 => ?_)
    · have c13 := of_decide_eq_true c13
      refine mj_T.pl rfl rfl rfl rfl ?_
      refine jT.getR 19 110 10 ty o rfl kp0 (by decide) rfl rfl rfl (fun k4 => ?_)
      refine jT.getR 10 106 6 ty o rfl k4 (by decide) rfl rfl rfl (fun k5 => ?_)
      refine mj_T.pl rfl rfl rfl rfl ?_
      refine jT.aald 6 2 ty o rfl k5 (by decide) (by decide) rfl rp1 ⟨by omega, by omega⟩ (fun k6 => ?_)
      exact jT.rete rfl rfl rfl ⟨(R (R (R p0 0) 0) (p1 : Int).toNat), k6, rfl⟩
    · have c13 := of_decide_eq_false c13
      exact jT.thre o hg rfl rfl rfl (Nat.le_of_ble_eq_true rfl) rfl
theorem je_150 {D n : Nat} {tm : Int} {h g : mj_H} {K L : Nat → Nat} {R : Nat → Nat → Nat} {p0 : Int} (ty : jTY K L R) (hg : g.length ≤ n) (o : jO K L R g n tm h) (rp0 : -2147483648 ≤ p0 ∧ p0 ≤ 2147483647) : mj_Ok (D + 1) 150 [.int (jn p0)] h (jQe h [2] (jVp (0 ≤ p0 ∧ p0 ≤ 12))) := by
  refine mj_Ok.of (M := mj_m150) (loc := [some (.int (jn p0))]) rfl rfl rfl ?_
  refine mj_T.pl rfl rfl rfl rfl ?_
  refine jT.if0 rfl rp0 (fun c1 => ?_) (fun c1 => ?_)
  · have c1 := of_decide_eq_true c1
    exact jT.thre o hg rfl rfl rfl (Nat.le_of_ble_eq_true rfl) rfl
  · have c1 := of_decide_eq_false c1
    iterate 2 refine mj_T.pl rfl rfl rfl rfl ?_
    refine jT.icmp rfl rp0 ⟨by decide, by decide⟩ (fun c7 => ?_) (fun c7 => ?_)
    · have c7 := of_decide_eq_true c7
      exact jT.rete rfl rfl rfl ⟨rfl, by omega⟩
    · have c7 := of_decide_eq_false c7
      exact jT.thre o hg rfl rfl rfl (Nat.le_of_ble_eq_true rfl) rfl
theorem je_152 {D n : Nat} {tm : Int} {h g : mj_H} {K L : Nat → Nat} {R : Nat → Nat → Nat} {p0 : Int} (ty : jTY K L R) (hg : g.length ≤ n) (o : jO K L R g n tm h) (rp0 : -2147483648 ≤ p0 ∧ p0 ≤ 2147483647) : mj_Ok (D + 1) 152 [.int (jn p0)] h (jQe h [2] jV0) := by
  refine mj_Ok.of (M := mj_m152) (loc := [some (.int (jn p0)), none, none]) rfl rfl rfl ?_
  iterate 2 refine mj_T.pl rfl rfl rfl rfl ?_
  refine jT.icmp rfl rp0 ⟨by decide, by decide⟩ (fun c2 => ?_) (fun c2 => ?_)
  · have c2 := of_decide_eq_true c2
    refine mj_T.pl rfl rfl rfl rfl ?_
    refine mj_T.pl (loc' := [some (.int (jn p0)), some (.int (jn 0)), none]) rfl rfl rfl rfl ?_
    refine mj_T.pl rfl rfl rfl rfl ?_
    refine mj_T.pl (loc' := [some (.int (jn p0)), some (.int (jn 0)), some (.int (jn 2))]) rfl rfl rfl rfl ?_
    have t19_3 : ∀ (k4 : Nat) (x1 : Int) (x2 : Int), (0 ≤ x1 ∧ x1 ≤ 1) → (-2147483648 ≤ x2 ∧ x2 ≤ 2147483647) → (2 ≤ x2) → (2 ≤ x2 ∧ x2 ≤ 10) → (2147483647 - x2 : Int).toNat = k4 → mj_T (D + 0) mj_m152 19 [some (.int (jn p0)), some (.int (jn x1)), some (.int (jn x2))] [] h (jQe h [2] jV0) := by
      refine jInd (fun k4 ih5 => ?_)
      intro x1 x2 ax1 rx2 ix2 ivx2 hm6
      have rx1 : -2147483648 ≤ x1 ∧ x1 ≤ 2147483647 := ⟨by omega, by omega⟩
      refine mj_T.pl rfl rfl rfl rfl ?_
      refine mj_T.pl rfl rfl rfl rfl ?_
      refine jT.imul rfl (fun z7 rz7 ez7 => ?_)
      replace ez7 := jsq ivx2 ez7
      refine mj_T.pl rfl rfl rfl rfl ?_
      refine jT.icmp rfl rz7 ⟨by decide, by decide⟩ (fun c24 => ?_) (fun c24 => ?_)
      · have c24 := of_decide_eq_true c24
        refine mj_T.pl rfl rfl rfl rfl ?_
        refine jT.if0 rfl rx1 (fun c55 => ?_) (fun c55 => ?_)
        · have c55 := jne1 c55
          exact jT.rete rfl rfl rfl rfl
        · have c55 := jne2 c55
          exact jT.thre o hg rfl rfl rfl (Nat.le_of_ble_eq_true rfl) rfl
      · have c24 := of_decide_eq_false c24
        refine mj_T.pl rfl rfl rfl rfl ?_
        refine jT.if0 rfl rx1 (fun c28 => ?_) (fun c28 => ?_)
        · have c28 := of_decide_eq_true c28
          refine mj_T.pl rfl rfl rfl rfl ?_
          refine mj_T.pl (loc' := [some (.int (jn p0)), some (.int (jn 0)), some (.int (jn x2))]) rfl rfl rfl rfl ?_
          refine jT.iinc rfl rfl (fun z8 rz8 ez8 => ?_)
          replace ez8 := ez8 ⟨by omega, by omega⟩
          refine mj_T.eq (loc2 := [some (.int (jn p0)), some (.int (jn 0)), some (.int (jn z8))]) ?_ rfl rfl rfl rfl
          refine mj_T.pl rfl rfl rfl rfl ?_
          exact ih5 ((2147483647 - z8 : Int).toNat) (by omega) 0 z8 ⟨by omega, by omega⟩ rz8 (by omega) (by omega) rfl
        · have c28 := of_decide_eq_false c28
          iterate 2 refine mj_T.pl rfl rfl rfl rfl ?_
          refine jT.icmp rfl rp0 rx2 (fun c33 => ?_) (fun c33 => ?_)
          · have c33 := of_decide_eq_true c33
            iterate 2 refine mj_T.pl rfl rfl rfl rfl ?_
            refine mj_T.pl (loc' := [some (.int (jn p0)), some (.int (jn 1)), some (.int (jn x2))]) rfl rfl rfl rfl ?_
            refine jT.iinc rfl rfl (fun z9 rz9 ez9 => ?_)
            replace ez9 := ez9 ⟨by omega, by omega⟩
            refine mj_T.eq (loc2 := [some (.int (jn p0)), some (.int (jn 1)), some (.int (jn z9))]) ?_ rfl rfl rfl rfl
            refine mj_T.pl rfl rfl rfl rfl ?_
            exact ih5 ((2147483647 - z9 : Int).toNat) (by omega) 1 z9 ⟨by omega, by omega⟩ rz9 (by omega) (by omega) rfl
          · have c33 := of_decide_eq_false c33
            iterate 2 refine mj_T.pl rfl rfl rfl rfl ?_
            refine jT.irem rfl rx2 (by omega) (fun z10 rz10 => ?_)
            refine jT.if0 rfl rz10 (fun c39 => ?_) (fun c39 => ?_)
            · have c39 := of_decide_eq_true c39
              refine mj_T.pl rfl rfl rfl rfl ?_
              refine mj_T.pl (loc' := [some (.int (jn p0)), some (.int (jn 0)), some (.int (jn x2))]) rfl rfl rfl rfl ?_
              refine jT.iinc rfl rfl (fun z11 rz11 ez11 => ?_)
              replace ez11 := ez11 ⟨by omega, by omega⟩
              refine mj_T.eq (loc2 := [some (.int (jn p0)), some (.int (jn 0)), some (.int (jn z11))]) ?_ rfl rfl rfl rfl
              refine mj_T.pl rfl rfl rfl rfl ?_
              exact ih5 ((2147483647 - z11 : Int).toNat) (by omega) 0 z11 ⟨by omega, by omega⟩ rz11 (by omega) (by omega) rfl
            · have c39 := of_decide_eq_false c39
              iterate 2 refine mj_T.pl rfl rfl rfl rfl ?_
              refine mj_T.pl (loc' := [some (.int (jn p0)), some (.int (jn 1)), some (.int (jn x2))]) rfl rfl rfl rfl ?_
              refine jT.iinc rfl rfl (fun z12 rz12 ez12 => ?_)
              replace ez12 := ez12 ⟨by omega, by omega⟩
              refine mj_T.eq (loc2 := [some (.int (jn p0)), some (.int (jn 1)), some (.int (jn z12))]) ?_ rfl rfl rfl rfl
              refine mj_T.pl rfl rfl rfl rfl ?_
              exact ih5 ((2147483647 - z12 : Int).toNat) (by omega) 1 z12 ⟨by omega, by omega⟩ rz12 (by omega) (by omega) rfl
    exact t19_3 _ 0 2 ⟨by omega, by omega⟩ ⟨by decide, by decide⟩ (by omega) (by omega) rfl
  · have c2 := of_decide_eq_false c2
    iterate 2 refine mj_T.pl rfl rfl rfl rfl ?_
    refine jT.icmp rfl rp0 ⟨by decide, by decide⟩ (fun c8 => ?_) (fun c8 => ?_)
    · have c8 := of_decide_eq_true c8
      refine mj_T.pl rfl rfl rfl rfl ?_
      refine mj_T.pl (loc' := [some (.int (jn p0)), some (.int (jn 0)), none]) rfl rfl rfl rfl ?_
      refine mj_T.pl rfl rfl rfl rfl ?_
      refine mj_T.pl (loc' := [some (.int (jn p0)), some (.int (jn 0)), some (.int (jn 2))]) rfl rfl rfl rfl ?_
      have t19_15 : ∀ (k16 : Nat) (x13 : Int) (x14 : Int), (0 ≤ x13 ∧ x13 ≤ 1) → (-2147483648 ≤ x14 ∧ x14 ≤ 2147483647) → (2 ≤ x14) → (2 ≤ x14 ∧ x14 ≤ 10) → (2147483647 - x14 : Int).toNat = k16 → mj_T (D + 0) mj_m152 19 [some (.int (jn p0)), some (.int (jn x13)), some (.int (jn x14))] [] h (jQe h [2] jV0) := by
        refine jInd (fun k16 ih17 => ?_)
        intro x13 x14 ax13 rx14 ix14 ivx14 hm18
        have rx13 : -2147483648 ≤ x13 ∧ x13 ≤ 2147483647 := ⟨by omega, by omega⟩
        refine mj_T.pl rfl rfl rfl rfl ?_
        refine mj_T.pl rfl rfl rfl rfl ?_
        refine jT.imul rfl (fun z19 rz19 ez19 => ?_)
        replace ez19 := jsq ivx14 ez19
        refine mj_T.pl rfl rfl rfl rfl ?_
        refine jT.icmp rfl rz19 ⟨by decide, by decide⟩ (fun c24 => ?_) (fun c24 => ?_)
        · have c24 := of_decide_eq_true c24
          refine mj_T.pl rfl rfl rfl rfl ?_
          refine jT.if0 rfl rx13 (fun c55 => ?_) (fun c55 => ?_)
          · have c55 := jne1 c55
            exact jT.rete rfl rfl rfl rfl
          · have c55 := jne2 c55
            exact jT.thre o hg rfl rfl rfl (Nat.le_of_ble_eq_true rfl) rfl
        · have c24 := of_decide_eq_false c24
          refine mj_T.pl rfl rfl rfl rfl ?_
          refine jT.if0 rfl rx13 (fun c28 => ?_) (fun c28 => ?_)
          · have c28 := of_decide_eq_true c28
            refine mj_T.pl rfl rfl rfl rfl ?_
            refine mj_T.pl (loc' := [some (.int (jn p0)), some (.int (jn 0)), some (.int (jn x14))]) rfl rfl rfl rfl ?_
            refine jT.iinc rfl rfl (fun z20 rz20 ez20 => ?_)
            replace ez20 := ez20 ⟨by omega, by omega⟩
            refine mj_T.eq (loc2 := [some (.int (jn p0)), some (.int (jn 0)), some (.int (jn z20))]) ?_ rfl rfl rfl rfl
            refine mj_T.pl rfl rfl rfl rfl ?_
            exact ih17 ((2147483647 - z20 : Int).toNat) (by omega) 0 z20 ⟨by omega, by omega⟩ rz20 (by omega) (by omega) rfl
          · have c28 := of_decide_eq_false c28
            iterate 2 refine mj_T.pl rfl rfl rfl rfl ?_
            refine jT.icmp rfl rp0 rx14 (fun c33 => ?_) (fun c33 => ?_)
            · have c33 := of_decide_eq_true c33
              iterate 2 refine mj_T.pl rfl rfl rfl rfl ?_
              refine mj_T.pl (loc' := [some (.int (jn p0)), some (.int (jn 1)), some (.int (jn x14))]) rfl rfl rfl rfl ?_
              refine jT.iinc rfl rfl (fun z21 rz21 ez21 => ?_)
              replace ez21 := ez21 ⟨by omega, by omega⟩
              refine mj_T.eq (loc2 := [some (.int (jn p0)), some (.int (jn 1)), some (.int (jn z21))]) ?_ rfl rfl rfl rfl
              refine mj_T.pl rfl rfl rfl rfl ?_
              exact ih17 ((2147483647 - z21 : Int).toNat) (by omega) 1 z21 ⟨by omega, by omega⟩ rz21 (by omega) (by omega) rfl
            · have c33 := of_decide_eq_false c33
              iterate 2 refine mj_T.pl rfl rfl rfl rfl ?_
              refine jT.irem rfl rx14 (by omega) (fun z22 rz22 => ?_)
              refine jT.if0 rfl rz22 (fun c39 => ?_) (fun c39 => ?_)
              · have c39 := of_decide_eq_true c39
                refine mj_T.pl rfl rfl rfl rfl ?_
                refine mj_T.pl (loc' := [some (.int (jn p0)), some (.int (jn 0)), some (.int (jn x14))]) rfl rfl rfl rfl ?_
                refine jT.iinc rfl rfl (fun z23 rz23 ez23 => ?_)
                replace ez23 := ez23 ⟨by omega, by omega⟩
                refine mj_T.eq (loc2 := [some (.int (jn p0)), some (.int (jn 0)), some (.int (jn z23))]) ?_ rfl rfl rfl rfl
                refine mj_T.pl rfl rfl rfl rfl ?_
                exact ih17 ((2147483647 - z23 : Int).toNat) (by omega) 0 z23 ⟨by omega, by omega⟩ rz23 (by omega) (by omega) rfl
              · have c39 := of_decide_eq_false c39
                iterate 2 refine mj_T.pl rfl rfl rfl rfl ?_
                refine mj_T.pl (loc' := [some (.int (jn p0)), some (.int (jn 1)), some (.int (jn x14))]) rfl rfl rfl rfl ?_
                refine jT.iinc rfl rfl (fun z24 rz24 ez24 => ?_)
                replace ez24 := ez24 ⟨by omega, by omega⟩
                refine mj_T.eq (loc2 := [some (.int (jn p0)), some (.int (jn 1)), some (.int (jn z24))]) ?_ rfl rfl rfl rfl
                refine mj_T.pl rfl rfl rfl rfl ?_
                exact ih17 ((2147483647 - z24 : Int).toNat) (by omega) 1 z24 ⟨by omega, by omega⟩ rz24 (by omega) (by omega) rfl
      exact t19_15 _ 0 2 ⟨by omega, by omega⟩ ⟨by decide, by decide⟩ (by omega) (by omega) rfl
    · have c8 := of_decide_eq_false c8
      iterate 2 refine mj_T.pl rfl rfl rfl rfl ?_
      refine mj_T.pl (loc' := [some (.int (jn p0)), some (.int (jn 1)), none]) rfl rfl rfl rfl ?_
      refine mj_T.pl rfl rfl rfl rfl ?_
      refine mj_T.pl (loc' := [some (.int (jn p0)), some (.int (jn 1)), some (.int (jn 2))]) rfl rfl rfl rfl ?_
      have t19_27 : ∀ (k28 : Nat) (x25 : Int) (x26 : Int), (0 ≤ x25 ∧ x25 ≤ 1) → (-2147483648 ≤ x26 ∧ x26 ≤ 2147483647) → (2 ≤ x26) → (2 ≤ x26 ∧ x26 ≤ 10) → (2147483647 - x26 : Int).toNat = k28 → mj_T (D + 0) mj_m152 19 [some (.int (jn p0)), some (.int (jn x25)), some (.int (jn x26))] [] h (jQe h [2] jV0) := by
        refine jInd (fun k28 ih29 => ?_)
        intro x25 x26 ax25 rx26 ix26 ivx26 hm30
        have rx25 : -2147483648 ≤ x25 ∧ x25 ≤ 2147483647 := ⟨by omega, by omega⟩
        refine mj_T.pl rfl rfl rfl rfl ?_
        refine mj_T.pl rfl rfl rfl rfl ?_
        refine jT.imul rfl (fun z31 rz31 ez31 => ?_)
        replace ez31 := jsq ivx26 ez31
        refine mj_T.pl rfl rfl rfl rfl ?_
        refine jT.icmp rfl rz31 ⟨by decide, by decide⟩ (fun c24 => ?_) (fun c24 => ?_)
        · have c24 := of_decide_eq_true c24
          refine mj_T.pl rfl rfl rfl rfl ?_
          refine jT.if0 rfl rx25 (fun c55 => ?_) (fun c55 => ?_)
          · have c55 := jne1 c55
            exact jT.rete rfl rfl rfl rfl
          · have c55 := jne2 c55
            exact jT.thre o hg rfl rfl rfl (Nat.le_of_ble_eq_true rfl) rfl
        · have c24 := of_decide_eq_false c24
          refine mj_T.pl rfl rfl rfl rfl ?_
          refine jT.if0 rfl rx25 (fun c28 => ?_) (fun c28 => ?_)
          · have c28 := of_decide_eq_true c28
            refine mj_T.pl rfl rfl rfl rfl ?_
            refine mj_T.pl (loc' := [some (.int (jn p0)), some (.int (jn 0)), some (.int (jn x26))]) rfl rfl rfl rfl ?_
            refine jT.iinc rfl rfl (fun z32 rz32 ez32 => ?_)
            replace ez32 := ez32 ⟨by omega, by omega⟩
            refine mj_T.eq (loc2 := [some (.int (jn p0)), some (.int (jn 0)), some (.int (jn z32))]) ?_ rfl rfl rfl rfl
            refine mj_T.pl rfl rfl rfl rfl ?_
            exact ih29 ((2147483647 - z32 : Int).toNat) (by omega) 0 z32 ⟨by omega, by omega⟩ rz32 (by omega) (by omega) rfl
          · have c28 := of_decide_eq_false c28
            iterate 2 refine mj_T.pl rfl rfl rfl rfl ?_
            refine jT.icmp rfl rp0 rx26 (fun c33 => ?_) (fun c33 => ?_)
            · have c33 := of_decide_eq_true c33
              iterate 2 refine mj_T.pl rfl rfl rfl rfl ?_
              refine mj_T.pl (loc' := [some (.int (jn p0)), some (.int (jn 1)), some (.int (jn x26))]) rfl rfl rfl rfl ?_
              refine jT.iinc rfl rfl (fun z33 rz33 ez33 => ?_)
              replace ez33 := ez33 ⟨by omega, by omega⟩
              refine mj_T.eq (loc2 := [some (.int (jn p0)), some (.int (jn 1)), some (.int (jn z33))]) ?_ rfl rfl rfl rfl
              refine mj_T.pl rfl rfl rfl rfl ?_
              exact ih29 ((2147483647 - z33 : Int).toNat) (by omega) 1 z33 ⟨by omega, by omega⟩ rz33 (by omega) (by omega) rfl
            · have c33 := of_decide_eq_false c33
              iterate 2 refine mj_T.pl rfl rfl rfl rfl ?_
              refine jT.irem rfl rx26 (by omega) (fun z34 rz34 => ?_)
              refine jT.if0 rfl rz34 (fun c39 => ?_) (fun c39 => ?_)
              · have c39 := of_decide_eq_true c39
                refine mj_T.pl rfl rfl rfl rfl ?_
                refine mj_T.pl (loc' := [some (.int (jn p0)), some (.int (jn 0)), some (.int (jn x26))]) rfl rfl rfl rfl ?_
                refine jT.iinc rfl rfl (fun z35 rz35 ez35 => ?_)
                replace ez35 := ez35 ⟨by omega, by omega⟩
                refine mj_T.eq (loc2 := [some (.int (jn p0)), some (.int (jn 0)), some (.int (jn z35))]) ?_ rfl rfl rfl rfl
                refine mj_T.pl rfl rfl rfl rfl ?_
                exact ih29 ((2147483647 - z35 : Int).toNat) (by omega) 0 z35 ⟨by omega, by omega⟩ rz35 (by omega) (by omega) rfl
              · have c39 := of_decide_eq_false c39
                iterate 2 refine mj_T.pl rfl rfl rfl rfl ?_
                refine mj_T.pl (loc' := [some (.int (jn p0)), some (.int (jn 1)), some (.int (jn x26))]) rfl rfl rfl rfl ?_
                refine jT.iinc rfl rfl (fun z36 rz36 ez36 => ?_)
                replace ez36 := ez36 ⟨by omega, by omega⟩
                refine mj_T.eq (loc2 := [some (.int (jn p0)), some (.int (jn 1)), some (.int (jn z36))]) ?_ rfl rfl rfl rfl
                refine mj_T.pl rfl rfl rfl rfl ?_
                exact ih29 ((2147483647 - z36 : Int).toNat) (by omega) 1 z36 ⟨by omega, by omega⟩ rz36 (by omega) (by omega) rfl
      exact t19_27 _ 1 2 ⟨by omega, by omega⟩ ⟨by decide, by decide⟩ (by omega) (by omega) rfl
theorem je_119 {D n : Nat} {tm : Int} {h g : mj_H} {K L : Nat → Nat} {R : Nat → Nat → Nat} {p0 : Nat} {p1 : Int} (ty : jTY K L R) (hg : g.length ≤ n) (o : jO K L R g n tm h) (kp0 : K p0 = 19) (rp1 : -2147483648 ≤ p1 ∧ p1 ≤ 2147483647) : mj_Ok (D + 2) 119 [.ref p0, .int (jn p1)] h (jQe h [0] (jVi (-2147483648) 2147483647)) := by
  refine mj_Ok.of (M := mj_m119) (loc := [some (.ref p0), some (.int (jn p1))]) rfl rfl rfl ?_
  iterate 2 refine mj_T.pl rfl rfl rfl rfl ?_
  refine jT.calle rfl rfl (Nat.le_of_ble_eq_true rfl) (Nat.le_of_ble_eq_true rfl) (jrv_of o kp0 (by decide) rfl (by decide) rfl _) rfl (mj_Ok.up (Nat.add_le_add_left (by decide) D) (je_149 (D := D) ty hg o kp0 rp1)) rfl rfl (fun v1 qv1 => ?_)
  obtain ⟨a2, ka2, rfl⟩ := qv1
  refine mj_T.eq (pc2 := 5) (st2 := [.ref a2]) ?_ rfl rfl rfl rfl
  refine jT.calle0 (A := []) rfl rfl (Nat.le_of_ble_eq_true rfl) (Nat.le_of_ble_eq_true rfl) rfl rfl (mj_Ok.up (Nat.add_le_add_left (by decide) D) (jc_162 (D := D) ty hg o ka2)) rfl rfl (fun v3 qv3 => ?_)
  obtain ⟨z4, az4, bz4, rfl⟩ := qv3
  have rz4 : -2147483648 ≤ z4 ∧ z4 ≤ 2147483647 := ⟨by omega, by omega⟩
  refine mj_T.eq (pc2 := 8) (st2 := [.int (jn z4)]) ?_ rfl rfl rfl rfl
  exact jT.rete rfl rfl rfl ⟨z4, by omega, by omega, rfl⟩
theorem je_120 {D n : Nat} {tm : Int} {h g : mj_H} {K L : Nat → Nat} {R : Nat → Nat → Nat} {p0 : Nat} {p1 : Int} (ty : jTY K L R) (hg : g.length ≤ n) (o : jO K L R g n tm h) (kp0 : K p0 = 19) (rp1 : -2147483648 ≤ p1 ∧ p1 ≤ 2147483647) : mj_Ok (D + 2) 120 [.ref p0, .int (jn p1)] h (jQe h [0] (jVi (-2147483648) 2147483647)) := by
  refine mj_Ok.of (M := mj_m120) (loc := [some (.ref p0), some (.int (jn p1))]) rfl rfl rfl ?_
  iterate 2 refine mj_T.pl rfl rfl rfl rfl ?_
  refine jT.calle rfl rfl (Nat.le_of_ble_eq_true rfl) (Nat.le_of_ble_eq_true rfl) (jrv_of o kp0 (by decide) rfl (by decide) rfl _) rfl (mj_Ok.up (Nat.add_le_add_left (by decide) D) (je_149 (D := D) ty hg o kp0 rp1)) rfl rfl (fun v1 qv1 => ?_)
  obtain ⟨a2, ka2, rfl⟩ := qv1
  refine mj_T.eq (pc2 := 5) (st2 := [.ref a2]) ?_ rfl rfl rfl rfl
  refine jT.calle0 (A := []) rfl rfl (Nat.le_of_ble_eq_true rfl) (Nat.le_of_ble_eq_true rfl) rfl rfl (mj_Ok.up (Nat.add_le_add_left (by decide) D) (jc_163 (D := D) ty hg o ka2)) rfl rfl (fun v3 qv3 => ?_)
  obtain ⟨z4, az4, bz4, rfl⟩ := qv3
  have rz4 : -2147483648 ≤ z4 ∧ z4 ≤ 2147483647 := ⟨by omega, by omega⟩
  refine mj_T.eq (pc2 := 8) (st2 := [.int (jn z4)]) ?_ rfl rfl rfl rfl
  exact jT.rete rfl rfl rfl ⟨z4, by omega, by omega, rfl⟩
theorem je_121 {D n : Nat} {tm : Int} {h g : mj_H} {K L : Nat → Nat} {R : Nat → Nat → Nat} {p0 : Nat} {p1 : Int} {p2 : Int} (ty : jTY K L R) (hg : g.length ≤ n) (o : jO K L R g n tm h) (kp0 : K p0 = 19) (rp1 : -2147483648 ≤ p1 ∧ p1 ≤ 2147483647) (rp2 : -2147483648 ≤ p2 ∧ p2 ≤ 2147483647) : mj_Ok (D + 2) 121 [.ref p0, .int (jn p1), .int (jn p2)] h (jQe h [0] (jVi (-2147483648) 2147483647)) := by
  refine mj_Ok.of (M := mj_m121) (loc := [some (.ref p0), some (.int (jn p1)), some (.int (jn p2)), none, none, none]) rfl rfl rfl ?_
  iterate 2 refine mj_T.pl rfl rfl rfl rfl ?_
  refine jT.calle rfl rfl (Nat.le_of_ble_eq_true rfl) (Nat.le_of_ble_eq_true rfl) (jrv_of o kp0 (by decide) rfl (by decide) rfl _) rfl (mj_Ok.up (Nat.add_le_add_left (by decide) D) (je_149 (D := D) ty hg o kp0 rp1)) rfl rfl (fun v1 qv1 => ?_)
  obtain ⟨a2, ka2, rfl⟩ := qv1
  refine mj_T.eq (pc2 := 5) (st2 := [.ref a2]) ?_ rfl rfl rfl rfl
  refine mj_T.pl (loc' := [some (.ref p0), some (.int (jn p1)), some (.int (jn p2)), some (.ref a2), none, none]) rfl rfl rfl rfl ?_
  refine mj_T.pl rfl rfl rfl rfl ?_
  refine mj_T.pl (loc' := [some (.ref p0), some (.int (jn p1)), some (.int (jn p2)), some (.ref a2), some (.int (jn p2)), none]) rfl rfl rfl rfl ?_
  refine mj_T.pl rfl rfl rfl rfl ?_
  refine jT.alen 2 ty o rfl ka2 (by decide) (by decide) (fun z3 ez3 (az3 : 13 ≤ z3) (bz3 : z3 ≤ 13) => ?_)
  have rz3 : -2147483648 ≤ z3 ∧ z3 ≤ 2147483647 := ⟨by omega, by omega⟩
  refine mj_T.pl rfl rfl rfl rfl ?_
  refine jT.isub rfl (fun z4 rz4 ez4 => ?_)
  replace ez4 := ez4 ⟨by omega, by omega⟩
  refine mj_T.pl (loc' := [some (.ref p0), some (.int (jn p1)), some (.int (jn p2)), some (.ref a2), some (.int (jn p2)), some (.int (jn z4))]) rfl rfl rfl rfl ?_
  have t15_7 : ∀ (k8 : Nat) (x5 : Int) (x6 : Int), (-2147483648 ≤ x5 ∧ x5 ≤ 2147483647) → (-2147483648 ≤ x6 ∧ x6 ≤ 2147483647) → (x6 ≤ z4) → (x6 + 1 : Int).toNat = k8 → mj_T (D + 1) mj_m121 15 [some (.ref p0), some (.int (jn p1)), some (.int (jn p2)), some (.ref a2), some (.int (jn x5)), some (.int (jn x6))] [] h (jQe h [0] (jVi (-2147483648) 2147483647)) := by
    refine jInd (fun k8 ih9 => ?_)
    intro x5 x6 rx5 rx6 ix6 hm10
    refine mj_T.pl rfl rfl rfl rfl ?_
    refine jT.if0 rfl rx6 (fun c17 => ?_) (fun c17 => ?_)
    · have c17 := of_decide_eq_true c17
      exact jT.thre o hg rfl rfl rfl (Nat.le_of_ble_eq_true rfl) rfl
    · have c17 := of_decide_eq_false c17
      refine mj_T.pl rfl rfl rfl rfl ?_
      refine jT.if0 rfl rx5 (fun c22 => ?_) (fun c22 => ?_)
      · have c22 := of_decide_eq_true c22
        exact jT.thre o hg rfl rfl rfl (Nat.le_of_ble_eq_true rfl) rfl
      · have c22 := of_decide_eq_false c22
        iterate 2 refine mj_T.pl rfl rfl rfl rfl ?_
        refine jT.lald o rfl ka2 rx6 ⟨by omega, by omega⟩ (fun z11 jz11 => ?_)
        refine jT.lc 0 rfl rfl ?_
        refine mj_T.lif rfl rfl jz11 ⟨by decide, by decide⟩ (fun c30 => ?_) (fun c30 => ?_)
        · have c30 := of_decide_eq_true c30
          refine jT.iinc rfl rfl (fun z12 rz12 ez12 => ?_)
          replace ez12 := ez12 ⟨by omega, by omega⟩
          refine mj_T.eq (loc2 := [some (.ref p0), some (.int (jn p1)), some (.int (jn p2)), some (.ref a2), some (.int (jn x5)), some (.int (jn z12))]) ?_ rfl rfl rfl rfl
          refine mj_T.pl rfl rfl rfl rfl ?_
          exact ih9 ((z12 + 1 : Int).toNat) (by omega) x5 z12 rx5 rz12 (by omega) rfl
        · have c30 := of_decide_eq_false c30
          refine mj_T.pl rfl rfl rfl rfl ?_
          refine jT.if0 rfl rx5 (fun c36 => ?_) (fun c36 => ?_)
          · have c36 := jne1 c36
            refine jT.iinc rfl rfl (fun z13 rz13 ez13 => ?_)
            replace ez13 := ez13 ⟨by omega, by omega⟩
            refine mj_T.eq (loc2 := [some (.ref p0), some (.int (jn p1)), some (.int (jn p2)), some (.ref a2), some (.int (jn z13)), some (.int (jn x6))]) ?_ rfl rfl rfl rfl
            refine jT.iinc rfl rfl (fun z14 rz14 ez14 => ?_)
            replace ez14 := ez14 ⟨by omega, by omega⟩
            refine mj_T.eq (loc2 := [some (.ref p0), some (.int (jn p1)), some (.int (jn p2)), some (.ref a2), some (.int (jn z13)), some (.int (jn z14))]) ?_ rfl rfl rfl rfl
            refine mj_T.pl rfl rfl rfl rfl ?_
            exact ih9 ((z14 + 1 : Int).toNat) (by omega) z13 z14 rz13 rz14 (by omega) rfl
          · have c36 := jne2 c36
            refine mj_T.pl rfl rfl rfl rfl ?_
            exact jT.rete rfl rfl rfl ⟨x6, by omega, by omega, rfl⟩
  exact t15_7 _ p2 z4 rp2 rz4 (by omega) rfl
theorem je_126 {D n : Nat} {tm : Int} {h g : mj_H} {K L : Nat → Nat} {R : Nat → Nat → Nat} {p0 : Nat} {p1 : Int} {p2 : Int} (ty : jTY K L R) (hg : g.length ≤ n) (o : jO K L R g n tm h) (kp0 : K p0 = 19) (rp1 : -2147483648 ≤ p1 ∧ p1 ≤ 2147483647) (rp2 : -2147483648 ≤ p2 ∧ p2 ≤ 2147483647) : mj_Ok (D + 2) 126 [.ref p0, .int (jn p1), .int (jn p2)] h (jQe h [0] (jVi 0 1)) := by
  refine mj_Ok.of (M := mj_m126) (loc := [some (.ref p0), some (.int (jn p1)), some (.int (jn p2))]) rfl rfl rfl ?_
  iterate 2 refine mj_T.pl rfl rfl rfl rfl ?_
  refine jT.calle rfl rfl (Nat.le_of_ble_eq_true rfl) (Nat.le_of_ble_eq_true rfl) (jrv_of o kp0 (by decide) rfl (by decide) rfl _) rfl (mj_Ok.up (Nat.add_le_add_left (by decide) D) (je_149 (D := D) ty hg o kp0 rp1)) rfl rfl (fun v1 qv1 => ?_)
  obtain ⟨a2, ka2, rfl⟩ := qv1
  refine mj_T.eq (pc2 := 5) (st2 := [.ref a2]) ?_ rfl rfl rfl rfl
  iterate 2 refine mj_T.pl rfl rfl rfl rfl ?_
  refine jT.calle rfl rfl (Nat.le_of_ble_eq_true rfl) (Nat.le_of_ble_eq_true rfl) (jrv_of o kp0 (by decide) rfl (by decide) rfl _) rfl (mj_Ok.up (Nat.add_le_add_left (by decide) D) (je_149 (D := D) ty hg o kp0 rp2)) rfl rfl (fun v3 qv3 => ?_)
  obtain ⟨a4, ka4, rfl⟩ := qv3
  refine mj_T.eq (pc2 := 10) (st2 := [.ref a4, .ref a2]) ?_ rfl rfl rfl rfl
  refine jT.calle0 (A := []) rfl rfl (Nat.le_of_ble_eq_true rfl) (Nat.le_of_ble_eq_true rfl) rfl rfl (mj_Ok.up (Nat.add_le_add_left (by decide) D) (jc_166 (D := D) ty hg o ka2 ka4)) rfl rfl (fun v5 qv5 => ?_)
  obtain ⟨z6, az6, bz6, rfl⟩ := qv5
  have rz6 : -2147483648 ≤ z6 ∧ z6 ≤ 2147483647 := ⟨by omega, by omega⟩
  refine mj_T.eq (pc2 := 13) (st2 := [.int (jn z6)]) ?_ rfl rfl rfl rfl
  exact jT.retbe rfl rfl (by omega) (by omega)
theorem je_129 {D n : Nat} {tm : Int} {h g : mj_H} {K L : Nat → Nat} {R : Nat → Nat → Nat} {p0 : Nat} {p1 : Int} {p2 : Int} (ty : jTY K L R) (hg : g.length ≤ n) (o : jO K L R g n tm h) (kp0 : K p0 = 19) (ap1 : 0 ≤ p1 ∧ p1 ≤ 1) (rp2 : -2147483648 ≤ p2 ∧ p2 ≤ 2147483647) : mj_Ok (D + 3) 129 [.ref p0, .int (jn p1), .int (jn p2)] h (jQe h [0] (jVi (-2147483648) 2147483647)) := by
  have rp1 : -2147483648 ≤ p1 ∧ p1 ≤ 2147483647 := ⟨by omega, by omega⟩
  refine mj_Ok.of (M := mj_m129) (loc := [some (.ref p0), some (.int (jn p1)), some (.int (jn p2)), none]) rfl rfl rfl ?_
  iterate 2 refine mj_T.pl rfl rfl rfl rfl ?_
  refine jT.calle0 (A := []) rfl rfl (Nat.le_of_ble_eq_true rfl) (Nat.le_of_ble_eq_true rfl) (jrv_of o kp0 (by decide) rfl (by decide) rfl _) rfl (mj_Ok.up (Nat.add_le_add_left (by decide) D) (jc_157 (D := D) ty hg o kp0 ⟨by omega, by omega⟩)) rfl rfl (fun v1 qv1 => ?_)
  obtain ⟨a2, ka2, rfl⟩ := qv1
  refine mj_T.eq (pc2 := 5) (st2 := [.ref a2]) ?_ rfl rfl rfl rfl
  refine mj_T.pl (loc' := [some (.ref p0), some (.int (jn p1)), some (.int (jn p2)), some (.ref a2)]) rfl rfl rfl rfl ?_
  refine mj_T.pl rfl rfl rfl rfl ?_
  refine jT.if0 rfl rp2 (fun c7 => ?_) (fun c7 => ?_)
  · have c7 := of_decide_eq_true c7
    exact jT.thre o hg rfl rfl rfl (Nat.le_of_ble_eq_true rfl) rfl
  · have c7 := of_decide_eq_false c7
    iterate 2 refine mj_T.pl rfl rfl rfl rfl ?_
    refine jT.calle0 (A := []) rfl rfl (Nat.le_of_ble_eq_true rfl) (Nat.le_of_ble_eq_true rfl) (jrv_of o ka2 (by decide) rfl (by decide) rfl _) rfl (mj_Ok.up (Nat.add_le_add_left (by decide) D) (jc_98 (D := D) ty hg o ka2)) rfl rfl (fun v3 qv3 => ?_)
    obtain ⟨z4, az4, bz4, rfl⟩ := qv3
    have rz4 : -2147483648 ≤ z4 ∧ z4 ≤ 2147483647 := ⟨by omega, by omega⟩
    refine mj_T.eq (pc2 := 15) (st2 := [.int (jn z4), .int (jn p2)]) ?_ rfl rfl rfl rfl
    refine jT.icmp rfl rp2 rz4 (fun c15 => ?_) (fun c15 => ?_)
    · have c15 := of_decide_eq_true c15
      iterate 2 refine mj_T.pl rfl rfl rfl rfl ?_
      refine jT.calle0 (A := []) rfl rfl (Nat.le_of_ble_eq_true rfl) (Nat.le_of_ble_eq_true rfl) (jrv_of o ka2 (by decide) rfl (by decide) rfl _) rfl (mj_Ok.up (Nat.add_le_add_left (by decide) D) (jc_99 (D := D) ty hg o ka2 rp2)) rfl rfl (fun v5 qv5 => ?_)
      obtain ⟨z6, az6, bz6, rfl⟩ := qv5
      have rz6 : -2147483648 ≤ z6 ∧ z6 ≤ 2147483647 := ⟨by omega, by omega⟩
      refine mj_T.eq (pc2 := 31) (st2 := [.int (jn z6)]) ?_ rfl rfl rfl rfl
      exact jT.rete rfl rfl rfl ⟨z6, by omega, by omega, rfl⟩
    · have c15 := of_decide_eq_false c15
      exact jT.thre o hg rfl rfl rfl (Nat.le_of_ble_eq_true rfl) rfl
theorem je_138 {D n : Nat} {tm : Int} {h g : mj_H} {K L : Nat → Nat} {R : Nat → Nat → Nat} {p0 : Nat} {p1 : Int} {p2 : Int} (ty : jTY K L R) (hg : g.length ≤ n) (o : jO K L R g n tm h) (kp0 : K p0 = 19) (rp1 : -2147483648 ≤ p1 ∧ p1 ≤ 2147483647) (rp2 : -2147483648 ≤ p2 ∧ p2 ≤ 2147483647) : mj_Ok (D + 3) 138 [.ref p0, .int (jn p1), .int (jn p2)] h (jQe h [0, 2] (jVi (-2147483648) 2147483647)) := by
  refine mj_Ok.of (M := mj_m138) (loc := [some (.ref p0), some (.int (jn p1)), some (.int (jn p2)), none, none, none]) rfl rfl rfl ?_
  iterate 2 refine mj_T.pl rfl rfl rfl rfl ?_
  refine jT.calle rfl rfl (Nat.le_of_ble_eq_true rfl) (Nat.le_of_ble_eq_true rfl) (jrv_of o kp0 (by decide) rfl (by decide) rfl _) rfl (mj_Ok.up (Nat.add_le_add_left (by decide) D) (je_149 (D := D) ty hg o kp0 rp1)) rfl rfl (fun v1 qv1 => ?_)
  obtain ⟨a2, ka2, rfl⟩ := qv1
  refine mj_T.eq (pc2 := 5) (st2 := [.ref a2]) ?_ rfl rfl rfl rfl
  refine mj_T.pl (loc' := [some (.ref p0), some (.int (jn p1)), some (.int (jn p2)), some (.ref a2), none, none]) rfl rfl rfl rfl ?_
  refine mj_T.pl rfl rfl rfl rfl ?_
  refine jT.calle rfl rfl (Nat.le_of_ble_eq_true rfl) (Nat.le_of_ble_eq_true rfl) rfl rfl (mj_Ok.up (Nat.add_le_add_left (by decide) D) (je_152 (D := D) ty hg o rp2)) rfl rfl (fun v3 qv3 => ?_)
  obtain rfl : v3 = none := qv3
  refine mj_T.eq (pc2 := 10) (st2 := []) ?_ rfl rfl rfl rfl
  refine mj_T.pl rfl rfl rfl rfl ?_
  refine mj_T.pl (loc' := [some (.ref p0), some (.int (jn p1)), some (.int (jn p2)), some (.ref a2), some (.int (jn 0)), none]) rfl rfl rfl rfl ?_
  refine mj_T.pl rfl rfl rfl rfl ?_
  refine mj_T.pl (loc' := [some (.ref p0), some (.int (jn p1)), some (.int (jn p2)), some (.ref a2), some (.int (jn 0)), some (.int (jn 0))]) rfl rfl rfl rfl ?_
  have t16_6 : ∀ (k7 : Nat) (x4 : Int) (x5 : Int), (-2147483648 ≤ x4 ∧ x4 ≤ 2147483647) → (-2147483648 ≤ x5 ∧ x5 ≤ 2147483647) → (0 ≤ x5) → (2147483647 - x5 : Int).toNat = k7 → mj_T (D + 2) mj_m138 16 [some (.ref p0), some (.int (jn p1)), some (.int (jn p2)), some (.ref a2), some (.int (jn x4)), some (.int (jn x5))] [] h (jQe h [0, 2] (jVi (-2147483648) 2147483647)) := by
    refine jInd (fun k7 ih8 => ?_)
    intro x4 x5 rx4 rx5 ix5 hm9
    refine mj_T.pl rfl rfl rfl rfl ?_
    refine mj_T.pl rfl rfl rfl rfl ?_
    refine jT.icmp rfl rx5 rp2 (fun c19 => ?_) (fun c19 => ?_)
    · have c19 := of_decide_eq_true c19
      refine mj_T.pl rfl rfl rfl rfl ?_
      exact jT.rete rfl rfl rfl ⟨x4, by omega, by omega, rfl⟩
    · have c19 := of_decide_eq_false c19
      iterate 3 refine mj_T.pl rfl rfl rfl rfl ?_
      refine jT.calle0 (A := []) rfl rfl (Nat.le_of_ble_eq_true rfl) (Nat.le_of_ble_eq_true rfl) rfl rfl (mj_Ok.up (Nat.add_le_add_left (by decide) D) (jc_173 (D := D) ty hg o ka2 rx5 rp2)) rfl rfl (fun v10 qv10 => ?_)
      obtain ⟨z11, az11, bz11, rfl⟩ := qv10
      have rz11 : -2147483648 ≤ z11 ∧ z11 ≤ 2147483647 := ⟨by omega, by omega⟩
      refine mj_T.eq (pc2 := 29) (st2 := [.int (jn z11)]) ?_ rfl rfl rfl rfl
      refine jT.if0 rfl rz11 (fun c29 => ?_) (fun c29 => ?_)
      · have c29 := jne1 c29
        refine jT.iinc rfl rfl (fun z12 rz12 ez12 => ?_)
        replace ez12 := ez12 ⟨by omega, by omega⟩
        refine mj_T.eq (loc2 := [some (.ref p0), some (.int (jn p1)), some (.int (jn p2)), some (.ref a2), some (.int (jn x4)), some (.int (jn z12))]) ?_ rfl rfl rfl rfl
        refine mj_T.pl rfl rfl rfl rfl ?_
        exact ih8 ((2147483647 - z12 : Int).toNat) (by omega) x4 z12 rx4 rz12 (by omega) rfl
      · have c29 := jne2 c29
        refine jT.iinc rfl rfl (fun z13 rz13 ez13 => ?_)
        clear ez13
        refine mj_T.eq (loc2 := [some (.ref p0), some (.int (jn p1)), some (.int (jn p2)), some (.ref a2), some (.int (jn z13)), some (.int (jn x5))]) ?_ rfl rfl rfl rfl
        refine jT.iinc rfl rfl (fun z14 rz14 ez14 => ?_)
        replace ez14 := ez14 ⟨by omega, by omega⟩
        refine mj_T.eq (loc2 := [some (.ref p0), some (.int (jn p1)), some (.int (jn p2)), some (.ref a2), some (.int (jn z13)), some (.int (jn z14))]) ?_ rfl rfl rfl rfl
        refine mj_T.pl rfl rfl rfl rfl ?_
        exact ih8 ((2147483647 - z14 : Int).toNat) (by omega) z13 z14 rz13 rz14 (by omega) rfl
  exact t16_6 _ 0 0 ⟨by decide, by decide⟩ ⟨by decide, by decide⟩ (by omega) rfl
theorem je_139 {D n : Nat} {tm : Int} {h g : mj_H} {K L : Nat → Nat} {R : Nat → Nat → Nat} {p0 : Nat} {p1 : Int} {p2 : Int} (ty : jTY K L R) (hg : g.length ≤ n) (o : jO K L R g n tm h) (kp0 : K p0 = 19) (rp1 : -2147483648 ≤ p1 ∧ p1 ≤ 2147483647) (rp2 : -2147483648 ≤ p2 ∧ p2 ≤ 2147483647) : mj_Ok (D + 3) 139 [.ref p0, .int (jn p1), .int (jn p2)] h (jQe h [0, 2, 4] (jVi (-2147483648) 2147483647)) := by
  refine mj_Ok.of (M := mj_m139) (loc := [some (.ref p0), some (.int (jn p1)), some (.int (jn p2)), none, none]) rfl rfl rfl ?_
  iterate 2 refine mj_T.pl rfl rfl rfl rfl ?_
  refine jT.calle rfl rfl (Nat.le_of_ble_eq_true rfl) (Nat.le_of_ble_eq_true rfl) (jrv_of o kp0 (by decide) rfl (by decide) rfl _) rfl (mj_Ok.up (Nat.add_le_add_left (by decide) D) (je_149 (D := D) ty hg o kp0 rp1)) rfl rfl (fun v1 qv1 => ?_)
  obtain ⟨a2, ka2, rfl⟩ := qv1
  refine mj_T.eq (pc2 := 5) (st2 := [.ref a2]) ?_ rfl rfl rfl rfl
  refine mj_T.pl (loc' := [some (.ref p0), some (.int (jn p1)), some (.int (jn p2)), some (.ref a2), none]) rfl rfl rfl rfl ?_
  refine mj_T.pl rfl rfl rfl rfl ?_
  refine jT.calle rfl rfl (Nat.le_of_ble_eq_true rfl) (Nat.le_of_ble_eq_true rfl) rfl rfl (mj_Ok.up (Nat.add_le_add_left (by decide) D) (je_152 (D := D) ty hg o rp2)) rfl rfl (fun v3 qv3 => ?_)
  obtain rfl : v3 = none := qv3
  refine mj_T.eq (pc2 := 10) (st2 := []) ?_ rfl rfl rfl rfl
  refine mj_T.pl rfl rfl rfl rfl ?_
  refine mj_T.pl (loc' := [some (.ref p0), some (.int (jn p1)), some (.int (jn p2)), some (.ref a2), some (.int (jn 0))]) rfl rfl rfl rfl ?_
  have t13_5 : ∀ (k6 : Nat) (x4 : Int), (-2147483648 ≤ x4 ∧ x4 ≤ 2147483647) → (0 ≤ x4) → (2147483647 - x4 : Int).toNat = k6 → mj_T (D + 2) mj_m139 13 [some (.ref p0), some (.int (jn p1)), some (.int (jn p2)), some (.ref a2), some (.int (jn x4))] [] h (jQe h [0, 2, 4] (jVi (-2147483648) 2147483647)) := by
    refine jInd (fun k6 ih7 => ?_)
    intro x4 rx4 ix4 hm8
    refine mj_T.pl rfl rfl rfl rfl ?_
    refine mj_T.pl rfl rfl rfl rfl ?_
    refine jT.icmp rfl rx4 rp2 (fun c16 => ?_) (fun c16 => ?_)
    · have c16 := of_decide_eq_true c16
      exact jT.thre o hg rfl rfl rfl (Nat.le_of_ble_eq_true rfl) rfl
    · have c16 := of_decide_eq_false c16
      iterate 3 refine mj_T.pl rfl rfl rfl rfl ?_
      refine jT.calle0 (A := []) rfl rfl (Nat.le_of_ble_eq_true rfl) (Nat.le_of_ble_eq_true rfl) rfl rfl (mj_Ok.up (Nat.add_le_add_left (by decide) D) (jc_173 (D := D) ty hg o ka2 rx4 rp2)) rfl rfl (fun v9 qv9 => ?_)
      obtain ⟨z10, az10, bz10, rfl⟩ := qv9
      have rz10 : -2147483648 ≤ z10 ∧ z10 ≤ 2147483647 := ⟨by omega, by omega⟩
      refine mj_T.eq (pc2 := 26) (st2 := [.int (jn z10)]) ?_ rfl rfl rfl rfl
      refine jT.if0 rfl rz10 (fun c26 => ?_) (fun c26 => ?_)
      · have c26 := jne1 c26
        refine jT.iinc rfl rfl (fun z11 rz11 ez11 => ?_)
        replace ez11 := ez11 ⟨by omega, by omega⟩
        refine mj_T.eq (loc2 := [some (.ref p0), some (.int (jn p1)), some (.int (jn p2)), some (.ref a2), some (.int (jn z11))]) ?_ rfl rfl rfl rfl
        refine mj_T.pl rfl rfl rfl rfl ?_
        exact ih7 ((2147483647 - z11 : Int).toNat) (by omega) z11 rz11 (by omega) rfl
      · have c26 := jne2 c26
        refine mj_T.pl rfl rfl rfl rfl ?_
        exact jT.rete rfl rfl rfl ⟨x4, by omega, by omega, rfl⟩
  exact t13_5 _ 0 ⟨by decide, by decide⟩ (by omega) rfl
theorem je_145 {D n : Nat} {tm : Int} {h g : mj_H} {K L : Nat → Nat} {R : Nat → Nat → Nat} {p0 : Nat} {p1 : Int} (ty : jTY K L R) (hg : g.length ≤ n) (o : jO K L R g n tm h) (kp0 : K p0 = 19) (rp1 : -2147483648 ≤ p1 ∧ p1 ≤ 2147483647) : mj_Ok (D + 2) 145 [.ref p0, .int (jn p1)] h (jQe h [0] (jVi (-2147483648) 2147483647)) := by
  refine mj_Ok.of (M := mj_m145) (loc := [some (.ref p0), some (.int (jn p1))]) rfl rfl rfl ?_
  refine mj_T.pl rfl rfl rfl rfl ?_
  refine jT.if0 rfl rp1 (fun c1 => ?_) (fun c1 => ?_)
  · have c1 := of_decide_eq_true c1
    exact jT.thre o hg rfl rfl rfl (Nat.le_of_ble_eq_true rfl) rfl
  · have c1 := of_decide_eq_false c1
    iterate 2 refine mj_T.pl rfl rfl rfl rfl ?_
    refine jT.getR 19 117 17 ty o rfl kp0 (by decide) rfl rfl rfl (fun k1 => ?_)
    refine jT.getI 17 5 o rfl k1 (by decide) rfl rfl rfl (fun z2 (az2 : 0 ≤ z2) (bz2 : z2 ≤ 340) fz2 => ?_)
    have rz2 : -2147483648 ≤ z2 ∧ z2 ≤ 2147483647 := ⟨by omega, by omega⟩
    refine jT.icmp rfl rp1 rz2 (fun c12 => ?_) (fun c12 => ?_)
    · have c12 := of_decide_eq_true c12
      refine mj_T.pl rfl rfl rfl rfl ?_
      refine jT.getR 19 117 17 ty o rfl kp0 (by decide) rfl rfl rfl (fun k3 => ?_)
      refine mj_T.pl rfl rfl rfl rfl ?_
      refine jT.calle0 (A := []) rfl rfl (Nat.le_of_ble_eq_true rfl) (Nat.le_of_ble_eq_true rfl) (jrv_of o k3 (by decide) rfl (by decide) rfl _) rfl (mj_Ok.up (Nat.add_le_add_left (by decide) D) (jc_79 (D := D) ty hg o (Or.inl k3) rp1)) rfl rfl (fun v4 qv4 => ?_)
      obtain ⟨z5, az5, bz5, rfl⟩ := qv4
      have rz5 : -2147483648 ≤ z5 ∧ z5 ≤ 2147483647 := ⟨by omega, by omega⟩
      refine mj_T.eq (pc2 := 31) (st2 := [.int (jn z5)]) ?_ rfl rfl rfl rfl
      exact jT.rete rfl rfl rfl ⟨z5, by omega, by omega, rfl⟩
    · have c12 := of_decide_eq_false c12
      exact jT.thre o hg rfl rfl rfl (Nat.le_of_ble_eq_true rfl) rfl
/-- a call that only reads: the benches are as before -/
def rdL (g : mj_H) (n : Nat) (N : Nat → Int) (u : Nat) (H : Nat → Nat → Int) (r : mj_R) : Prop := (∃ (v : Option Value) (h2 : mj_H), cS g n N u H h2 ∧ r = (.inl v, h2)) ∨ (∃ (k : Nat) (h2 : mj_H), cS g (n + 1) N u H h2 ∧ r = (.inr k, h2))
theorem rdL.e {g : mj_H} {n : Nat} {N : Nat → Int} {u : Nat} {H : Nat → Nat → Int} {h : mj_H} (hg : g.length ≤ n) (s : cS g n N u H h) {exc : List Nat} {V : Option Value → Prop} (r : mj_R) (q : jQe h exc V r) : rdL g n N u H r := by
  obtain ⟨r1, r2⟩ := r
  cases r1 with
  | inl v =>
    have e : r2 = h := q.2
    exact Or.inl ⟨v, h, s, by rw [e]⟩
  | inr k =>
    have e : r2 = h ++ [xE] := q.2
    obtain ⟨V0, X, m, b0, d, c⟩ := s
    exact Or.inr ⟨k, _, cS.thr hg m b0 d c, by rw [e]⟩
theorem rdL.p {g : mj_H} {n : Nat} {N : Nat → Int} {u : Nat} {H : Nat → Nat → Int} {h : mj_H} (s : cS g n N u H h) {K L : Nat → Nat} {R : Nat → Nat → Nat} {g0 : mj_H} {n0 : Nat} {tm : Int} {V : Option Value → Prop} (r : mj_R) (q : jQp K L R g0 n0 tm h [] V r) : rdL g n N u H r := by
  obtain ⟨r1, r2⟩ := r
  cases r1 with
  | inl v =>
    have e : r2 = h := q.2
    exact Or.inl ⟨v, h, s, by rw [e]⟩
  | inr k => exact absurd q.1 (by intro y; cases y)
/-! The class: calls that only read leave the benches (value, divides, roots ..). -/
/-- rows' places beyond their length don't matter -/
noncomputable def nrX (X : Nat → Nat → Int) : Nat → Nat → Int := fun a j => if cK a = 2 then (jl (X a j)).toInt else X a j
theorem nrX_o {X : Nat → Nat → Int} {a : Nat} (h : cK a ≠ 2) : nrX X a = X a := funext fun j => if_neg h
theorem nrX_r {X : Nat → Nat → Int} {a j : Nat} (h : jR (X a j)) : nrX X a j = X a j := by
  unfold nrX
  split
  · exact jl_toInt h
  · rfl
theorem jM.nr {g h : mj_H} {n : Nat} {V : Nat → Int} {X : Nat → Nat → Int} (m : jM g n V X h) : jM g n V (nrX X) h := by
  refine ⟨m.1, m.2.1, fun a => ?_⟩
  have q := m.2.2 a
  unfold jMk at q ⊢
  by_cases k2 : cK a = 2
  · rw [k2] at q ⊢
    have e : (fun j => Value.long (jl (nrX X a j))) = fun j => Value.long (jl (X a j)) := funext fun j => by
      unfold nrX
      rw [if_pos k2, jl_of]
    rw [if_neg (by decide), if_neg (by decide), if_neg (by decide), if_neg (by decide), if_pos rfl] at q ⊢
    rw [e]
    exact q
  · have e := nrX_o (X := X) k2
    have ef : ∀ k, jMf (nrX X) k a = jMf X k a := fun k => by
      unfold jMf
      rw [e]
    rw [e, ef]
    exact q
theorem jR_sm {x : Int} (h : -999999999999999999 ≤ x ∧ x ≤ 999999999999999999) : jR x := ⟨by omega, by omega⟩
theorem cS.nr {g h : mj_H} {n u : Nat} {N : Nat → Int} {H : Nat → Nat → Int} (A : AS N u H) (s : cS g n N u H h) : ∃ (V : Nat → Int) (X : Nat → Nat → Int), jM g n V X h ∧ by0 V ∧ DG X ∧ CR X N u H ∧ ∀ a, cK a = 2 → ∀ j, jR (X a j) := by
  obtain ⟨V, X, m, b, d, e, he, h3, h2, bb, bh, tl⟩ := s
  have k1 : cK 1 ≠ 2 := by decide +kernel
  have kb : ∀ o N', cK o = 10 → gN N' → BN X o N' → BN (nrX X) o N' := fun o N' ko gn q => by
    refine ⟨fun r hr j hj => ?_, ?_, fun k hk => ?_⟩
    · rw [nrX_r (by rw [q.1 r hr j hj]; exact jR_sm (gn.1 _ (by omega)))]
      exact q.1 r hr j hj
    · rw [nrX_o (by rw [ko]; decide)]
      exact q.2.1
    · have p8 := (mK_b8 ko).1.1
      have p9 := (mK_b8 ko).2.1
      rw [nrX_o (by omega), nrX_o (by omega)]
      exact q.2.2 k hk
  refine ⟨V, nrX X, m.nr, b, d.of (fun p kp => nrX_o (by omega)), ⟨e, he, by rw [nrX_o k1]; exact h3, by rw [nrX_o k1]; exact h2, kb 2 N cq_d2 A.1 bb, fun k hk => kb _ _ (cq_eb _ (by omega)) (A.2.2 k hk) (bh k hk), tl.to (fun c hc => nrX_o (by rcases hc with rfl | rfl <;> decide +kernel))⟩, fun a ka j => ?_⟩
  unfold nrX
  rw [if_pos ka]
  exact jR_of _
theorem sBn.deg {X : Nat → Nat → Int} {p i : Nat} {v : Int} (h : cK p = 13) : sBn X (xup X p i v) := by
  have := cK_13 h
  exact ⟨congrFun (xup_oth (by omega)) 2, congrFun (xup_oth (by omega)) 3, fun c hc => xup_oth (by omega)⟩
section MRD
variable {g h : mj_H} {n D : Nat} {V : Nat → Int} {X : Nat → Nat → Int}
theorem mZ_158 (m : jM g n V X h) (b : by0 V) {x : Int} (hx : jR x) : mj_Ok (D + 2) 158 [.ref 1, .long (jl x)] h (fun r => ∃ (V2 : Nat → Int) (z : Int) (h2 : mj_H), jM g n V2 X h2 ∧ by0 V2 ∧ (-2147483648 ≤ z ∧ z ≤ 2147483647) ∧ r = (.inl (some (.int (jn z))), h2)) := by
  refine mj_Ok.of (M := mj_m158) rfl rfl rfl ?_
  refine mj_T.pl rfl rfl rfl rfl ?_
  refine mT_get m 19 cq_d1 (by decide) rfl rfl ?_
  refine mj_T.pl rfl rfl rfl rfl ?_
  refine mj_T.call rfl rfl (Nat.le_of_ble_eq_true rfl) (Nat.le_of_ble_eq_true rfl) (mV_of m 18 cq_d477 (by decide) rfl (by decide) rfl _) rfl (mj_Ok.up (by omega) (mF_86 (D := 0) m b fr_d477 hx)) (fun v g1 hq => ?_) (fun i g1 hq => ?_)
  rotate_left
  · obtain ⟨_, _, _, _, hq⟩ := hq; cases hq
  obtain ⟨V2, _, m3, b4, hq⟩ := hq
  cases hq
  refine mj_T.eq (pc2 := 8) (st2 := []) ?_ rfl rfl rfl rfl
  refine mj_T.pl rfl rfl rfl rfl ?_
  refine mT_get m3 19 cq_d1 (by decide) rfl rfl ?_
  refine jT.lc 1 rfl rfl ?_
  refine mj_T.call rfl rfl (Nat.le_of_ble_eq_true rfl) (Nat.le_of_ble_eq_true rfl) (mV_of m3 18 cq_d479 (by decide) rfl (by decide) rfl _) rfl (mj_Ok.up (by omega) (mF_86 (D := 0) m3 b4 fr_d479 ⟨by decide, by decide⟩)) (fun v g5 hq => ?_) (fun i g5 hq => ?_)
  rotate_left
  · obtain ⟨_, _, _, _, hq⟩ := hq; cases hq
  obtain ⟨V6, _, m7, b8, hq⟩ := hq
  cases hq
  refine mj_T.eq (pc2 := 16) (st2 := []) ?_ rfl rfl rfl rfl
  refine mj_T.pl rfl rfl rfl rfl ?_
  refine mT_get m7 19 cq_d1 (by decide) rfl rfl ?_
  refine mZ_sg m7 cq_d477 rfl (fun z9 rz9 => ?_)
  exact mj_T.ret rfl rfl rfl ⟨_, _, _, m7, b8, rz9, rfl⟩
theorem mZ_159_loop {a : Nat} (fa : frW a) {y t : Int} (hy : jR y) (ht : -2147483648 ≤ t ∧ t ≤ 2147483647) : ∀ (k : Nat) (i : Int), 0 ≤ i ∧ i ≤ 2147483647 → t - i ≤ k → ∀ (l6 : Option Value) (V : Nat → Int) (h : mj_H), jM g n V X h → by0 V → mj_T (D + 3) mj_m159 19 [some (.ref 1), some (.ref a), some (.long (jl y)), none, some (.int (jn t)), some (.int (jn i)), l6, none] [] h (fun r => ∃ (V2 : Nat → Int) (z : Int) (h2 : mj_H), jM g n V2 X h2 ∧ by0 V2 ∧ (-2147483648 ≤ z ∧ z ≤ 2147483647) ∧ r = (.inl (some (.int (jn z))), h2))
  | 0, i, h0, hi, l6, V, h, m, b => by
    iterate 2 refine mj_T.pl rfl rfl rfl rfl ?_
    refine mj_T.icmp (a := i) (b := t) rfl ⟨by omega, by omega⟩ ⟨by omega, by omega⟩ (fun c1 => ?_) (fun c1 => ?_)
    · simp only [jc, Bool.not_eq_true', Bool.not_eq_false', decide_eq_true_eq, decide_eq_false_iff_not] at c1
      refine mj_T.pl rfl rfl rfl rfl ?_
      refine mT_get m 19 cq_d1 (by decide) rfl rfl ?_
      refine mZ_sg m cq_d477 rfl (fun z2 rz2 => ?_)
      exact mj_T.ret rfl rfl rfl ⟨_, _, _, m, b, rz2, rfl⟩
    · exfalso
      simp only [jc, Bool.not_eq_true', Bool.not_eq_false', decide_eq_true_eq, decide_eq_false_iff_not] at c1
      omega
  | k + 1, i, h0, hi, l6, V, h, m, b => by
    iterate 2 refine mj_T.pl rfl rfl rfl rfl ?_
    refine mj_T.icmp (a := i) (b := t) rfl ⟨by omega, by omega⟩ ⟨by omega, by omega⟩ (fun c1 => ?_) (fun c1 => ?_)
    · simp only [jc, Bool.not_eq_true', Bool.not_eq_false', decide_eq_true_eq, decide_eq_false_iff_not] at c1
      refine mj_T.pl rfl rfl rfl rfl ?_
      refine mT_get m 19 cq_d1 (by decide) rfl rfl ?_
      refine mZ_sg m cq_d477 rfl (fun z2 rz2 => ?_)
      exact mj_T.ret rfl rfl rfl ⟨_, _, _, m, b, rz2, rfl⟩
    · simp only [jc, Bool.not_eq_true', Bool.not_eq_false', decide_eq_true_eq, decide_eq_false_iff_not] at c1
      refine mj_T.pl rfl rfl rfl rfl ?_
      refine mT_get m 19 cq_d1 (by decide) rfl rfl ?_
      refine mj_T.pl rfl rfl rfl rfl ?_
      refine mT_get m 19 cq_d1 (by decide) rfl rfl ?_
      refine mj_T.pl rfl rfl rfl rfl ?_
      refine mj_T.call rfl rfl (Nat.le_of_ble_eq_true rfl) (Nat.le_of_ble_eq_true rfl) (mV_of m 11 cq_d19 (by decide) rfl (by decide) rfl _) rfl (mj_Ok.up (by omega) (mZ_23 (D := 0) m b fr_d477 hy)) (fun v g3 hq => ?_) (fun i g3 hq => ?_)
      rotate_left
      · obtain ⟨_, _, _, _, _, _, hq⟩ := hq; cases hq
      obtain ⟨V4, y7, _, m5, b6, jy7, hq⟩ := hq
      cases hq
      refine mj_T.eq (pc2 := 38) (st2 := [.long (jl y7)]) ?_ rfl rfl rfl rfl
      refine mj_T.pl (loc' := [some (.ref 1), some (.ref a), some (.long (jl y)), none, some (.int (jn t)), some (.int (jn i)), some (.long (jl y7)), none]) rfl rfl rfl rfl ?_
      refine mj_T.pl rfl rfl rfl rfl ?_
      refine mT_get m5 19 cq_d1 (by decide) rfl rfl ?_
      refine mj_T.pl rfl rfl rfl rfl ?_
      refine mT_get m5 19 cq_d1 (by decide) rfl rfl ?_
      refine mj_T.pl rfl rfl rfl rfl ?_
      refine mj_T.call rfl rfl (Nat.le_of_ble_eq_true rfl) (Nat.le_of_ble_eq_true rfl) (mV_of m5 11 cq_d19 (by decide) rfl (by decide) rfl _) rfl (mj_Ok.up (by omega) (mZ_25 (D := 0) m5 b6 fr_d477 jy7)) (fun v g8 hq => ?_) (fun i g8 hq => ?_)
      rotate_left
      · obtain ⟨_, _, _, _, hq⟩ := hq; cases hq
      obtain ⟨V9, _, m10, b11, hq⟩ := hq
      cases hq
      refine mj_T.eq (pc2 := 53) (st2 := []) ?_ rfl rfl rfl rfl
      refine mj_T.pl rfl rfl rfl rfl ?_
      refine mT_get m10 19 cq_d1 (by decide) rfl rfl ?_
      refine mj_T.pl rfl rfl rfl rfl ?_
      refine mT_get m10 19 cq_d1 (by decide) rfl rfl ?_
      refine mj_T.pl rfl rfl rfl rfl ?_
      refine jT.lc 0 rfl rfl ?_
      refine mj_T.lif (a := y7) (b := ((0 : Nat) : Int)) rfl rfl jy7 ⟨by omega, by omega⟩ (fun c12 => ?_) (fun c12 => ?_)
      · simp only [jc, Bool.not_eq_true', Bool.not_eq_false', decide_eq_true_eq, decide_eq_false_iff_not] at c12
        iterate 2 refine mj_T.pl rfl rfl rfl rfl ?_
        refine jT.ldiv rfl jy7 (by omega) (fun y13 jy13 => ?_)
        refine mj_T.call rfl rfl (Nat.le_of_ble_eq_true rfl) (Nat.le_of_ble_eq_true rfl) (mV_of m10 11 cq_d19 (by decide) rfl (by decide) rfl _) rfl (mj_Ok.up (by omega) (mZ_24 (D := 0) m10 b11 fr_d479 jy13)) (fun v g14 hq => ?_) (fun i g14 hq => ?_)
        rotate_left
        · obtain ⟨_, _, _, _, hq⟩ := hq; cases hq
        obtain ⟨V15, _, m16, b17, hq⟩ := hq
        cases hq
        refine mj_T.eq (pc2 := 79) (st2 := []) ?_ rfl rfl rfl rfl
        refine mj_T.iinc rfl rfl ?_
        refine mj_T.eq (loc2 := [some (.ref 1), some (.ref a), some (.long (jl y)), none, some (.int (jn t)), some (.int (jn (i + 1))), some (.long (jl y7)), none]) ?_ rfl rfl rfl rfl
        refine mj_T.pl rfl rfl rfl rfl ?_
        exact mZ_159_loop fa hy ht k _ ⟨by omega, by omega⟩ (by omega) _ _ _ m16 b17
      · simp only [jc, Bool.not_eq_true', Bool.not_eq_false', decide_eq_true_eq, decide_eq_false_iff_not] at c12
        iterate 2 refine mj_T.pl rfl rfl rfl rfl ?_
        refine mj_T.call rfl rfl (Nat.le_of_ble_eq_true rfl) (Nat.le_of_ble_eq_true rfl) (mV_of m10 11 cq_d19 (by decide) rfl (by decide) rfl _) rfl (mj_Ok.up (by omega) (mZ_24 (D := 0) m10 b11 fr_d479 hy)) (fun v g18 hq => ?_) (fun i g18 hq => ?_)
        rotate_left
        · obtain ⟨_, _, _, _, hq⟩ := hq; cases hq
        obtain ⟨V19, _, m20, b21, hq⟩ := hq
        cases hq
        refine mj_T.eq (pc2 := 79) (st2 := []) ?_ rfl rfl rfl rfl
        refine mj_T.iinc rfl rfl ?_
        refine mj_T.eq (loc2 := [some (.ref 1), some (.ref a), some (.long (jl y)), none, some (.int (jn t)), some (.int (jn (i + 1))), some (.long (jl y7)), none]) ?_ rfl rfl rfl rfl
        refine mj_T.pl rfl rfl rfl rfl ?_
        exact mZ_159_loop fa hy ht k _ ⟨by omega, by omega⟩ (by omega) _ _ _ m20 b21
theorem mZ_159 (m : jM g n V X h) (b : by0 V) {a : Nat} (fa : frW a) {y t : Int} (hy : jR y) (ht : -2147483648 ≤ t ∧ t ≤ 2147483647) : mj_Ok (D + 4) 159 [.ref 1, .ref a, .long (jl y), .int (jn t)] h (fun r => ∃ (V2 : Nat → Int) (z : Int) (h2 : mj_H), jM g n V2 X h2 ∧ by0 V2 ∧ (-2147483648 ≤ z ∧ z ≤ 2147483647) ∧ r = (.inl (some (.int (jn z))), h2)) := by
  refine mj_Ok.of (M := mj_m159) rfl rfl rfl ?_
  refine mj_T.pl rfl rfl rfl rfl ?_
  refine mT_get m 19 cq_d1 (by decide) rfl rfl ?_
  refine mj_T.pl rfl rfl rfl rfl ?_
  refine mj_T.call rfl rfl (Nat.le_of_ble_eq_true rfl) (Nat.le_of_ble_eq_true rfl) (mV_of m 18 cq_d477 (by decide) rfl (by decide) rfl _) rfl (mj_Ok.up (by omega) (mF_87 (D := 0) m b fr_d477 fa)) (fun v g1 hq => ?_) (fun i g1 hq => ?_)
  rotate_left
  · obtain ⟨_, _, _, _, hq⟩ := hq; cases hq
  obtain ⟨V2, _, m3, b4, hq⟩ := hq
  cases hq
  refine mj_T.eq (pc2 := 8) (st2 := []) ?_ rfl rfl rfl rfl
  refine mj_T.pl rfl rfl rfl rfl ?_
  refine mT_get m3 19 cq_d1 (by decide) rfl rfl ?_
  refine jT.lc 1 rfl rfl ?_
  refine mj_T.call rfl rfl (Nat.le_of_ble_eq_true rfl) (Nat.le_of_ble_eq_true rfl) (mV_of m3 18 cq_d479 (by decide) rfl (by decide) rfl _) rfl (mj_Ok.up (by omega) (mF_86 (D := 0) m3 b4 fr_d479 ⟨by decide, by decide⟩)) (fun v g5 hq => ?_) (fun i g5 hq => ?_)
  rotate_left
  · obtain ⟨_, _, _, _, hq⟩ := hq; cases hq
  obtain ⟨V6, _, m7, b8, hq⟩ := hq
  cases hq
  refine mj_T.eq (pc2 := 16) (st2 := []) ?_ rfl rfl rfl rfl
  refine mj_T.pl rfl rfl rfl rfl ?_
  refine mj_T.pl (loc' := [some (.ref 1), some (.ref a), some (.long (jl y)), none, some (.int (jn t)), some (.int (jn 0)), none, none]) rfl rfl rfl rfl ?_
  exact mZ_159_loop fa hy ht t.toNat 0 ⟨by decide, by decide⟩ (by omega) _ _ _ m7 b8
theorem mZ_18 (m : jM g n V X h) (b : by0 V) (dg : DG X) {p q : Nat} (kp : cK p = 2) (kq : cK q = 2) (hjp : ∀ j, jR (X p j)) (hjq : ∀ j, jR (X q j)) (np : p ≠ 80) (nq : q ≠ 80) : mj_Ok (D + 5) 18 [.ref 19, .ref p, .ref q] h (fun r => ∃ (V2 : Nat → Int) (X2 : Nat → Nat → Int) (z : Int) (h2 : mj_H), jM g n V2 X2 h2 ∧ by0 V2 ∧ DG X2 ∧ sBn X X2 ∧ (z = 0 ∨ z = 1) ∧ r = (.inl (some (.int (jn z))), h2)) := by
  refine mj_Ok.of (M := mj_m18) rfl rfl rfl ?_
  refine mj_T.pl rfl rfl rfl rfl ?_
  refine mT_get m 11 cq_d19 (by decide) rfl rfl ?_
  refine mj_T.pl rfl rfl rfl rfl ?_
  refine jT.lc 1 rfl rfl ?_
  refine mj_T.call rfl rfl (Nat.le_of_ble_eq_true rfl) (Nat.le_of_ble_eq_true rfl) (mV_of m 13 cq_d80 (by decide) rfl (by decide) rfl _) rfl (mj_Ok.up (by omega) (mZ_40 (D := 0) m b cq_d80 kp ⟨by decide, by decide⟩ (fun j => by rw [show X p j = X p j from rfl]; exact hjp j))) (fun v g1 hq => ?_) (fun i g1 hq => ?_)
  rotate_left
  · obtain ⟨_, _, _, _, _, _, hq⟩ := hq; cases hq
  obtain ⟨V2, d5, _, m3, b4, hd5, hq⟩ := hq
  cases hq
  refine mj_T.eq (pc2 := 9) (st2 := []) ?_ rfl rfl rfl rfl
  refine mj_T.pl rfl rfl rfl rfl ?_
  refine mT_get m3 11 cq_d19 (by decide) rfl rfl ?_
  refine mj_T.pl rfl rfl rfl rfl ?_
  refine jT.lc 1 rfl rfl ?_
  refine mj_T.call rfl rfl (Nat.le_of_ble_eq_true rfl) (Nat.le_of_ble_eq_true rfl) (mV_of m3 13 cq_d50 (by decide) rfl (by decide) rfl _) rfl (mj_Ok.up (by omega) (mZ_40 (D := 0) m3 b4 cq_d50 kq ⟨by decide, by decide⟩ (fun j => by rw [xup_oth (by omega)]; exact hjq j))) (fun v g6 hq => ?_) (fun i g6 hq => ?_)
  rotate_left
  · obtain ⟨_, _, _, _, _, _, hq⟩ := hq; cases hq
  obtain ⟨V7, d10, _, m8, b9, hd10, hq⟩ := hq
  cases hq
  refine mj_T.eq (pc2 := 18) (st2 := []) ?_ rfl rfl rfl rfl
  have l20 := mK_z.1
  have l50 := mK_z.2.1
  have l80 := mK_z.2.2.1
  rw [l80] at hd5
  rw [l50] at hd10
  have dd : DG (xup (xup X 80 2 d5) 50 2 d10) := (dg.deg (by rw [l80]; exact hd5)).deg (by rw [l50]; exact hd10)
  have ss : sBn X (xup (xup X 80 2 d5) 50 2 d10) := (sBn.deg cq_d80).tr (sBn.deg cq_d50)
  refine mj_T.pl rfl rfl rfl rfl ?_
  refine mT_get m8 11 cq_d19 (by decide) rfl rfl ?_
  refine mT_get (v := .int (jn d5)) m8 13 cq_d80 (by decide) rfl (congrArg (fun z : Int => some (Value.int (jn z))) ((xup_ne _ _ (Or.inl (by decide))).trans (xup_at _ _ _ _))) ?_
  refine mj_T.pl rfl rfl rfl rfl ?_
  refine mT_get m8 11 cq_d19 (by decide) rfl rfl ?_
  refine mT_get (v := .int (jn d10)) m8 13 cq_d50 (by decide) rfl (congrArg (fun z : Int => some (Value.int (jn z))) (xup_at _ _ _ _)) ?_
  refine mj_T.icmp (a := d5) (b := d10) rfl ⟨by omega, by omega⟩ ⟨by omega, by omega⟩ (fun c11 => ?_) (fun c11 => ?_)
  · simp only [jc, Bool.not_eq_true', Bool.not_eq_false', decide_eq_true_eq, decide_eq_false_iff_not] at c11
    refine mj_T.pl rfl rfl rfl rfl ?_
    refine mT_get m8 11 cq_d19 (by decide) rfl rfl ?_
    refine mT_get (v := .int (jn d5)) m8 13 cq_d80 (by decide) rfl (congrArg (fun z : Int => some (Value.int (jn z))) ((xup_ne _ _ (Or.inl (by decide))).trans (xup_at _ _ _ _))) ?_
    refine mj_T.if0 (a := d5) rfl ⟨by omega, by omega⟩ (fun c12 => ?_) (fun c12 => ?_)
    · simp only [jc, Bool.not_eq_true', Bool.not_eq_false', decide_eq_true_eq, decide_eq_false_iff_not] at c12
      refine mj_T.pl rfl rfl rfl rfl ?_
      exact mj_T.ret rfl rfl rfl ⟨_, _, 0, _, m8, b9, dd, ss, by decide, rfl⟩
    · simp only [jc, Bool.not_eq_true', Bool.not_eq_false', decide_eq_true_eq, decide_eq_false_iff_not] at c12
      iterate 2 refine mj_T.pl rfl rfl rfl rfl ?_
      exact mj_T.ret rfl rfl rfl ⟨_, _, 1, _, m8, b9, dd, ss, by decide, rfl⟩
  · simp only [jc, Bool.not_eq_true', Bool.not_eq_false', decide_eq_true_eq, decide_eq_false_iff_not] at c11
    refine mj_T.pl rfl rfl rfl rfl ?_
    refine mT_get m8 11 cq_d19 (by decide) rfl rfl ?_
    refine mT_get (v := .int (jn d10)) m8 13 cq_d50 (by decide) rfl (congrArg (fun z : Int => some (Value.int (jn z))) (xup_at _ _ _ _)) ?_
    refine mj_T.if0 (a := d10) rfl ⟨by omega, by omega⟩ (fun c13 => ?_) (fun c13 => ?_)
    · simp only [jc, Bool.not_eq_true', Bool.not_eq_false', decide_eq_true_eq, decide_eq_false_iff_not] at c13
      iterate 2 refine mj_T.pl rfl rfl rfl rfl ?_
      refine mT_get m8 11 cq_d19 (by decide) rfl rfl ?_
      refine mj_T.pl rfl rfl rfl rfl ?_
      refine mT_get m8 11 cq_d19 (by decide) rfl rfl ?_
      refine mj_T.call rfl rfl (Nat.le_of_ble_eq_true rfl) (Nat.le_of_ble_eq_true rfl) (mV_of m8 11 cq_d19 (by decide) rfl (by decide) rfl _) rfl (mj_Ok.up (by omega) (mZ_19 (D := 0) m8 b9 (dq := d10.toNat) (dr := d5.toNat) (by rw [xup_at]; omega) (by rw [xup_ne _ _ (Or.inl (by decide)), xup_at]; omega) (by omega) (by omega))) (fun v g14 hq => ?_) (fun i g14 hq => ?_)
      rotate_left
      · obtain ⟨_, _, _, _, _, _, _, _, _, _, hq⟩ := hq; cases hq
      obtain ⟨V9, X9, c9, _, m9, b9, e9, q20, q80, hc9, hq⟩ := hq
      cases hq
      refine mj_T.eq (pc2 := 73) (st2 := [.int (jn c9)]) ?_ rfl rfl rfl rfl
      have d2 : DG X9 := fun p kp => by
        by_cases p1 : p = 20
        · subst p1
          exact q20
        by_cases p2 : p = 80
        · subst p2
          exact q80
        rw [e9 p p1 p2]
        exact dd p kp
      have s2 : sBn X X9 := ss.tr ⟨congrFun (e9 1 (by decide) (by decide)) 2, congrFun (e9 1 (by decide) (by decide)) 3, fun c hc => e9 c (by omega) (by omega)⟩
      rcases (show c9 = 0 ∨ c9 = 1 by omega) with rfl | rfl
      · exact mj_T.ret rfl rfl rfl ⟨_, _, 0, _, m9, b9, d2, s2, Or.inl rfl, rfl⟩
      · exact mj_T.ret rfl rfl rfl ⟨_, _, 1, _, m9, b9, d2, s2, Or.inr rfl, rfl⟩
    · simp only [jc, Bool.not_eq_true', Bool.not_eq_false', decide_eq_true_eq, decide_eq_false_iff_not] at c13
      refine mj_T.pl rfl rfl rfl rfl ?_
      refine mT_get m8 11 cq_d19 (by decide) rfl rfl ?_
      refine mT_get (v := .int (jn d5)) m8 13 cq_d80 (by decide) rfl (congrArg (fun z : Int => some (Value.int (jn z))) ((xup_ne _ _ (Or.inl (by decide))).trans (xup_at _ _ _ _))) ?_
      refine mj_T.if0 (a := d5) rfl ⟨by omega, by omega⟩ (fun c15 => ?_) (fun c15 => ?_)
      · simp only [jc, Bool.not_eq_true', Bool.not_eq_false', decide_eq_true_eq, decide_eq_false_iff_not] at c15
        refine mj_T.pl rfl rfl rfl rfl ?_
        exact mj_T.ret rfl rfl rfl ⟨_, _, 0, _, m8, b9, dd, ss, by decide, rfl⟩
      · simp only [jc, Bool.not_eq_true', Bool.not_eq_false', decide_eq_true_eq, decide_eq_false_iff_not] at c15
        iterate 2 refine mj_T.pl rfl rfl rfl rfl ?_
        exact mj_T.ret rfl rfl rfl ⟨_, _, 1, _, m8, b9, dd, ss, by decide, rfl⟩
end MRD
/-! The class: calls that only read leave the benches. -/
def rjR (X : Nat → Nat → Int) : Prop := ∀ a, cK a = 2 → ∀ j, jR (X a j)
theorem rjR.deg {X : Nat → Nat → Int} (q : rjR X) {p i : Nat} {v : Int} (h : cK p = 13) : rjR (xup X p i v) := fun a ka j => by
  rw [xup_oth (fun e => by rw [e, h] at ka; cases ka)]
  exact q a ka j
theorem cq_2 : ((List.range 563).all (fun c => !(decide (cK c = 2)) || (decide (c < 180 ∨ 444 ≤ c)))) = true := by decide +kernel
theorem rjR.fx {X X1 : Nat → Nat → Int} (q : rjR X) (f : FX X X1) : rjR X1 := fun a ka j => by
  have h1 := jall cq_2 (cK_in (a := a) (by omega))
  simp only [ka, decide_true, Bool.not_true, Bool.false_or, decide_eq_true_eq] at h1
  rw [f a (by omega) (by omega) (by omega) h1]
  exact q a ka j
section MRP
variable {g h : mj_H} {n D u : Nat} {N : Nat → Int} {H : Nat → Nat → Int}
theorem pX_coefficient (hg : g.length ≤ n) (A : AS N u H) (s : cS g n N u H h) {a : Int} (ra : -2147483648 ≤ a ∧ a ≤ 2147483647) {e : Int} (re : -2147483648 ≤ e ∧ e ≤ 2147483647) : mj_Ok (D + 3) 122 [.ref 1, .int (jn a), .int (jn e)] h (rdL g n N u H) := by
  obtain ⟨V, X, m, b, d, c, jx⟩ := s.nr A
  have jx : rjR X := jx
  refine mj_Ok.of (M := mj_m122) rfl rfl rfl ?_
  iterate 2 refine mj_T.pl rfl rfl rfl rfl ?_
  refine mj_T.call rfl rfl (Nat.le_of_ble_eq_true rfl) (Nat.le_of_ble_eq_true rfl) (mV_of m 19 cq_d1 (by decide) rfl (by decide) rfl _) rfl (mj_Ok.up (by omega) (mC_rowOf (D := 0) m (i := a) (by omega))) (fun v g1 hq => ?_) (fun i g1 hq => ?_)
  rotate_left
  · rcases hq with ⟨_, hq⟩ | ⟨hn, hq⟩
    · cases hq
    · cases hq
      exact Or.inl ⟨rfl, Or.inr ⟨_, _, cS.thr hg m b d (c.sb (sBn.rf X)), rfl⟩⟩
  rcases hq with ⟨ka, hq⟩ | ⟨_, hq⟩
  rotate_left
  · cases hq
  cases hq
  refine mj_T.eq (pc2 := 5) (st2 := [.ref (4 + a.toNat)]) ?_ rfl rfl rfl rfl
  refine mj_T.pl (loc' := [some (.ref 1), some (.int (jn a)), some (.int (jn e)), some (.ref (4 + a.toNat))]) rfl rfl rfl rfl ?_
  refine mj_T.pl rfl rfl rfl rfl ?_
  refine mj_T.call rfl rfl (Nat.le_of_ble_eq_true rfl) (Nat.le_of_ble_eq_true rfl) rfl rfl (mj_Ok.up (by omega) (mC_exponent (D := 0) (i := e) (by omega))) (fun v g2 hq => ?_) (fun i g2 hq => ?_)
  rotate_left
  · rcases hq with ⟨_, hq⟩ | ⟨hn, hq⟩
    · cases hq
    · cases hq
      exact Or.inl ⟨rfl, Or.inr ⟨_, _, cS.thr hg m b d (c.sb (sBn.rf X)), rfl⟩⟩
  rcases hq with ⟨ke, hq⟩ | ⟨_, hq⟩
  rotate_left
  · cases hq
  cases hq
  refine mj_T.eq (pc2 := 10) (st2 := []) ?_ rfl rfl rfl rfl
  iterate 3 refine mj_T.pl rfl rfl rfl rfl ?_
  refine mT_lald m (mK_rt a.toNat (by omega)) rfl ⟨by omega, by omega⟩ ?_
  refine mj_T.call rfl rfl (Nat.le_of_ble_eq_true rfl) (Nat.le_of_ble_eq_true rfl) (mV_of m 19 cq_d1 (by decide) rfl (by decide) rfl _) rfl (mj_Ok.up (by omega) (mZ_158 (D := 0) m b (jx _ (mK_rt a.toNat (by omega)) _))) (fun v g3 hq => ?_) (fun i g3 hq => ?_)
  rotate_left
  · obtain ⟨_, _, _, _, _, _, hq⟩ := hq; cases hq
  obtain ⟨V4, z7, _, m5, b6, rz7, hq⟩ := hq
  cases hq
  refine mj_T.eq (pc2 := 17) (st2 := [.int (jn z7)]) ?_ rfl rfl rfl rfl
  exact mj_T.ret rfl rfl rfl (Or.inl ⟨_, _, ⟨_, _, m5, b6, d, (c.sb (sBn.rf X))⟩, rfl⟩)
theorem pX_content (hg : g.length ≤ n) (A : AS N u H) (s : cS g n N u H h) {a : Int} (ra : -2147483648 ≤ a ∧ a ≤ 2147483647) : mj_Ok (D + 3) 123 [.ref 1, .int (jn a)] h (rdL g n N u H) := by
  obtain ⟨V, X, m, b, d, c, jx⟩ := s.nr A
  have jx : rjR X := jx
  refine mj_Ok.of (M := mj_m123) rfl rfl rfl ?_
  iterate 3 refine mj_T.pl rfl rfl rfl rfl ?_
  refine mj_T.call rfl rfl (Nat.le_of_ble_eq_true rfl) (Nat.le_of_ble_eq_true rfl) (mV_of m 19 cq_d1 (by decide) rfl (by decide) rfl _) rfl (mj_Ok.up (by omega) (mC_rowOf (D := 0) m (i := a) (by omega))) (fun v g1 hq => ?_) (fun i g1 hq => ?_)
  rotate_left
  · rcases hq with ⟨_, hq⟩ | ⟨hn, hq⟩
    · cases hq
    · cases hq
      exact Or.inl ⟨rfl, Or.inr ⟨_, _, cS.thr hg m b d (c.sb (sBn.rf X)), rfl⟩⟩
  rcases hq with ⟨ka, hq⟩ | ⟨_, hq⟩
  rotate_left
  · cases hq
  cases hq
  refine mj_T.eq (pc2 := 6) (st2 := [.ref (4 + a.toNat), .ref 1]) ?_ rfl rfl rfl rfl
  refine mj_T.call rfl rfl (Nat.le_of_ble_eq_true rfl) (Nat.le_of_ble_eq_true rfl) rfl rfl (mj_Ok.up (by omega) (mS_cont (D := 0) m (mK_rt a.toNat (by omega)) ((c.sb (sBn.rf X)).sm A.1 ka))) (fun v g2 hq => ?_) (fun i g2 hq => ?_)
  rotate_left
  · cases hq
  cases hq
  have hcg : cgd (X (4 + a.toNat)) 13 ≤ 999999999999999999 := cgd_bd 13 ((c.sb (sBn.rf X)).sm A.1 ka)
  refine mj_T.eq (pc2 := 9) (st2 := [.long (jl ((cgd (X (4 + a.toNat)) 13 : Nat) : Int)), .ref 1]) ?_ rfl rfl rfl rfl
  refine mj_T.call rfl rfl (Nat.le_of_ble_eq_true rfl) (Nat.le_of_ble_eq_true rfl) (mV_of m 19 cq_d1 (by decide) rfl (by decide) rfl _) rfl (mj_Ok.up (by omega) (mZ_158 (D := 0) m b ⟨by omega, by omega⟩)) (fun v g3 hq => ?_) (fun i g3 hq => ?_)
  rotate_left
  · obtain ⟨_, _, _, _, _, _, hq⟩ := hq; cases hq
  obtain ⟨V4, z7, _, m5, b6, rz7, hq⟩ := hq
  cases hq
  refine mj_T.eq (pc2 := 12) (st2 := [.int (jn z7)]) ?_ rfl rfl rfl rfl
  exact mj_T.ret rfl rfl rfl (Or.inl ⟨_, _, ⟨_, _, m5, b6, d, (c.sb (sBn.rf X))⟩, rfl⟩)
theorem pX_value (hg : g.length ≤ n) (A : AS N u H) (s : cS g n N u H h) {a : Int} (ra : -2147483648 ≤ a ∧ a ≤ 2147483647) {f1 : Int} (rf1 : -2147483648 ≤ f1 ∧ f1 ≤ 2147483647) {f2 : Int} (rf2 : -2147483648 ≤ f2 ∧ f2 ≤ 2147483647) : mj_Ok (D + 6) 124 [.ref 1, .int (jn a), .int (jn f1), .int (jn f2)] h (rdL g n N u H) := by
  obtain ⟨V, X, m, b, d, c, jx⟩ := s.nr A
  have jx : rjR X := jx
  refine mj_Ok.of (M := mj_m124) rfl rfl rfl ?_
  iterate 2 refine mj_T.pl rfl rfl rfl rfl ?_
  refine mj_T.call rfl rfl (Nat.le_of_ble_eq_true rfl) (Nat.le_of_ble_eq_true rfl) (mV_of m 19 cq_d1 (by decide) rfl (by decide) rfl _) rfl (mj_Ok.up (by omega) (mC_rowOf (D := 0) m (i := a) (by omega))) (fun v g1 hq => ?_) (fun i g1 hq => ?_)
  rotate_left
  · rcases hq with ⟨_, hq⟩ | ⟨hn, hq⟩
    · cases hq
    · cases hq
      exact Or.inl ⟨rfl, Or.inr ⟨_, _, cS.thr hg m b d (c.sb (sBn.rf X)), rfl⟩⟩
  rcases hq with ⟨ka, hq⟩ | ⟨_, hq⟩
  rotate_left
  · cases hq
  cases hq
  refine mj_T.eq (pc2 := 5) (st2 := [.ref (4 + a.toNat)]) ?_ rfl rfl rfl rfl
  refine mj_T.pl (loc' := [some (.ref 1), some (.int (jn a)), some (.int (jn f1)), some (.int (jn f2)), some (.ref (4 + a.toNat))]) rfl rfl rfl rfl ?_
  iterate 2 refine mj_T.pl rfl rfl rfl rfl ?_
  refine mj_T.call rfl rfl (Nat.le_of_ble_eq_true rfl) (Nat.le_of_ble_eq_true rfl) rfl rfl (mj_Ok.up (by omega) (mC_fraction (D := 0) (i := f1) (j := f2) (by omega) (by omega))) (fun v g2 hq => ?_) (fun i g2 hq => ?_)
  rotate_left
  · rcases hq with ⟨_, hq⟩ | ⟨hn, hq⟩
    · cases hq
    · cases hq
      exact Or.inl ⟨rfl, Or.inr ⟨_, _, cS.thr hg m b d (c.sb (sBn.rf X)), rfl⟩⟩
  rcases hq with ⟨kff1, hq⟩ | ⟨_, hq⟩
  rotate_left
  · cases hq
  cases hq
  refine mj_T.eq (pc2 := 12) (st2 := []) ?_ rfl rfl rfl rfl
  refine mj_T.pl rfl rfl rfl rfl ?_
  refine mT_get m 19 cq_d1 (by decide) rfl rfl ?_
  iterate 3 refine mj_T.pl rfl rfl rfl rfl ?_
  refine mj_T.call rfl rfl (Nat.le_of_ble_eq_true rfl) (Nat.le_of_ble_eq_true rfl) (mV_of m 11 cq_d19 (by decide) rfl (by decide) rfl _) rfl (mj_Ok.up (by omega) (mZ_27 (D := 0) m b (mK_rt a.toNat (by omega)) (jx _ (mK_rt a.toNat (by omega))) (x := f1) (y := f2) ⟨by omega, by omega⟩ ⟨by omega, by omega⟩)) (fun v g3 hq => ?_) (fun i g3 hq => ?_)
  rotate_left
  · obtain ⟨_, _, _, _, _, _, _, _, hq⟩ := hq; cases hq
  obtain ⟨V4, e7, z8, _, m5, b6, he7, rz8, hq⟩ := hq
  cases hq
  refine mj_T.eq (pc2 := 23) (st2 := [.int (jn z8)]) ?_ rfl rfl rfl rfl
  iterate 3 refine mj_T.pl rfl rfl rfl rfl ?_
  refine mT_get m5 19 cq_d1 (by decide) rfl rfl ?_
  refine mT_get m5 11 cq_d19 (by decide) rfl rfl ?_
  refine mj_T.pl rfl rfl rfl rfl ?_
  refine mj_T.i2l rfl ⟨by omega, by omega⟩ ?_
  refine mj_T.pl rfl rfl rfl rfl ?_
  refine mj_T.call rfl rfl (Nat.le_of_ble_eq_true rfl) (Nat.le_of_ble_eq_true rfl) rfl rfl (mj_Ok.up (by omega) (mS_deg (D := 0) m5 (mK_rt a.toNat (by omega)) ((c.sb ((sBn.rf X).tr (sBn.deg cq_d80))).sm A.1 ka))) (fun v g9 hq => ?_) (fun i g9 hq => ?_)
  rotate_left
  · cases hq
  cases hq
  have ga := fdg_le ((xup X 80 2 e7) (4 + a.toNat)) 13
  refine mj_T.eq (pc2 := 39) (st2 := [.int (jn (((fdg ((xup X 80 2 e7) (4 + a.toNat)) 13) : Int) - 1)), .long (jl f2), .ref 164, .ref 1]) ?_ rfl rfl rfl rfl
  refine mj_T.call rfl rfl (Nat.le_of_ble_eq_true rfl) (Nat.le_of_ble_eq_true rfl) (mV_of m5 19 cq_d1 (by decide) rfl (by decide) rfl _) rfl (mj_Ok.up (by omega) (mZ_159 (D := 0) m5 b6 fr_d164 ⟨by omega, by omega⟩ ⟨by omega, by omega⟩)) (fun v g10 hq => ?_) (fun i g10 hq => ?_)
  rotate_left
  · obtain ⟨_, _, _, _, _, _, hq⟩ := hq; cases hq
  obtain ⟨V11, z14, _, m12, b13, rz14, hq⟩ := hq
  cases hq
  refine mj_T.eq (pc2 := 42) (st2 := [.int (jn z14)]) ?_ rfl rfl rfl rfl
  exact mj_T.ret rfl rfl rfl (Or.inl ⟨_, _, ⟨_, _, m12, b13, (d.deg he7), (c.sb ((sBn.rf X).tr (sBn.deg cq_d80)))⟩, rfl⟩)
theorem pX_divides (hg : g.length ≤ n) (A : AS N u H) (s : cS g n N u H h) {a : Int} (ra : -2147483648 ≤ a ∧ a ≤ 2147483647) {a2 : Int} (ra2 : -2147483648 ≤ a2 ∧ a2 ≤ 2147483647) : mj_Ok (D + 6) 125 [.ref 1, .int (jn a), .int (jn a2)] h (rdL g n N u H) := by
  obtain ⟨V, X, m, b, d, c, jx⟩ := s.nr A
  have jx : rjR X := jx
  refine mj_Ok.of (M := mj_m125) rfl rfl rfl ?_
  iterate 2 refine mj_T.pl rfl rfl rfl rfl ?_
  refine mj_T.call rfl rfl (Nat.le_of_ble_eq_true rfl) (Nat.le_of_ble_eq_true rfl) (mV_of m 19 cq_d1 (by decide) rfl (by decide) rfl _) rfl (mj_Ok.up (by omega) (mC_rowOf (D := 0) m (i := a) (by omega))) (fun v g1 hq => ?_) (fun i g1 hq => ?_)
  rotate_left
  · rcases hq with ⟨_, hq⟩ | ⟨hn, hq⟩
    · cases hq
    · cases hq
      exact Or.inl ⟨rfl, Or.inr ⟨_, _, cS.thr hg m b d (c.sb (sBn.rf X)), rfl⟩⟩
  rcases hq with ⟨ka, hq⟩ | ⟨_, hq⟩
  rotate_left
  · cases hq
  cases hq
  refine mj_T.eq (pc2 := 5) (st2 := [.ref (4 + a.toNat)]) ?_ rfl rfl rfl rfl
  refine mj_T.pl (loc' := [some (.ref 1), some (.int (jn a)), some (.int (jn a2)), some (.ref (4 + a.toNat)), none]) rfl rfl rfl rfl ?_
  iterate 2 refine mj_T.pl rfl rfl rfl rfl ?_
  refine mj_T.call rfl rfl (Nat.le_of_ble_eq_true rfl) (Nat.le_of_ble_eq_true rfl) (mV_of m 19 cq_d1 (by decide) rfl (by decide) rfl _) rfl (mj_Ok.up (by omega) (mC_rowOf (D := 0) m (i := a2) (by omega))) (fun v g2 hq => ?_) (fun i g2 hq => ?_)
  rotate_left
  · rcases hq with ⟨_, hq⟩ | ⟨hn, hq⟩
    · cases hq
    · cases hq
      exact Or.inl ⟨rfl, Or.inr ⟨_, _, cS.thr hg m b d (c.sb (sBn.rf X)), rfl⟩⟩
  rcases hq with ⟨ka2, hq⟩ | ⟨_, hq⟩
  rotate_left
  · cases hq
  cases hq
  refine mj_T.eq (pc2 := 11) (st2 := [.ref (4 + a2.toNat)]) ?_ rfl rfl rfl rfl
  refine mj_T.pl (loc' := [some (.ref 1), some (.int (jn a)), some (.int (jn a2)), some (.ref (4 + a.toNat)), some (.ref (4 + a2.toNat))]) rfl rfl rfl rfl ?_
  refine mj_T.pl rfl rfl rfl rfl ?_
  refine mT_get m 19 cq_d1 (by decide) rfl rfl ?_
  iterate 2 refine mj_T.pl rfl rfl rfl rfl ?_
  refine mj_T.call rfl rfl (Nat.le_of_ble_eq_true rfl) (Nat.le_of_ble_eq_true rfl) (mV_of m 11 cq_d19 (by decide) rfl (by decide) rfl _) rfl (mj_Ok.up (by omega) (mZ_18 (D := 0) m b d (mK_rt a2.toNat (by omega)) (mK_rt a.toNat (by omega)) (jx _ (mK_rt a2.toNat (by omega))) (jx _ (mK_rt a.toNat (by omega))) (by omega) (by omega))) (fun v g3 hq => ?_) (fun i g3 hq => ?_)
  rotate_left
  · obtain ⟨_, _, _, _, _, _, _, _, _, hq⟩ := hq; cases hq
  obtain ⟨V4, X7, z10, _, m5, b6, d8, s9, rz10, hq⟩ := hq
  cases hq
  refine mj_T.eq (pc2 := 23) (st2 := [.int (jn z10)]) ?_ rfl rfl rfl rfl
  rcases rz10 with rfl | rfl
  · exact mj_T.ret rfl rfl rfl (Or.inl ⟨_, _, ⟨_, _, m5, b6, d8, (c.sb ((sBn.rf X).tr s9))⟩, rfl⟩)
  · exact mj_T.ret rfl rfl rfl (Or.inl ⟨_, _, ⟨_, _, m5, b6, d8, (c.sb ((sBn.rf X).tr s9))⟩, rfl⟩)
theorem pX_realRoots (hg : g.length ≤ n) (A : AS N u H) (s : cS g n N u H h) {a : Int} (ra : -2147483648 ≤ a ∧ a ≤ 2147483647) : mj_Ok (D + 8) 131 [.ref 1, .int (jn a)] h (rdL g n N u H) := by
  obtain ⟨V, X, m, b, d, c, jx⟩ := s.nr A
  have jx : rjR X := jx
  refine mj_Ok.of (M := mj_m131) rfl rfl rfl ?_
  iterate 2 refine mj_T.pl rfl rfl rfl rfl ?_
  refine mj_T.call rfl rfl (Nat.le_of_ble_eq_true rfl) (Nat.le_of_ble_eq_true rfl) (mV_of m 19 cq_d1 (by decide) rfl (by decide) rfl _) rfl (mj_Ok.up (by omega) (mC_rowOf (D := 0) m (i := a) (by omega))) (fun v g1 hq => ?_) (fun i g1 hq => ?_)
  rotate_left
  · rcases hq with ⟨_, hq⟩ | ⟨hn, hq⟩
    · cases hq
    · cases hq
      exact Or.inl ⟨rfl, Or.inr ⟨_, _, cS.thr hg m b d (c.sb (sBn.rf X)), rfl⟩⟩
  rcases hq with ⟨ka, hq⟩ | ⟨_, hq⟩
  rotate_left
  · cases hq
  cases hq
  refine mj_T.eq (pc2 := 5) (st2 := [.ref (4 + a.toNat)]) ?_ rfl rfl rfl rfl
  refine mj_T.pl (loc' := [some (.ref 1), some (.int (jn a)), some (.ref (4 + a.toNat))]) rfl rfl rfl rfl ?_
  refine mj_T.pl rfl rfl rfl rfl ?_
  refine mj_T.call rfl rfl (Nat.le_of_ble_eq_true rfl) (Nat.le_of_ble_eq_true rfl) rfl rfl (mj_Ok.up (by omega) (mC_zero (D := 0) m (mK_rt a.toNat (by omega)) ((c.sb (sBn.rf X)).sm A.1 ka))) (fun v g2 hq => ?_) (fun i g2 hq => ?_)
  rotate_left
  · rcases hq with ⟨_, hq⟩ | ⟨hn, hq⟩
    · cases hq
    · cases hq
      exact Or.inl ⟨rfl, Or.inr ⟨_, _, cS.thr hg m b d (c.sb (sBn.rf X)), rfl⟩⟩
  rcases hq with ⟨kz, hq⟩ | ⟨_, hq⟩
  rotate_left
  · cases hq
  cases hq
  refine mj_T.eq (pc2 := 10) (st2 := []) ?_ rfl rfl rfl rfl
  refine mj_T.pl rfl rfl rfl rfl ?_
  refine mT_get m 19 cq_d1 (by decide) rfl rfl ?_
  iterate 2 refine mj_T.pl rfl rfl rfl rfl ?_
  refine mj_T.call rfl rfl (Nat.le_of_ble_eq_true rfl) (Nat.le_of_ble_eq_true rfl) rfl rfl (mj_Ok.up (by omega) (mS_cont (D := 0) m (mK_rt a.toNat (by omega)) ((c.sb (sBn.rf X)).sm A.1 ka))) (fun v g3 hq => ?_) (fun i g3 hq => ?_)
  rotate_left
  · cases hq
  cases hq
  have hcg : cgd (X (4 + a.toNat)) 13 ≤ 999999999999999999 := cgd_bd 13 ((c.sb (sBn.rf X)).sm A.1 ka)
  refine mj_T.eq (pc2 := 19) (st2 := [.long (jl ((cgd (X (4 + a.toNat)) 13 : Nat) : Int)), .ref (4 + a.toNat), .ref 172]) ?_ rfl rfl rfl rfl
  refine mj_T.call rfl rfl (Nat.le_of_ble_eq_true rfl) (Nat.le_of_ble_eq_true rfl) (mV_of m 16 cq_d172 (by decide) rfl (by decide) rfl _) rfl (mj_Ok.up (by omega) (mZ_68 (D := 0) m b d (mK_rt a.toNat (by omega)) ⟨by omega, by omega⟩ (jx _ (mK_rt a.toNat (by omega))))) (fun v g4 hq => ?_) (fun i g4 hq => ?_)
  rotate_left
  · obtain ⟨_, _, _, _, _, _, _, hq⟩ := hq; cases hq
  obtain ⟨V5, X8, _, m6, b7, f9, d10, hq⟩ := hq
  cases hq
  refine mj_T.eq (pc2 := 22) (st2 := []) ?_ rfl rfl rfl rfl
  refine mj_T.pl rfl rfl rfl rfl ?_
  refine mT_get m6 19 cq_d1 (by decide) rfl rfl ?_
  refine mj_T.pl rfl rfl rfl rfl ?_
  refine mj_T.call rfl rfl (Nat.le_of_ble_eq_true rfl) (Nat.le_of_ble_eq_true rfl) (mV_of m6 16 cq_d172 (by decide) rfl (by decide) rfl _) rfl (mj_Ok.up (by omega) (mZ_77 (D := 0) m6 d10 (s := (-1)) ⟨by omega, by omega⟩)) (fun v g11 hq => ?_) (fun i g11 hq => ?_)
  rotate_left
  · obtain ⟨_, _, hq⟩ := hq; cases hq
  obtain ⟨z12, rz12, hq⟩ := hq
  cases hq
  refine mj_T.eq (pc2 := 30) (st2 := [.int (jn z12)]) ?_ rfl rfl rfl rfl
  refine mj_T.pl rfl rfl rfl rfl ?_
  refine mT_get m6 19 cq_d1 (by decide) rfl rfl ?_
  refine mj_T.pl rfl rfl rfl rfl ?_
  refine mj_T.call rfl rfl (Nat.le_of_ble_eq_true rfl) (Nat.le_of_ble_eq_true rfl) (mV_of m6 16 cq_d172 (by decide) rfl (by decide) rfl _) rfl (mj_Ok.up (by omega) (mZ_77 (D := 0) m6 d10 (s := 1) ⟨by omega, by omega⟩)) (fun v g13 hq => ?_) (fun i g13 hq => ?_)
  rotate_left
  · obtain ⟨_, _, hq⟩ := hq; cases hq
  obtain ⟨z14, rz14, hq⟩ := hq
  cases hq
  refine mj_T.eq (pc2 := 38) (st2 := [.int (jn z14), .int (jn z12)]) ?_ rfl rfl rfl rfl
  refine mj_T.isub (a := z12) (b := z14) rfl ?_
  exact mj_T.ret rfl rfl rfl (Or.inl ⟨_, _, ⟨_, _, m6, b7, d10, (c.sb ((sBn.rf X).tr (sBn.fx f9)))⟩, rfl⟩)
theorem pX_rootsBetween (hg : g.length ≤ n) (A : AS N u H) (s : cS g n N u H h) {a : Int} (ra : -2147483648 ≤ a ∧ a ≤ 2147483647) {f1 : Int} (rf1 : -2147483648 ≤ f1 ∧ f1 ≤ 2147483647) {f2 : Int} (rf2 : -2147483648 ≤ f2 ∧ f2 ≤ 2147483647) {f3 : Int} (rf3 : -2147483648 ≤ f3 ∧ f3 ≤ 2147483647) {f4 : Int} (rf4 : -2147483648 ≤ f4 ∧ f4 ≤ 2147483647) : mj_Ok (D + 8) 132 [.ref 1, .int (jn a), .int (jn f1), .int (jn f2), .int (jn f3), .int (jn f4)] h (rdL g n N u H) := by
  obtain ⟨V, X, m, b, d, c, jx⟩ := s.nr A
  have jx : rjR X := jx
  refine mj_Ok.of (M := mj_m132) rfl rfl rfl ?_
  iterate 2 refine mj_T.pl rfl rfl rfl rfl ?_
  refine mj_T.call rfl rfl (Nat.le_of_ble_eq_true rfl) (Nat.le_of_ble_eq_true rfl) (mV_of m 19 cq_d1 (by decide) rfl (by decide) rfl _) rfl (mj_Ok.up (by omega) (mC_rowOf (D := 0) m (i := a) (by omega))) (fun v g1 hq => ?_) (fun i g1 hq => ?_)
  rotate_left
  · rcases hq with ⟨_, hq⟩ | ⟨hn, hq⟩
    · cases hq
    · cases hq
      exact Or.inl ⟨rfl, Or.inr ⟨_, _, cS.thr hg m b d (c.sb (sBn.rf X)), rfl⟩⟩
  rcases hq with ⟨ka, hq⟩ | ⟨_, hq⟩
  rotate_left
  · cases hq
  cases hq
  refine mj_T.eq (pc2 := 5) (st2 := [.ref (4 + a.toNat)]) ?_ rfl rfl rfl rfl
  refine mj_T.pl (loc' := [some (.ref 1), some (.int (jn a)), some (.int (jn f1)), some (.int (jn f2)), some (.int (jn f3)), some (.int (jn f4)), some (.ref (4 + a.toNat))]) rfl rfl rfl rfl ?_
  iterate 2 refine mj_T.pl rfl rfl rfl rfl ?_
  refine mj_T.call rfl rfl (Nat.le_of_ble_eq_true rfl) (Nat.le_of_ble_eq_true rfl) rfl rfl (mj_Ok.up (by omega) (mC_fraction (D := 0) (i := f1) (j := f2) (by omega) (by omega))) (fun v g2 hq => ?_) (fun i g2 hq => ?_)
  rotate_left
  · rcases hq with ⟨_, hq⟩ | ⟨hn, hq⟩
    · cases hq
    · cases hq
      exact Or.inl ⟨rfl, Or.inr ⟨_, _, cS.thr hg m b d (c.sb (sBn.rf X)), rfl⟩⟩
  rcases hq with ⟨kff1, hq⟩ | ⟨_, hq⟩
  rotate_left
  · cases hq
  cases hq
  refine mj_T.eq (pc2 := 12) (st2 := []) ?_ rfl rfl rfl rfl
  iterate 2 refine mj_T.pl rfl rfl rfl rfl ?_
  refine mj_T.call rfl rfl (Nat.le_of_ble_eq_true rfl) (Nat.le_of_ble_eq_true rfl) rfl rfl (mj_Ok.up (by omega) (mC_fraction (D := 0) (i := f3) (j := f4) (by omega) (by omega))) (fun v g3 hq => ?_) (fun i g3 hq => ?_)
  rotate_left
  · rcases hq with ⟨_, hq⟩ | ⟨hn, hq⟩
    · cases hq
    · cases hq
      exact Or.inl ⟨rfl, Or.inr ⟨_, _, cS.thr hg m b d (c.sb (sBn.rf X)), rfl⟩⟩
  rcases hq with ⟨kff3, hq⟩ | ⟨_, hq⟩
  rotate_left
  · cases hq
  cases hq
  refine mj_T.eq (pc2 := 19) (st2 := []) ?_ rfl rfl rfl rfl
  iterate 2 refine mj_T.pl rfl rfl rfl rfl ?_
  refine mj_T.imul (a := f1) (b := f4) rfl ?_
  refine jT.anyI (fun z4 rz4 => ?_)
  iterate 2 refine mj_T.pl rfl rfl rfl rfl ?_
  refine mj_T.imul (a := f3) (b := f2) rfl ?_
  refine jT.anyI (fun z5 rz5 => ?_)
  refine mj_T.icmp (a := z4) (b := z5) rfl ⟨by omega, by omega⟩ ⟨by omega, by omega⟩ (fun c6 => ?_) (fun c6 => ?_)
  · simp only [jc, Bool.not_eq_true', Bool.not_eq_false', decide_eq_true_eq, decide_eq_false_iff_not] at c6
    refine mj_T.pl rfl rfl rfl rfl ?_
    refine mj_T.call rfl rfl (Nat.le_of_ble_eq_true rfl) (Nat.le_of_ble_eq_true rfl) rfl rfl (mj_Ok.up (by omega) (mC_zero (D := 0) m (mK_rt a.toNat (by omega)) ((c.sb (sBn.rf X)).sm A.1 ka))) (fun v g7 hq => ?_) (fun i g7 hq => ?_)
    rotate_left
    · rcases hq with ⟨_, hq⟩ | ⟨hn, hq⟩
      · cases hq
      · cases hq
        exact Or.inl ⟨rfl, Or.inr ⟨_, _, cS.thr hg m b d (c.sb (sBn.rf X)), rfl⟩⟩
    rcases hq with ⟨kz, hq⟩ | ⟨_, hq⟩
    rotate_left
    · cases hq
    cases hq
    refine mj_T.eq (pc2 := 43) (st2 := []) ?_ rfl rfl rfl rfl
    refine mj_T.pl rfl rfl rfl rfl ?_
    refine mT_get m 19 cq_d1 (by decide) rfl rfl ?_
    iterate 3 refine mj_T.pl rfl rfl rfl rfl ?_
    refine mj_T.call rfl rfl (Nat.le_of_ble_eq_true rfl) (Nat.le_of_ble_eq_true rfl) (mV_of m 11 cq_d19 (by decide) rfl (by decide) rfl _) rfl (mj_Ok.up (by omega) (mZ_27 (D := 0) m b (mK_rt a.toNat (by omega)) (jx _ (mK_rt a.toNat (by omega))) (x := f1) (y := f2) ⟨by omega, by omega⟩ ⟨by omega, by omega⟩)) (fun v g8 hq => ?_) (fun i g8 hq => ?_)
    rotate_left
    · obtain ⟨_, _, _, _, _, _, _, _, hq⟩ := hq; cases hq
    obtain ⟨V9, e12, z13, _, m10, b11, he12, rz13, hq⟩ := hq
    cases hq
    refine mj_T.eq (pc2 := 54) (st2 := [.int (jn z13)]) ?_ rfl rfl rfl rfl
    refine mj_T.if0 (a := z13) rfl ⟨by omega, by omega⟩ (fun c14 => ?_) (fun c14 => ?_)
    · simp only [jc, Bool.not_eq_true', Bool.not_eq_false', decide_eq_true_eq, decide_eq_false_iff_not] at c14
      exact mj_T.throws rfl rfl rfl (Nat.le_of_ble_eq_true rfl) (Or.inr ⟨_, _, cS.thr hg m10 b11 (d.deg he12) (c.sb ((sBn.rf X).tr (sBn.deg cq_d80))), rfl⟩)
    · simp only [jc, Bool.not_eq_true', Bool.not_eq_false', decide_eq_true_eq, decide_eq_false_iff_not] at c14
      refine mj_T.pl rfl rfl rfl rfl ?_
      refine mT_get m10 19 cq_d1 (by decide) rfl rfl ?_
      iterate 3 refine mj_T.pl rfl rfl rfl rfl ?_
      refine mj_T.call rfl rfl (Nat.le_of_ble_eq_true rfl) (Nat.le_of_ble_eq_true rfl) (mV_of m10 11 cq_d19 (by decide) rfl (by decide) rfl _) rfl (mj_Ok.up (by omega) (mZ_27 (D := 0) m10 b11 (mK_rt a.toNat (by omega)) ((rjR.deg jx cq_d80) _ (mK_rt a.toNat (by omega))) (x := f3) (y := f4) ⟨by omega, by omega⟩ ⟨by omega, by omega⟩)) (fun v g15 hq => ?_) (fun i g15 hq => ?_)
      rotate_left
      · obtain ⟨_, _, _, _, _, _, _, _, hq⟩ := hq; cases hq
      obtain ⟨V16, e19, z20, _, m17, b18, he19, rz20, hq⟩ := hq
      cases hq
      refine mj_T.eq (pc2 := 70) (st2 := [.int (jn z20)]) ?_ rfl rfl rfl rfl
      refine mj_T.if0 (a := z20) rfl ⟨by omega, by omega⟩ (fun c21 => ?_) (fun c21 => ?_)
      · simp only [jc, Bool.not_eq_true', Bool.not_eq_false', decide_eq_true_eq, decide_eq_false_iff_not] at c21
        refine mj_T.pl rfl rfl rfl rfl ?_
        refine mT_get m17 19 cq_d1 (by decide) rfl rfl ?_
        iterate 2 refine mj_T.pl rfl rfl rfl rfl ?_
        refine mj_T.call rfl rfl (Nat.le_of_ble_eq_true rfl) (Nat.le_of_ble_eq_true rfl) rfl rfl (mj_Ok.up (by omega) (mS_cont (D := 0) m17 (mK_rt a.toNat (by omega)) ((c.sb (((sBn.rf X).tr (sBn.deg cq_d80)).tr (sBn.deg cq_d80))).sm A.1 ka))) (fun v g22 hq => ?_) (fun i g22 hq => ?_)
        rotate_left
        · cases hq
        cases hq
        have hcg : cgd ((xup (xup X 80 2 e12) 80 2 e19) (4 + a.toNat)) 13 ≤ 999999999999999999 := cgd_bd 13 ((c.sb (((sBn.rf X).tr (sBn.deg cq_d80)).tr (sBn.deg cq_d80))).sm A.1 ka)
        refine mj_T.eq (pc2 := 92) (st2 := [.long (jl ((cgd ((xup (xup X 80 2 e12) 80 2 e19) (4 + a.toNat)) 13 : Nat) : Int)), .ref (4 + a.toNat), .ref 172]) ?_ rfl rfl rfl rfl
        refine mj_T.call rfl rfl (Nat.le_of_ble_eq_true rfl) (Nat.le_of_ble_eq_true rfl) (mV_of m17 16 cq_d172 (by decide) rfl (by decide) rfl _) rfl (mj_Ok.up (by omega) (mZ_68 (D := 0) m17 b18 ((d.deg he12).deg he19) (mK_rt a.toNat (by omega)) ⟨by omega, by omega⟩ ((rjR.deg (rjR.deg jx cq_d80) cq_d80) _ (mK_rt a.toNat (by omega))))) (fun v g23 hq => ?_) (fun i g23 hq => ?_)
        rotate_left
        · obtain ⟨_, _, _, _, _, _, _, hq⟩ := hq; cases hq
        obtain ⟨V24, X27, _, m25, b26, f28, d29, hq⟩ := hq
        cases hq
        refine mj_T.eq (pc2 := 95) (st2 := []) ?_ rfl rfl rfl rfl
        refine mj_T.pl rfl rfl rfl rfl ?_
        refine mT_get m25 19 cq_d1 (by decide) rfl rfl ?_
        iterate 2 refine mj_T.pl rfl rfl rfl rfl ?_
        refine mj_T.imul (a := f2) (b := f4) rfl ?_
        refine jT.anyI (fun z30 rz30 => ?_)
        refine mj_T.i2l rfl ⟨by omega, by omega⟩ ?_
        refine mj_T.call rfl rfl (Nat.le_of_ble_eq_true rfl) (Nat.le_of_ble_eq_true rfl) (mV_of m25 16 cq_d172 (by decide) rfl (by decide) rfl _) rfl (mj_Ok.up (by omega) (mZ_74 (D := 0) m25 b26 d29 ⟨by omega, by omega⟩)) (fun v g31 hq => ?_) (fun i g31 hq => ?_)
        rotate_left
        · obtain ⟨_, _, _, _, hq⟩ := hq; cases hq
        obtain ⟨V32, _, m33, b34, hq⟩ := hq
        cases hq
        refine mj_T.eq (pc2 := 107) (st2 := []) ?_ rfl rfl rfl rfl
        refine mj_T.pl rfl rfl rfl rfl ?_
        refine mT_get m33 19 cq_d1 (by decide) rfl rfl ?_
        iterate 2 refine mj_T.pl rfl rfl rfl rfl ?_
        refine mj_T.imul (a := f1) (b := f4) rfl ?_
        refine jT.anyI (fun z35 rz35 => ?_)
        refine mj_T.i2l rfl ⟨by omega, by omega⟩ ?_
        refine mj_T.call rfl rfl (Nat.le_of_ble_eq_true rfl) (Nat.le_of_ble_eq_true rfl) (mV_of m33 16 cq_d172 (by decide) rfl (by decide) rfl _) rfl (mj_Ok.up (by omega) (mZ_75 (D := 0) m33 b34 d29 ⟨by omega, by omega⟩)) (fun v g36 hq => ?_) (fun i g36 hq => ?_)
        rotate_left
        · obtain ⟨_, _, _, _, _, _, hq⟩ := hq; cases hq
        obtain ⟨V37, z40, _, m38, b39, rz40, hq⟩ := hq
        cases hq
        refine mj_T.eq (pc2 := 119) (st2 := [.int (jn z40)]) ?_ rfl rfl rfl rfl
        refine mj_T.pl rfl rfl rfl rfl ?_
        refine mT_get m38 19 cq_d1 (by decide) rfl rfl ?_
        iterate 2 refine mj_T.pl rfl rfl rfl rfl ?_
        refine mj_T.imul (a := f3) (b := f2) rfl ?_
        refine jT.anyI (fun z41 rz41 => ?_)
        refine mj_T.i2l rfl ⟨by omega, by omega⟩ ?_
        refine mj_T.call rfl rfl (Nat.le_of_ble_eq_true rfl) (Nat.le_of_ble_eq_true rfl) (mV_of m38 16 cq_d172 (by decide) rfl (by decide) rfl _) rfl (mj_Ok.up (by omega) (mZ_75 (D := 0) m38 b39 d29 ⟨by omega, by omega⟩)) (fun v g42 hq => ?_) (fun i g42 hq => ?_)
        rotate_left
        · obtain ⟨_, _, _, _, _, _, hq⟩ := hq; cases hq
        obtain ⟨V43, z46, _, m44, b45, rz46, hq⟩ := hq
        cases hq
        refine mj_T.eq (pc2 := 131) (st2 := [.int (jn z46), .int (jn z40)]) ?_ rfl rfl rfl rfl
        refine mj_T.isub (a := z40) (b := z46) rfl ?_
        exact mj_T.ret rfl rfl rfl (Or.inl ⟨_, _, ⟨_, _, m44, b45, d29, (c.sb ((((sBn.rf X).tr (sBn.deg cq_d80)).tr (sBn.deg cq_d80)).tr (sBn.fx f28)))⟩, rfl⟩)
      · simp only [jc, Bool.not_eq_true', Bool.not_eq_false', decide_eq_true_eq, decide_eq_false_iff_not] at c21
        exact mj_T.throws rfl rfl rfl (Nat.le_of_ble_eq_true rfl) (Or.inr ⟨_, _, cS.thr hg m17 b18 ((d.deg he12).deg he19) (c.sb (((sBn.rf X).tr (sBn.deg cq_d80)).tr (sBn.deg cq_d80))), rfl⟩)
  · simp only [jc, Bool.not_eq_true', Bool.not_eq_false', decide_eq_true_eq, decide_eq_false_iff_not] at c6
    exact mj_T.throws rfl rfl rfl (Nat.le_of_ble_eq_true rfl) (Or.inr ⟨_, _, cS.thr hg m b d (c.sb (sBn.rf X)), rfl⟩)
theorem pX_sturmLength (hg : g.length ≤ n) (A : AS N u H) (s : cS g n N u H h) {a : Int} (ra : -2147483648 ≤ a ∧ a ≤ 2147483647) : mj_Ok (D + 8) 133 [.ref 1, .int (jn a)] h (rdL g n N u H) := by
  obtain ⟨V, X, m, b, d, c, jx⟩ := s.nr A
  have jx : rjR X := jx
  refine mj_Ok.of (M := mj_m133) rfl rfl rfl ?_
  iterate 2 refine mj_T.pl rfl rfl rfl rfl ?_
  refine mj_T.call rfl rfl (Nat.le_of_ble_eq_true rfl) (Nat.le_of_ble_eq_true rfl) (mV_of m 19 cq_d1 (by decide) rfl (by decide) rfl _) rfl (mj_Ok.up (by omega) (mC_rowOf (D := 0) m (i := a) (by omega))) (fun v g1 hq => ?_) (fun i g1 hq => ?_)
  rotate_left
  · rcases hq with ⟨_, hq⟩ | ⟨hn, hq⟩
    · cases hq
    · cases hq
      exact Or.inl ⟨rfl, Or.inr ⟨_, _, cS.thr hg m b d (c.sb (sBn.rf X)), rfl⟩⟩
  rcases hq with ⟨ka, hq⟩ | ⟨_, hq⟩
  rotate_left
  · cases hq
  cases hq
  refine mj_T.eq (pc2 := 5) (st2 := [.ref (4 + a.toNat)]) ?_ rfl rfl rfl rfl
  refine mj_T.pl (loc' := [some (.ref 1), some (.int (jn a)), some (.ref (4 + a.toNat))]) rfl rfl rfl rfl ?_
  refine mj_T.pl rfl rfl rfl rfl ?_
  refine mj_T.call rfl rfl (Nat.le_of_ble_eq_true rfl) (Nat.le_of_ble_eq_true rfl) rfl rfl (mj_Ok.up (by omega) (mC_zero (D := 0) m (mK_rt a.toNat (by omega)) ((c.sb (sBn.rf X)).sm A.1 ka))) (fun v g2 hq => ?_) (fun i g2 hq => ?_)
  rotate_left
  · rcases hq with ⟨_, hq⟩ | ⟨hn, hq⟩
    · cases hq
    · cases hq
      exact Or.inl ⟨rfl, Or.inr ⟨_, _, cS.thr hg m b d (c.sb (sBn.rf X)), rfl⟩⟩
  rcases hq with ⟨kz, hq⟩ | ⟨_, hq⟩
  rotate_left
  · cases hq
  cases hq
  refine mj_T.eq (pc2 := 10) (st2 := []) ?_ rfl rfl rfl rfl
  refine mj_T.pl rfl rfl rfl rfl ?_
  refine mT_get m 19 cq_d1 (by decide) rfl rfl ?_
  iterate 2 refine mj_T.pl rfl rfl rfl rfl ?_
  refine mj_T.call rfl rfl (Nat.le_of_ble_eq_true rfl) (Nat.le_of_ble_eq_true rfl) rfl rfl (mj_Ok.up (by omega) (mS_cont (D := 0) m (mK_rt a.toNat (by omega)) ((c.sb (sBn.rf X)).sm A.1 ka))) (fun v g3 hq => ?_) (fun i g3 hq => ?_)
  rotate_left
  · cases hq
  cases hq
  have hcg : cgd (X (4 + a.toNat)) 13 ≤ 999999999999999999 := cgd_bd 13 ((c.sb (sBn.rf X)).sm A.1 ka)
  refine mj_T.eq (pc2 := 19) (st2 := [.long (jl ((cgd (X (4 + a.toNat)) 13 : Nat) : Int)), .ref (4 + a.toNat), .ref 172]) ?_ rfl rfl rfl rfl
  refine mj_T.call rfl rfl (Nat.le_of_ble_eq_true rfl) (Nat.le_of_ble_eq_true rfl) (mV_of m 16 cq_d172 (by decide) rfl (by decide) rfl _) rfl (mj_Ok.up (by omega) (mZ_68 (D := 0) m b d (mK_rt a.toNat (by omega)) ⟨by omega, by omega⟩ (jx _ (mK_rt a.toNat (by omega))))) (fun v g4 hq => ?_) (fun i g4 hq => ?_)
  rotate_left
  · obtain ⟨_, _, _, _, _, _, _, hq⟩ := hq; cases hq
  obtain ⟨V5, X8, _, m6, b7, f9, d10, hq⟩ := hq
  cases hq
  refine mj_T.eq (pc2 := 22) (st2 := []) ?_ rfl rfl rfl rfl
  refine mj_T.pl rfl rfl rfl rfl ?_
  refine mT_get m6 19 cq_d1 (by decide) rfl rfl ?_
  refine mT_get m6 16 cq_d172 (by decide) rfl rfl ?_
  exact mj_T.ret rfl rfl rfl (Or.inl ⟨_, _, ⟨_, _, m6, b7, d10, (c.sb ((sBn.rf X).tr (sBn.fx f9)))⟩, rfl⟩)
theorem pX_changes (hg : g.length ≤ n) (A : AS N u H) (s : cS g n N u H h) {a : Int} (ra : -2147483648 ≤ a ∧ a ≤ 2147483647) {f1 : Int} (rf1 : -2147483648 ≤ f1 ∧ f1 ≤ 2147483647) {f2 : Int} (rf2 : -2147483648 ≤ f2 ∧ f2 ≤ 2147483647) : mj_Ok (D + 8) 134 [.ref 1, .int (jn a), .int (jn f1), .int (jn f2)] h (rdL g n N u H) := by
  obtain ⟨V, X, m, b, d, c, jx⟩ := s.nr A
  have jx : rjR X := jx
  refine mj_Ok.of (M := mj_m134) rfl rfl rfl ?_
  iterate 2 refine mj_T.pl rfl rfl rfl rfl ?_
  refine mj_T.call rfl rfl (Nat.le_of_ble_eq_true rfl) (Nat.le_of_ble_eq_true rfl) (mV_of m 19 cq_d1 (by decide) rfl (by decide) rfl _) rfl (mj_Ok.up (by omega) (mC_rowOf (D := 0) m (i := a) (by omega))) (fun v g1 hq => ?_) (fun i g1 hq => ?_)
  rotate_left
  · rcases hq with ⟨_, hq⟩ | ⟨hn, hq⟩
    · cases hq
    · cases hq
      exact Or.inl ⟨rfl, Or.inr ⟨_, _, cS.thr hg m b d (c.sb (sBn.rf X)), rfl⟩⟩
  rcases hq with ⟨ka, hq⟩ | ⟨_, hq⟩
  rotate_left
  · cases hq
  cases hq
  refine mj_T.eq (pc2 := 5) (st2 := [.ref (4 + a.toNat)]) ?_ rfl rfl rfl rfl
  refine mj_T.pl (loc' := [some (.ref 1), some (.int (jn a)), some (.int (jn f1)), some (.int (jn f2)), some (.ref (4 + a.toNat))]) rfl rfl rfl rfl ?_
  iterate 2 refine mj_T.pl rfl rfl rfl rfl ?_
  refine mj_T.call rfl rfl (Nat.le_of_ble_eq_true rfl) (Nat.le_of_ble_eq_true rfl) rfl rfl (mj_Ok.up (by omega) (mC_fraction (D := 0) (i := f1) (j := f2) (by omega) (by omega))) (fun v g2 hq => ?_) (fun i g2 hq => ?_)
  rotate_left
  · rcases hq with ⟨_, hq⟩ | ⟨hn, hq⟩
    · cases hq
    · cases hq
      exact Or.inl ⟨rfl, Or.inr ⟨_, _, cS.thr hg m b d (c.sb (sBn.rf X)), rfl⟩⟩
  rcases hq with ⟨kff1, hq⟩ | ⟨_, hq⟩
  rotate_left
  · cases hq
  cases hq
  refine mj_T.eq (pc2 := 12) (st2 := []) ?_ rfl rfl rfl rfl
  refine mj_T.pl rfl rfl rfl rfl ?_
  refine mj_T.call rfl rfl (Nat.le_of_ble_eq_true rfl) (Nat.le_of_ble_eq_true rfl) rfl rfl (mj_Ok.up (by omega) (mC_zero (D := 0) m (mK_rt a.toNat (by omega)) ((c.sb (sBn.rf X)).sm A.1 ka))) (fun v g3 hq => ?_) (fun i g3 hq => ?_)
  rotate_left
  · rcases hq with ⟨_, hq⟩ | ⟨hn, hq⟩
    · cases hq
    · cases hq
      exact Or.inl ⟨rfl, Or.inr ⟨_, _, cS.thr hg m b d (c.sb (sBn.rf X)), rfl⟩⟩
  rcases hq with ⟨kz, hq⟩ | ⟨_, hq⟩
  rotate_left
  · cases hq
  cases hq
  refine mj_T.eq (pc2 := 17) (st2 := []) ?_ rfl rfl rfl rfl
  refine mj_T.pl rfl rfl rfl rfl ?_
  refine mT_get m 19 cq_d1 (by decide) rfl rfl ?_
  iterate 2 refine mj_T.pl rfl rfl rfl rfl ?_
  refine mj_T.call rfl rfl (Nat.le_of_ble_eq_true rfl) (Nat.le_of_ble_eq_true rfl) rfl rfl (mj_Ok.up (by omega) (mS_cont (D := 0) m (mK_rt a.toNat (by omega)) ((c.sb (sBn.rf X)).sm A.1 ka))) (fun v g4 hq => ?_) (fun i g4 hq => ?_)
  rotate_left
  · cases hq
  cases hq
  have hcg : cgd (X (4 + a.toNat)) 13 ≤ 999999999999999999 := cgd_bd 13 ((c.sb (sBn.rf X)).sm A.1 ka)
  refine mj_T.eq (pc2 := 28) (st2 := [.long (jl ((cgd (X (4 + a.toNat)) 13 : Nat) : Int)), .ref (4 + a.toNat), .ref 172]) ?_ rfl rfl rfl rfl
  refine mj_T.call rfl rfl (Nat.le_of_ble_eq_true rfl) (Nat.le_of_ble_eq_true rfl) (mV_of m 16 cq_d172 (by decide) rfl (by decide) rfl _) rfl (mj_Ok.up (by omega) (mZ_68 (D := 0) m b d (mK_rt a.toNat (by omega)) ⟨by omega, by omega⟩ (jx _ (mK_rt a.toNat (by omega))))) (fun v g5 hq => ?_) (fun i g5 hq => ?_)
  rotate_left
  · obtain ⟨_, _, _, _, _, _, _, hq⟩ := hq; cases hq
  obtain ⟨V6, X9, _, m7, b8, f10, d11, hq⟩ := hq
  cases hq
  refine mj_T.eq (pc2 := 31) (st2 := []) ?_ rfl rfl rfl rfl
  refine mj_T.pl rfl rfl rfl rfl ?_
  refine mT_get m7 19 cq_d1 (by decide) rfl rfl ?_
  refine mj_T.pl rfl rfl rfl rfl ?_
  refine mj_T.i2l rfl ⟨by omega, by omega⟩ ?_
  refine mj_T.call rfl rfl (Nat.le_of_ble_eq_true rfl) (Nat.le_of_ble_eq_true rfl) (mV_of m7 16 cq_d172 (by decide) rfl (by decide) rfl _) rfl (mj_Ok.up (by omega) (mZ_74 (D := 0) m7 b8 d11 ⟨by omega, by omega⟩)) (fun v g12 hq => ?_) (fun i g12 hq => ?_)
  rotate_left
  · obtain ⟨_, _, _, _, hq⟩ := hq; cases hq
  obtain ⟨V13, _, m14, b15, hq⟩ := hq
  cases hq
  refine mj_T.eq (pc2 := 40) (st2 := []) ?_ rfl rfl rfl rfl
  refine mj_T.pl rfl rfl rfl rfl ?_
  refine mT_get m14 19 cq_d1 (by decide) rfl rfl ?_
  refine mj_T.pl rfl rfl rfl rfl ?_
  refine mj_T.i2l rfl ⟨by omega, by omega⟩ ?_
  refine mj_T.call rfl rfl (Nat.le_of_ble_eq_true rfl) (Nat.le_of_ble_eq_true rfl) (mV_of m14 16 cq_d172 (by decide) rfl (by decide) rfl _) rfl (mj_Ok.up (by omega) (mZ_75 (D := 0) m14 b15 d11 ⟨by omega, by omega⟩)) (fun v g16 hq => ?_) (fun i g16 hq => ?_)
  rotate_left
  · obtain ⟨_, _, _, _, _, _, hq⟩ := hq; cases hq
  obtain ⟨V17, z20, _, m18, b19, rz20, hq⟩ := hq
  cases hq
  refine mj_T.eq (pc2 := 49) (st2 := [.int (jn z20)]) ?_ rfl rfl rfl rfl
  exact mj_T.ret rfl rfl rfl (Or.inl ⟨_, _, ⟨_, _, m18, b19, d11, (c.sb ((sBn.rf X).tr (sBn.fx f10)))⟩, rfl⟩)
theorem pX_closeIn (hg : g.length ≤ n) (A : AS N u H) (s : cS g n N u H h) {a : Int} (ra : -2147483648 ≤ a ∧ a ≤ 2147483647) {p : Int} (rp : -2147483648 ≤ p ∧ p ≤ 2147483647) {q : Int} (rq : -2147483648 ≤ q ∧ q ≤ 2147483647) : mj_Ok (D + 8) 135 [.ref 1, .int (jn a), .int (jn p), .int (jn q)] h (rdL g n N u H) := by
  obtain ⟨V, X, m, b, d, c, jx⟩ := s.nr A
  have jx : rjR X := jx
  refine mj_Ok.of (M := mj_m135) rfl rfl rfl ?_
  iterate 2 refine mj_T.pl rfl rfl rfl rfl ?_
  refine mj_T.call rfl rfl (Nat.le_of_ble_eq_true rfl) (Nat.le_of_ble_eq_true rfl) (mV_of m 19 cq_d1 (by decide) rfl (by decide) rfl _) rfl (mj_Ok.up (by omega) (mC_rowOf (D := 0) m (i := a) (by omega))) (fun v g1 hq => ?_) (fun i g1 hq => ?_)
  rotate_left
  · rcases hq with ⟨_, hq⟩ | ⟨hn, hq⟩
    · cases hq
    · cases hq
      exact Or.inl ⟨rfl, Or.inr ⟨_, _, cS.thr hg m b d (c.sb (sBn.rf X)), rfl⟩⟩
  rcases hq with ⟨ka, hq⟩ | ⟨_, hq⟩
  rotate_left
  · cases hq
  cases hq
  refine mj_T.eq (pc2 := 5) (st2 := [.ref (4 + a.toNat)]) ?_ rfl rfl rfl rfl
  refine mj_T.pl (loc' := [some (.ref 1), some (.int (jn a)), some (.int (jn p)), some (.int (jn q)), some (.ref (4 + a.toNat))]) rfl rfl rfl rfl ?_
  refine mj_T.pl rfl rfl rfl rfl ?_
  refine mj_T.if0 (a := p) rfl ⟨by omega, by omega⟩ (fun c2 => ?_) (fun c2 => ?_)
  · simp only [jc, Bool.not_eq_true', Bool.not_eq_false', decide_eq_true_eq, decide_eq_false_iff_not] at c2
    exact mj_T.throws rfl rfl rfl (Nat.le_of_ble_eq_true rfl) (Or.inr ⟨_, _, cS.thr hg m b d (c.sb (sBn.rf X)), rfl⟩)
  · simp only [jc, Bool.not_eq_true', Bool.not_eq_false', decide_eq_true_eq, decide_eq_false_iff_not] at c2
    iterate 2 refine mj_T.pl rfl rfl rfl rfl ?_
    refine mj_T.call rfl rfl (Nat.le_of_ble_eq_true rfl) (Nat.le_of_ble_eq_true rfl) rfl rfl (mj_Ok.up (by omega) (mS_deg (D := 0) m (mK_rt a.toNat (by omega)) ((c.sb (sBn.rf X)).sm A.1 ka))) (fun v g3 hq => ?_) (fun i g3 hq => ?_)
    rotate_left
    · cases hq
    cases hq
    have ga := fdg_le (X (4 + a.toNat)) 13
    refine mj_T.eq (pc2 := 17) (st2 := [.int (jn (((fdg (X (4 + a.toNat)) 13) : Int) - 1)), .int (jn p)]) ?_ rfl rfl rfl rfl
    refine mj_T.icmp (a := p) (b := (((fdg (X (4 + a.toNat)) 13) : Int) - 1)) rfl ⟨by omega, by omega⟩ ⟨by omega, by omega⟩ (fun c4 => ?_) (fun c4 => ?_)
    · simp only [jc, Bool.not_eq_true', Bool.not_eq_false', decide_eq_true_eq, decide_eq_false_iff_not] at c4
      refine mj_T.pl rfl rfl rfl rfl ?_
      refine mT_get m 19 cq_d1 (by decide) rfl rfl ?_
      refine mj_T.pl rfl rfl rfl rfl ?_
      refine mj_T.call rfl rfl (Nat.le_of_ble_eq_true rfl) (Nat.le_of_ble_eq_true rfl) (mV_of m 15 cq_d444 (by decide) rfl (by decide) rfl _) rfl (mj_Ok.up (by omega) (mR_begin (D := 0) m b d (mK_rt a.toNat (by omega)) ((c.sb (sBn.rf X)).sm A.1 ka) (by omega))) (fun v g5 hq => ?_) (fun i g5 hq => ?_)
      rotate_left
      · obtain ⟨_, _, _, _, _, _, _, _, _, _, _, _, _, _, _, _, _, _, _, hq⟩ := hq; cases hq
      obtain ⟨V6, X9, _, _, _, _, _, m7, b8, d11, f10, _, _, _, _, _, _, _, _, hq⟩ := hq
      cases hq
      refine mj_T.eq (pc2 := 37) (st2 := []) ?_ rfl rfl rfl rfl
      iterate 2 refine mj_T.pl rfl rfl rfl rfl ?_
      refine mT_get m7 19 cq_d1 (by decide) rfl rfl ?_
      refine mj_T.call rfl rfl (Nat.le_of_ble_eq_true rfl) (Nat.le_of_ble_eq_true rfl) (mV_of m7 15 cq_d444 (by decide) rfl (by decide) rfl _) rfl (mj_Ok.up (by omega) (mZ_63 (D := 0) m7 b8 d11)) (fun v g12 hq => ?_) (fun i g12 hq => ?_)
      rotate_left
      · obtain ⟨_, _, _, _, _, _, _, _, _, hq⟩ := hq; cases hq
      obtain ⟨V13, X16, z19, _, m14, b15, f17, d18, rz19, hq⟩ := hq
      cases hq
      refine mj_T.eq (pc2 := 45) (st2 := [.int (jn z19), .int (jn p)]) ?_ rfl rfl rfl rfl
      refine mj_T.icmp (a := p) (b := z19) rfl ⟨by omega, by omega⟩ ⟨by omega, by omega⟩ (fun c20 => ?_) (fun c20 => ?_)
      · simp only [jc, Bool.not_eq_true', Bool.not_eq_false', decide_eq_true_eq, decide_eq_false_iff_not] at c20
        refine mj_T.pl rfl rfl rfl rfl ?_
        refine mj_T.if0 (a := q) rfl ⟨by omega, by omega⟩ (fun c21 => ?_) (fun c21 => ?_)
        · simp only [jc, Bool.not_eq_true', Bool.not_eq_false', decide_eq_true_eq, decide_eq_false_iff_not] at c21
          exact mj_T.throws rfl rfl rfl (Nat.le_of_ble_eq_true rfl) (Or.inr ⟨_, _, cS.thr hg m14 b15 d18 (c.sb (((sBn.rf X).tr (sBn.fx f10)).tr (sBn.fx f17))), rfl⟩)
        · simp only [jc, Bool.not_eq_true', Bool.not_eq_false', decide_eq_true_eq, decide_eq_false_iff_not] at c21
          iterate 2 refine mj_T.pl rfl rfl rfl rfl ?_
          refine mj_T.icmp (a := q) (b := 20) rfl ⟨by omega, by omega⟩ ⟨by omega, by omega⟩ (fun c22 => ?_) (fun c22 => ?_)
          · simp only [jc, Bool.not_eq_true', Bool.not_eq_false', decide_eq_true_eq, decide_eq_false_iff_not] at c22
            refine mj_T.pl rfl rfl rfl rfl ?_
            refine mT_get m14 19 cq_d1 (by decide) rfl rfl ?_
            refine jT.lc 1 rfl rfl ?_
            refine mj_T.pl rfl rfl rfl rfl ?_
            refine mj_T.pl rfl rfl rfl rfl ?_
            refine jT.anyL (fun y23 jy23 => ?_)
            refine mj_T.call rfl rfl (Nat.le_of_ble_eq_true rfl) (Nat.le_of_ble_eq_true rfl) (mV_of m14 15 cq_d444 (by decide) rfl (by decide) rfl _) rfl (mj_Ok.up (by omega) (mZ_64 (D := 0) m14 b15 d18 jy23)) (fun v g24 hq => ?_) (fun i g24 hq => ?_)
            rotate_left
            · obtain ⟨_, _, _, _, _, _, _, hq⟩ := hq; cases hq
            obtain ⟨V25, X28, _, m26, b27, f29, d30, hq⟩ := hq
            cases hq
            refine mj_T.eq (pc2 := 84) (st2 := []) ?_ rfl rfl rfl rfl
            refine mj_T.pl rfl rfl rfl rfl ?_
            refine mT_get m26 19 cq_d1 (by decide) rfl rfl ?_
            refine mj_T.pl rfl rfl rfl rfl ?_
            refine mj_T.call rfl rfl (Nat.le_of_ble_eq_true rfl) (Nat.le_of_ble_eq_true rfl) (mV_of m26 15 cq_d444 (by decide) rfl (by decide) rfl _) rfl (mj_Ok.up (by omega) (mZ_65 (D := 0) m26 b27 d30 ⟨by omega, by omega⟩)) (fun v g31 hq => ?_) (fun i g31 hq => ?_)
            rotate_left
            · obtain ⟨_, _, _, _, _, _, _, hq⟩ := hq; cases hq
            obtain ⟨V32, X35, _, m33, b34, f36, d37, hq⟩ := hq
            cases hq
            refine mj_T.eq (pc2 := 92) (st2 := []) ?_ rfl rfl rfl rfl
            iterate 2 refine mj_T.pl rfl rfl rfl rfl ?_
            refine mT_get m33 19 cq_d1 (by decide) rfl rfl ?_
            refine mT_get m33 15 cq_d444 (by decide) rfl rfl ?_
            refine jT.lc 1 rfl rfl ?_
            refine mj_T.pl rfl rfl rfl rfl ?_
            refine mj_T.call rfl rfl (Nat.le_of_ble_eq_true rfl) (Nat.le_of_ble_eq_true rfl) (mV_of m33 19 cq_d1 (by decide) rfl (by decide) rfl _) rfl (mj_Ok.up (by omega) (mZ_159 (D := 0) m33 b34 fr_d445 ⟨by decide, by decide⟩ ⟨by omega, by omega⟩)) (fun v g38 hq => ?_) (fun i g38 hq => ?_)
            rotate_left
            · obtain ⟨_, _, _, _, _, _, hq⟩ := hq; cases hq
            obtain ⟨V39, z42, _, m40, b41, rz42, hq⟩ := hq
            cases hq
            refine mj_T.eq (pc2 := 105) (st2 := [.int (jn z42)]) ?_ rfl rfl rfl rfl
            exact mj_T.ret rfl rfl rfl (Or.inl ⟨_, _, ⟨_, _, m40, b41, d37, (c.sb (((((sBn.rf X).tr (sBn.fx f10)).tr (sBn.fx f17)).tr (sBn.fx f29)).tr (sBn.fx f36)))⟩, rfl⟩)
          · simp only [jc, Bool.not_eq_true', Bool.not_eq_false', decide_eq_true_eq, decide_eq_false_iff_not] at c22
            exact mj_T.throws rfl rfl rfl (Nat.le_of_ble_eq_true rfl) (Or.inr ⟨_, _, cS.thr hg m14 b15 d18 (c.sb (((sBn.rf X).tr (sBn.fx f10)).tr (sBn.fx f17))), rfl⟩)
      · simp only [jc, Bool.not_eq_true', Bool.not_eq_false', decide_eq_true_eq, decide_eq_false_iff_not] at c20
        exact mj_T.throws rfl rfl rfl (Nat.le_of_ble_eq_true rfl) (Or.inr ⟨_, _, cS.thr hg m14 b15 d18 (c.sb (((sBn.rf X).tr (sBn.fx f10)).tr (sBn.fx f17))), rfl⟩)
    · simp only [jc, Bool.not_eq_true', Bool.not_eq_false', decide_eq_true_eq, decide_eq_false_iff_not] at c4
      exact mj_T.throws rfl rfl rfl (Nat.le_of_ble_eq_true rfl) (Or.inr ⟨_, _, cS.thr hg m b d (c.sb (sBn.rf X)), rfl⟩)
theorem pX_fractionRoots (hg : g.length ≤ n) (A : AS N u H) (s : cS g n N u H h) {a : Int} (ra : -2147483648 ≤ a ∧ a ≤ 2147483647) : mj_Ok (D + 8) 136 [.ref 1, .int (jn a)] h (rdL g n N u H) := by
  obtain ⟨V, X, m, b, d, c, jx⟩ := s.nr A
  have jx : rjR X := jx
  refine mj_Ok.of (M := mj_m136) rfl rfl rfl ?_
  iterate 2 refine mj_T.pl rfl rfl rfl rfl ?_
  refine mj_T.call rfl rfl (Nat.le_of_ble_eq_true rfl) (Nat.le_of_ble_eq_true rfl) (mV_of m 19 cq_d1 (by decide) rfl (by decide) rfl _) rfl (mj_Ok.up (by omega) (mC_rowOf (D := 0) m (i := a) (by omega))) (fun v g1 hq => ?_) (fun i g1 hq => ?_)
  rotate_left
  · rcases hq with ⟨_, hq⟩ | ⟨hn, hq⟩
    · cases hq
    · cases hq
      exact Or.inl ⟨rfl, Or.inr ⟨_, _, cS.thr hg m b d (c.sb (sBn.rf X)), rfl⟩⟩
  rcases hq with ⟨ka, hq⟩ | ⟨_, hq⟩
  rotate_left
  · cases hq
  cases hq
  refine mj_T.eq (pc2 := 5) (st2 := [.ref (4 + a.toNat)]) ?_ rfl rfl rfl rfl
  refine mj_T.pl (loc' := [some (.ref 1), some (.int (jn a)), some (.ref (4 + a.toNat))]) rfl rfl rfl rfl ?_
  refine mj_T.pl rfl rfl rfl rfl ?_
  refine mj_T.call rfl rfl (Nat.le_of_ble_eq_true rfl) (Nat.le_of_ble_eq_true rfl) rfl rfl (mj_Ok.up (by omega) (mC_zero (D := 0) m (mK_rt a.toNat (by omega)) ((c.sb (sBn.rf X)).sm A.1 ka))) (fun v g2 hq => ?_) (fun i g2 hq => ?_)
  rotate_left
  · rcases hq with ⟨_, hq⟩ | ⟨hn, hq⟩
    · cases hq
    · cases hq
      exact Or.inl ⟨rfl, Or.inr ⟨_, _, cS.thr hg m b d (c.sb (sBn.rf X)), rfl⟩⟩
  rcases hq with ⟨kz, hq⟩ | ⟨_, hq⟩
  rotate_left
  · cases hq
  cases hq
  refine mj_T.eq (pc2 := 10) (st2 := []) ?_ rfl rfl rfl rfl
  refine mj_T.pl rfl rfl rfl rfl ?_
  refine mT_get m 19 cq_d1 (by decide) rfl rfl ?_
  refine mj_T.pl rfl rfl rfl rfl ?_
  refine mj_T.call rfl rfl (Nat.le_of_ble_eq_true rfl) (Nat.le_of_ble_eq_true rfl) (mV_of m 15 cq_d444 (by decide) rfl (by decide) rfl _) rfl (mj_Ok.up (by omega) (mR_begin (D := 0) m b d (mK_rt a.toNat (by omega)) ((c.sb (sBn.rf X)).sm A.1 ka) (by omega))) (fun v g3 hq => ?_) (fun i g3 hq => ?_)
  rotate_left
  · obtain ⟨_, _, _, _, _, _, _, _, _, _, _, _, _, _, _, _, _, _, _, hq⟩ := hq; cases hq
  obtain ⟨V4, X7, _, _, _, _, _, m5, b6, d9, f8, _, _, _, _, _, _, _, _, hq⟩ := hq
  cases hq
  refine mj_T.eq (pc2 := 18) (st2 := []) ?_ rfl rfl rfl rfl
  refine mj_T.pl rfl rfl rfl rfl ?_
  refine mT_get m5 19 cq_d1 (by decide) rfl rfl ?_
  refine mj_T.call rfl rfl (Nat.le_of_ble_eq_true rfl) (Nat.le_of_ble_eq_true rfl) (mV_of m5 15 cq_d444 (by decide) rfl (by decide) rfl _) rfl (mj_Ok.up (by omega) (mZ_63 (D := 0) m5 b6 d9)) (fun v g10 hq => ?_) (fun i g10 hq => ?_)
  rotate_left
  · obtain ⟨_, _, _, _, _, _, _, _, _, hq⟩ := hq; cases hq
  obtain ⟨V11, X14, z17, _, m12, b13, f15, d16, rz17, hq⟩ := hq
  cases hq
  refine mj_T.eq (pc2 := 25) (st2 := [.int (jn z17)]) ?_ rfl rfl rfl rfl
  iterate 2 refine mj_T.pl rfl rfl rfl rfl ?_
  refine mT_get m12 19 cq_d1 (by decide) rfl rfl ?_
  refine mj_T.pl rfl rfl rfl rfl ?_
  refine mj_T.call rfl rfl (Nat.le_of_ble_eq_true rfl) (Nat.le_of_ble_eq_true rfl) (mV_of m12 15 cq_d444 (by decide) rfl (by decide) rfl _) rfl (mj_Ok.up (by omega) (mZ_66 (D := 0) m12 b13 d16 ⟨by omega, by omega⟩)) (fun v g18 hq => ?_) (fun i g18 hq => ?_)
  rotate_left
  · obtain ⟨_, _, _, _, _, _, _, _, _, hq⟩ := hq; cases hq
  obtain ⟨V19, X22, z25, _, m20, b21, f23, d24, rz25, hq⟩ := hq
  cases hq
  refine mj_T.eq (pc2 := 35) (st2 := [.int (jn z25)]) ?_ rfl rfl rfl rfl
  exact mj_T.ret rfl rfl rfl (Or.inl ⟨_, _, ⟨_, _, m20, b21, d24, (c.sb ((((sBn.rf X).tr (sBn.fx f8)).tr (sBn.fx f15)).tr (sBn.fx f23)))⟩, rfl⟩)
theorem pX_fractionRoot (hg : g.length ≤ n) (A : AS N u H) (s : cS g n N u H h) {a : Int} (ra : -2147483648 ≤ a ∧ a ≤ 2147483647) {p : Int} (rp : -2147483648 ≤ p ∧ p ≤ 2147483647) : mj_Ok (D + 8) 137 [.ref 1, .int (jn a), .int (jn p)] h (rdL g n N u H) := by
  obtain ⟨V, X, m, b, d, c, jx⟩ := s.nr A
  have jx : rjR X := jx
  refine mj_Ok.of (M := mj_m137) rfl rfl rfl ?_
  iterate 2 refine mj_T.pl rfl rfl rfl rfl ?_
  refine mj_T.call rfl rfl (Nat.le_of_ble_eq_true rfl) (Nat.le_of_ble_eq_true rfl) (mV_of m 19 cq_d1 (by decide) rfl (by decide) rfl _) rfl (mj_Ok.up (by omega) (mC_rowOf (D := 0) m (i := a) (by omega))) (fun v g1 hq => ?_) (fun i g1 hq => ?_)
  rotate_left
  · rcases hq with ⟨_, hq⟩ | ⟨hn, hq⟩
    · cases hq
    · cases hq
      exact Or.inl ⟨rfl, Or.inr ⟨_, _, cS.thr hg m b d (c.sb (sBn.rf X)), rfl⟩⟩
  rcases hq with ⟨ka, hq⟩ | ⟨_, hq⟩
  rotate_left
  · cases hq
  cases hq
  refine mj_T.eq (pc2 := 5) (st2 := [.ref (4 + a.toNat)]) ?_ rfl rfl rfl rfl
  refine mj_T.pl (loc' := [some (.ref 1), some (.int (jn a)), some (.int (jn p)), some (.ref (4 + a.toNat))]) rfl rfl rfl rfl ?_
  refine mj_T.pl rfl rfl rfl rfl ?_
  refine mj_T.if0 (a := p) rfl ⟨by omega, by omega⟩ (fun c2 => ?_) (fun c2 => ?_)
  · simp only [jc, Bool.not_eq_true', Bool.not_eq_false', decide_eq_true_eq, decide_eq_false_iff_not] at c2
    exact mj_T.throws rfl rfl rfl (Nat.le_of_ble_eq_true rfl) (Or.inr ⟨_, _, cS.thr hg m b d (c.sb (sBn.rf X)), rfl⟩)
  · simp only [jc, Bool.not_eq_true', Bool.not_eq_false', decide_eq_true_eq, decide_eq_false_iff_not] at c2
    iterate 2 refine mj_T.pl rfl rfl rfl rfl ?_
    refine mj_T.call rfl rfl (Nat.le_of_ble_eq_true rfl) (Nat.le_of_ble_eq_true rfl) rfl rfl (mj_Ok.up (by omega) (mS_deg (D := 0) m (mK_rt a.toNat (by omega)) ((c.sb (sBn.rf X)).sm A.1 ka))) (fun v g3 hq => ?_) (fun i g3 hq => ?_)
    rotate_left
    · cases hq
    cases hq
    have ga := fdg_le (X (4 + a.toNat)) 13
    refine mj_T.eq (pc2 := 15) (st2 := [.int (jn (((fdg (X (4 + a.toNat)) 13) : Int) - 1)), .int (jn p)]) ?_ rfl rfl rfl rfl
    refine mj_T.icmp (a := p) (b := (((fdg (X (4 + a.toNat)) 13) : Int) - 1)) rfl ⟨by omega, by omega⟩ ⟨by omega, by omega⟩ (fun c4 => ?_) (fun c4 => ?_)
    · simp only [jc, Bool.not_eq_true', Bool.not_eq_false', decide_eq_true_eq, decide_eq_false_iff_not] at c4
      refine mj_T.pl rfl rfl rfl rfl ?_
      refine mT_get m 19 cq_d1 (by decide) rfl rfl ?_
      refine mj_T.pl rfl rfl rfl rfl ?_
      refine mj_T.call rfl rfl (Nat.le_of_ble_eq_true rfl) (Nat.le_of_ble_eq_true rfl) (mV_of m 15 cq_d444 (by decide) rfl (by decide) rfl _) rfl (mj_Ok.up (by omega) (mR_begin (D := 0) m b d (mK_rt a.toNat (by omega)) ((c.sb (sBn.rf X)).sm A.1 ka) (by omega))) (fun v g5 hq => ?_) (fun i g5 hq => ?_)
      rotate_left
      · obtain ⟨_, _, _, _, _, _, _, _, _, _, _, _, _, _, _, _, _, _, _, hq⟩ := hq; cases hq
      obtain ⟨V6, X9, _, _, _, _, _, m7, b8, d11, f10, _, _, _, _, _, _, _, _, hq⟩ := hq
      cases hq
      refine mj_T.eq (pc2 := 34) (st2 := []) ?_ rfl rfl rfl rfl
      refine mj_T.pl rfl rfl rfl rfl ?_
      refine mT_get m7 19 cq_d1 (by decide) rfl rfl ?_
      refine mj_T.call rfl rfl (Nat.le_of_ble_eq_true rfl) (Nat.le_of_ble_eq_true rfl) (mV_of m7 15 cq_d444 (by decide) rfl (by decide) rfl _) rfl (mj_Ok.up (by omega) (mZ_63 (D := 0) m7 b8 d11)) (fun v g12 hq => ?_) (fun i g12 hq => ?_)
      rotate_left
      · obtain ⟨_, _, _, _, _, _, _, _, _, hq⟩ := hq; cases hq
      obtain ⟨V13, X16, z19, _, m14, b15, f17, d18, rz19, hq⟩ := hq
      cases hq
      refine mj_T.eq (pc2 := 41) (st2 := [.int (jn z19)]) ?_ rfl rfl rfl rfl
      iterate 2 refine mj_T.pl rfl rfl rfl rfl ?_
      refine mT_get m14 19 cq_d1 (by decide) rfl rfl ?_
      iterate 2 refine mj_T.pl rfl rfl rfl rfl ?_
      refine mj_T.iadd (a := p) (b := 1) rfl ?_
      refine mj_T.call rfl rfl (Nat.le_of_ble_eq_true rfl) (Nat.le_of_ble_eq_true rfl) (mV_of m14 15 cq_d444 (by decide) rfl (by decide) rfl _) rfl (mj_Ok.up (by omega) (mZ_66 (D := 0) m14 b15 d18 ⟨by omega, by omega⟩)) (fun v g20 hq => ?_) (fun i g20 hq => ?_)
      rotate_left
      · obtain ⟨_, _, _, _, _, _, _, _, _, hq⟩ := hq; cases hq
      obtain ⟨V21, X24, z27, _, m22, b23, f25, d26, rz27, hq⟩ := hq
      cases hq
      refine mj_T.eq (pc2 := 52) (st2 := [.int (jn z27)]) ?_ rfl rfl rfl rfl
      refine mj_T.pl rfl rfl rfl rfl ?_
      refine mj_T.icmp (a := z27) (b := p) rfl ⟨by omega, by omega⟩ ⟨by omega, by omega⟩ (fun c28 => ?_) (fun c28 => ?_)
      · simp only [jc, Bool.not_eq_true', Bool.not_eq_false', decide_eq_true_eq, decide_eq_false_iff_not] at c28
        iterate 2 refine mj_T.pl rfl rfl rfl rfl ?_
        refine mT_get m22 19 cq_d1 (by decide) rfl rfl ?_
        refine mT_get m22 15 cq_d444 (by decide) rfl rfl ?_
        refine mj_T.pl rfl rfl rfl rfl ?_
        refine mT_get m22 19 cq_d1 (by decide) rfl rfl ?_
        refine mT_get m22 15 cq_d444 (by decide) rfl rfl ?_
        refine jT.anyL (fun y29 jy29 => ?_)
        refine mj_T.pl rfl rfl rfl rfl ?_
        refine mj_T.call rfl rfl (Nat.le_of_ble_eq_true rfl) (Nat.le_of_ble_eq_true rfl) (mV_of m22 19 cq_d1 (by decide) rfl (by decide) rfl _) rfl (mj_Ok.up (by omega) (mZ_159 (D := 0) m22 b23 fr_d445 jy29 ⟨by omega, by omega⟩)) (fun v g30 hq => ?_) (fun i g30 hq => ?_)
        rotate_left
        · obtain ⟨_, _, _, _, _, _, hq⟩ := hq; cases hq
        obtain ⟨V31, z34, _, m32, b33, rz34, hq⟩ := hq
        cases hq
        refine mj_T.eq (pc2 := 83) (st2 := [.int (jn z34)]) ?_ rfl rfl rfl rfl
        exact mj_T.ret rfl rfl rfl (Or.inl ⟨_, _, ⟨_, _, m32, b33, d26, (c.sb ((((sBn.rf X).tr (sBn.fx f10)).tr (sBn.fx f17)).tr (sBn.fx f25)))⟩, rfl⟩)
      · simp only [jc, Bool.not_eq_true', Bool.not_eq_false', decide_eq_true_eq, decide_eq_false_iff_not] at c28
        exact mj_T.throws rfl rfl rfl (Nat.le_of_ble_eq_true rfl) (Or.inr ⟨_, _, cS.thr hg m22 b23 d26 (c.sb ((((sBn.rf X).tr (sBn.fx f10)).tr (sBn.fx f17)).tr (sBn.fx f25))), rfl⟩)
    · simp only [jc, Bool.not_eq_true', Bool.not_eq_false', decide_eq_true_eq, decide_eq_false_iff_not] at c4
      exact mj_T.throws rfl rfl rfl (Nat.le_of_ble_eq_true rfl) (Or.inr ⟨_, _, cS.thr hg m b d (c.sb (sBn.rf X)), rfl⟩)
end MRP
/-! The class: agreements only reads. -/
section MRA
variable {g h : mj_H} {n D u : Nat} {N : Nat → Int} {H : Nat → Nat → Int} {X : Nat → Nat → Int}
theorem rjR.row {X : Nat → Nat → Int} (q : rjR X) {r : Nat} {w : Nat → Int} (hw : ∀ j, j < 13 → jR (w j)) : rjR (xfl X r w 13) := fun a ka j => by
  unfold xfl
  split
  · rename_i y
    exact hw j y.2
  · exact q a ka j
theorem mC_agr_loop (hg : g.length ≤ n) (A : AS N u H) (c : CR X N u H) {a a2 l : Int} (hl : 0 ≤ l ∧ l ≤ 12) : ∀ (k : Nat) (i : Int), 0 ≤ i ∧ i ≤ 13 → l + 1 - i ≤ k → ∀ (q : Int) (V1 : Nat → Int) (X1 : Nat → Nat → Int) (h : mj_H), jM g n V1 X1 h → by0 V1 → DG X1 → sBn X X1 → rjR X1 → mj_T (D + 6) mj_m127 49 [some (.ref 1), some (.int (jn a)), some (.int (jn a2)), some (.ref (4 + a.toNat)), some (.ref (4 + a2.toNat)), some (.int (jn l)), some (.int (jn q)), some (.int (jn i))] [] h (rdL g n N u H)
  | 0, i, h0, hi, q, V1, X1, h, m, b, d1, s1, j1 => by
    iterate 2 refine mj_T.pl rfl rfl rfl rfl ?_
    refine mj_T.icmp (a := i) (b := l) rfl ⟨by omega, by omega⟩ ⟨by omega, by omega⟩ (fun c1 => ?_) (fun c1 => ?_)
    · simp only [jc, Bool.not_eq_true', Bool.not_eq_false', decide_eq_true_eq, decide_eq_false_iff_not] at c1
      refine mj_T.pl rfl rfl rfl rfl ?_
      exact mj_T.ret rfl rfl rfl (Or.inl ⟨_, _, ⟨_, _, m, b, d1, (c.sb s1)⟩, rfl⟩)
    · exfalso
      simp only [jc, Bool.not_eq_true', Bool.not_eq_false', decide_eq_true_eq, decide_eq_false_iff_not] at c1
      omega
  | k + 1, i, h0, hi, q, V1, X1, h, m, b, d1, s1, j1 => by
    iterate 2 refine mj_T.pl rfl rfl rfl rfl ?_
    refine mj_T.icmp (a := i) (b := l) rfl ⟨by omega, by omega⟩ ⟨by omega, by omega⟩ (fun c1 => ?_) (fun c1 => ?_)
    · simp only [jc, Bool.not_eq_true', Bool.not_eq_false', decide_eq_true_eq, decide_eq_false_iff_not] at c1
      refine mj_T.pl rfl rfl rfl rfl ?_
      exact mj_T.ret rfl rfl rfl (Or.inl ⟨_, _, ⟨_, _, m, b, d1, (c.sb s1)⟩, rfl⟩)
    · simp only [jc, Bool.not_eq_true', Bool.not_eq_false', decide_eq_true_eq, decide_eq_false_iff_not] at c1
      refine mj_T.pl rfl rfl rfl rfl ?_
      refine mT_get m 19 cq_d1 (by decide) rfl rfl ?_
      refine mj_T.pl rfl rfl rfl rfl ?_
      refine mT_get m 19 cq_d1 (by decide) rfl rfl ?_
      iterate 2 refine mj_T.pl rfl rfl rfl rfl ?_
      refine mj_T.call rfl rfl (Nat.le_of_ble_eq_true rfl) (Nat.le_of_ble_eq_true rfl) (mV_of m 11 cq_d19 (by decide) rfl (by decide) rfl _) rfl (mj_Ok.up (by omega) (mZ_27 (D := 0) m b cq_d482 (j1 _ cq_d482) (x := i) (y := 1) ⟨by omega, by omega⟩ ⟨by omega, by omega⟩)) (fun v g2 hq => ?_) (fun i g2 hq => ?_)
      rotate_left
      · obtain ⟨_, _, _, _, _, _, _, _, hq⟩ := hq; cases hq
      obtain ⟨V3, e6, z7, _, m4, b5, he6, rz7, hq⟩ := hq
      cases hq
      refine mj_T.eq (pc2 := 70) (st2 := [.int (jn z7)]) ?_ rfl rfl rfl rfl
      refine mj_T.if0 (a := z7) rfl ⟨by omega, by omega⟩ (fun c8 => ?_) (fun c8 => ?_)
      · simp only [jc, Bool.not_eq_true', Bool.not_eq_false', decide_eq_true_eq, decide_eq_false_iff_not] at c8
        refine mj_T.iinc rfl rfl ?_
        refine mj_T.eq (loc2 := [some (.ref 1), some (.int (jn a)), some (.int (jn a2)), some (.ref (4 + a.toNat)), some (.ref (4 + a2.toNat)), some (.int (jn l)), some (.int (jn q)), some (.int (jn (i + 1)))]) ?_ rfl rfl rfl rfl
        refine mj_T.pl rfl rfl rfl rfl ?_
        exact mC_agr_loop hg A c hl k _ (by omega) (by omega) _ _ _ _ m4 b5 (d1.deg he6) (s1.tr (sBn.deg cq_d80)) (rjR.deg j1 cq_d80)
      · simp only [jc, Bool.not_eq_true', Bool.not_eq_false', decide_eq_true_eq, decide_eq_false_iff_not] at c8
        refine mj_T.iinc rfl rfl ?_
        refine mj_T.eq (loc2 := [some (.ref 1), some (.int (jn a)), some (.int (jn a2)), some (.ref (4 + a.toNat)), some (.ref (4 + a2.toNat)), some (.int (jn l)), some (.int (jn (q + 1))), some (.int (jn i))]) ?_ rfl rfl rfl rfl
        refine mj_T.iinc rfl rfl ?_
        refine mj_T.eq (loc2 := [some (.ref 1), some (.int (jn a)), some (.int (jn a2)), some (.ref (4 + a.toNat)), some (.ref (4 + a2.toNat)), some (.int (jn l)), some (.int (jn (q + 1))), some (.int (jn (i + 1)))]) ?_ rfl rfl rfl rfl
        refine mj_T.pl rfl rfl rfl rfl ?_
        exact mC_agr_loop hg A c hl k _ (by omega) (by omega) _ _ _ _ m4 b5 (d1.deg he6) (s1.tr (sBn.deg cq_d80)) (rjR.deg j1 cq_d80)
theorem pX_agreements (hg : g.length ≤ n) (A : AS N u H) (s : cS g n N u H h) {a : Int} (ra : -2147483648 ≤ a ∧ a ≤ 2147483647) {a2 : Int} (ra2 : -2147483648 ≤ a2 ∧ a2 ≤ 2147483647) : mj_Ok (D + 7) 127 [.ref 1, .int (jn a), .int (jn a2)] h (rdL g n N u H) := by
  obtain ⟨V, X, m, b, d, c, jx⟩ := s.nr A
  have jx : rjR X := jx
  refine mj_Ok.of (M := mj_m127) rfl rfl rfl ?_
  iterate 2 refine mj_T.pl rfl rfl rfl rfl ?_
  refine mj_T.call rfl rfl (Nat.le_of_ble_eq_true rfl) (Nat.le_of_ble_eq_true rfl) (mV_of m 19 cq_d1 (by decide) rfl (by decide) rfl _) rfl (mj_Ok.up (by omega) (mC_rowOf (D := 0) m (i := a) (by omega))) (fun v g1 hq => ?_) (fun i g1 hq => ?_)
  rotate_left
  · rcases hq with ⟨_, hq⟩ | ⟨hn, hq⟩
    · cases hq
    · cases hq
      exact Or.inl ⟨rfl, Or.inr ⟨_, _, cS.thr hg m b d (c.sb (sBn.rf X)), rfl⟩⟩
  rcases hq with ⟨ka, hq⟩ | ⟨_, hq⟩
  rotate_left
  · cases hq
  cases hq
  refine mj_T.eq (pc2 := 5) (st2 := [.ref (4 + a.toNat)]) ?_ rfl rfl rfl rfl
  refine mj_T.pl (loc' := [some (.ref 1), some (.int (jn a)), some (.int (jn a2)), some (.ref (4 + a.toNat)), none, none, none, none]) rfl rfl rfl rfl ?_
  iterate 2 refine mj_T.pl rfl rfl rfl rfl ?_
  refine mj_T.call rfl rfl (Nat.le_of_ble_eq_true rfl) (Nat.le_of_ble_eq_true rfl) (mV_of m 19 cq_d1 (by decide) rfl (by decide) rfl _) rfl (mj_Ok.up (by omega) (mC_rowOf (D := 0) m (i := a2) (by omega))) (fun v g2 hq => ?_) (fun i g2 hq => ?_)
  rotate_left
  · rcases hq with ⟨_, hq⟩ | ⟨hn, hq⟩
    · cases hq
    · cases hq
      exact Or.inl ⟨rfl, Or.inr ⟨_, _, cS.thr hg m b d (c.sb (sBn.rf X)), rfl⟩⟩
  rcases hq with ⟨ka2, hq⟩ | ⟨_, hq⟩
  rotate_left
  · cases hq
  cases hq
  refine mj_T.eq (pc2 := 11) (st2 := [.ref (4 + a2.toNat)]) ?_ rfl rfl rfl rfl
  refine mj_T.pl (loc' := [some (.ref 1), some (.int (jn a)), some (.int (jn a2)), some (.ref (4 + a.toNat)), some (.ref (4 + a2.toNat)), none, none, none]) rfl rfl rfl rfl ?_
  iterate 2 refine mj_T.pl rfl rfl rfl rfl ?_
  refine mj_T.call rfl rfl (Nat.le_of_ble_eq_true rfl) (Nat.le_of_ble_eq_true rfl) rfl rfl (mj_Ok.up (by omega) (mS_deg (D := 0) m (mK_rt a.toNat (by omega)) ((c.sb (sBn.rf X)).sm A.1 ka))) (fun v g3 hq => ?_) (fun i g3 hq => ?_)
  rotate_left
  · cases hq
  cases hq
  have ga := fdg_le (X (4 + a.toNat)) 13
  refine mj_T.eq (pc2 := 18) (st2 := [.int (jn (((fdg (X (4 + a.toNat)) 13) : Int) - 1)), .int (jn 0)]) ?_ rfl rfl rfl rfl
  refine mj_T.pl rfl rfl rfl rfl ?_
  refine mj_T.call rfl rfl (Nat.le_of_ble_eq_true rfl) (Nat.le_of_ble_eq_true rfl) rfl rfl (mj_Ok.up (by omega) (mS_deg (D := 0) m (mK_rt a2.toNat (by omega)) ((c.sb (sBn.rf X)).sm A.1 ka2))) (fun v g4 hq => ?_) (fun i g4 hq => ?_)
  rotate_left
  · cases hq
  cases hq
  have ga2 := fdg_le (X (4 + a2.toNat)) 13
  refine mj_T.eq (pc2 := 23) (st2 := [.int (jn (((fdg (X (4 + a2.toNat)) 13) : Int) - 1)), .int (jn (((fdg (X (4 + a.toNat)) 13) : Int) - 1)), .int (jn 0)]) ?_ rfl rfl rfl rfl
  refine mj_T.imax (a := (((fdg (X (4 + a.toNat)) 13) : Int) - 1)) (b := (((fdg (X (4 + a2.toNat)) 13) : Int) - 1)) rfl rfl (Nat.le_of_ble_eq_true rfl) ⟨by omega, by omega⟩ ⟨by omega, by omega⟩ ?_
  refine mj_T.imax (a := 0) (b := (max (((fdg (X (4 + a.toNat)) 13) : Int) - 1) (((fdg (X (4 + a2.toNat)) 13) : Int) - 1))) rfl rfl (Nat.le_of_ble_eq_true rfl) ⟨by omega, by omega⟩ ⟨by omega, by omega⟩ ?_
  refine mj_T.pl (loc' := [some (.ref 1), some (.int (jn a)), some (.int (jn a2)), some (.ref (4 + a.toNat)), some (.ref (4 + a2.toNat)), some (.int (jn (max 0 (max (((fdg (X (4 + a.toNat)) 13) : Int) - 1) (((fdg (X (4 + a2.toNat)) 13) : Int) - 1))))), none, none]) rfl rfl rfl rfl ?_
  iterate 4 refine mj_T.pl rfl rfl rfl rfl ?_
  refine mT_get m 19 cq_d1 (by decide) rfl rfl ?_
  refine mj_T.call rfl rfl (Nat.le_of_ble_eq_true rfl) (Nat.le_of_ble_eq_true rfl) rfl rfl (mj_Ok.up (by omega) (mS_sum (D := 0) m (mK_rt a.toNat (by omega)) (mK_rt a2.toNat (by omega)) cq_d482 (c.sm A.1 ka) (c.sm A.1 ka2) (f := -1) (Or.inr rfl))) (fun v g5 hq => ?_) (fun i g5 hq => ?_)
  rotate_left
  · obtain ⟨_, _, hq⟩ := hq
    rcases hq with ⟨_, hq⟩ | ⟨_, hq⟩ <;> cases hq
  obtain ⟨h5, m5, hq⟩ := hq
  obtain ⟨y, hq⟩ : ∃ y : Int, ((.inl v, g5) : mj_R) = (.inl (some (.int (jn y))), h5) := by
    rcases hq with ⟨_, hq⟩ | ⟨_, hq⟩
    · exact ⟨1, hq⟩
    · exact ⟨0, hq⟩
  cases hq
  have j5 : rjR (xfl X 482 (fun e => X (4 + a.toNat) e + -1 * X (4 + a2.toNat) e) 13) := jx.row (fun j hj => by
    have y1 := c.sm A.1 ka j hj
    have y2 := c.sm A.1 ka2 j hj
    show jR (X (4 + a.toNat) j + -1 * X (4 + a2.toNat) j)
    exact ⟨by omega, by omega⟩)
  refine mj_T.eq (pc2 := 42) (st2 := [.int (jn y)]) ?_ rfl rfl rfl rfl
  iterate 2 refine mj_T.pl rfl rfl rfl rfl ?_
  refine mj_T.pl (loc' := [some (.ref 1), some (.int (jn a)), some (.int (jn a2)), some (.ref (4 + a.toNat)), some (.ref (4 + a2.toNat)), some (.int (jn (max 0 (max (((fdg (X (4 + a.toNat)) 13) : Int) - 1) (((fdg (X (4 + a2.toNat)) 13) : Int) - 1))))), some (.int (jn 0)), none]) rfl rfl rfl rfl ?_
  refine mj_T.pl rfl rfl rfl rfl ?_
  refine mj_T.pl (loc' := [some (.ref 1), some (.int (jn a)), some (.int (jn a2)), some (.ref (4 + a.toNat)), some (.ref (4 + a2.toNat)), some (.int (jn (max 0 (max (((fdg (X (4 + a.toNat)) 13) : Int) - 1) (((fdg (X (4 + a2.toNat)) 13) : Int) - 1))))), some (.int (jn 0)), some (.int (jn 0))]) rfl rfl rfl rfl ?_
  obtain ⟨l, hl, el⟩ : ∃ l : Int, (0 ≤ l ∧ l ≤ 12) ∧ (max 0 (max (((fdg (X (4 + a.toNat)) 13) : Int) - 1) (((fdg (X (4 + a2.toNat)) 13) : Int) - 1))) = l := ⟨_, by
    rw [Int.max_def, Int.max_def]
    refine ⟨?_, ?_⟩
    · split <;> omega
    · split <;> split <;> omega, rfl⟩
  rw [el]
  exact mC_agr_loop hg A c hl 13 0 ⟨by decide, by decide⟩ (by omega) _ _ _ _ m5 b (d.row cq_d482) (sBn.row (Or.inr rfl)) j5
end MRA
/-! The class: texts are written, all else stays. -/
theorem cq_t : (cK 15 = 17 ∧ cK 16 = 3 ∧ cR 15 0 = 16 ∧ cL 16 = 340 ∧ cK 14 = 3) ∧ (cK 17 = 17 ∧ cK 18 = 3 ∧ cR 17 0 = 18 ∧ cL 18 = 340) := by decide +kernel
/-- a text alone -/
def kT (t x : Nat) : Nat := if x = t then 17 else if x = t + 1 then 3 else 0
def isT (t : Nat) : Prop := cK t = 17 ∧ cK (t + 1) = 3 ∧ cR t 0 = t + 1 ∧ cL (t + 1) = 340 ∧ 1 ≤ t ∧ cK (t - 1) = 3
theorem isT_15 : isT 15 := ⟨cq_t.1.1, cq_t.1.2.1, cq_t.1.2.2.1, cq_t.1.2.2.2.1, by decide, cq_t.1.2.2.2.2⟩
theorem isT_17 : isT 17 := ⟨cq_t.2.1, cq_t.2.2.1, cq_t.2.2.2.1, cq_t.2.2.2.2, by decide, cq_t.1.2.1⟩
theorem kT_c (t x : Nat) : (x = t ∧ kT t x = 17) ∨ (x = t + 1 ∧ kT t x = 3) ∨ (x ≠ t ∧ x ≠ t + 1 ∧ kT t x = 0) := by
  unfold kT
  by_cases c : x = t
  · exact Or.inl ⟨c, if_pos c⟩
  · by_cases d : x = t + 1
    · exact Or.inr (Or.inl ⟨d, by rw [if_neg c, if_pos d]⟩)
    · exact Or.inr (Or.inr ⟨c, d, by rw [if_neg c, if_neg d]⟩)
theorem kT_ty {t : Nat} (q : isT t) : jTY (kT t) cL cR := by
  obtain ⟨q1, q2, q3, q4, q5, q6⟩ := q
  have w : ∀ a k, kT t a = k → k = 0 ∨ (k = 17 ∧ a = t) ∨ (k = 3 ∧ a = t + 1) := fun a k h => by
    rcases kT_c t a with y | y | y <;> omega
  refine ⟨fun a i c h1 h2 => ?_, fun a h1 h2 => ?_, fun a i h1 h2 _ => ?_, fun a h => ?_, fun a h => ?_, fun a h => ?_, fun a b h _ => ?_, fun a h => ?_⟩
  · rcases kT_c t a with y | y | y
    · rw [y.2] at h1
      match i, h1 with
      | 0, h1 =>
        cases h1
        rw [y.1, q3]
        unfold kT
        rw [if_neg (by omega), if_pos rfl]
      | 1, h1 => cases h1; omega
      | i + 2, h1 => simp [jfs] at h1
    · rw [y.2] at h1
      simp [jfs] at h1
    · rw [y.2.2] at h1
      simp [jfs] at h1
  · rcases kT_c t a with y | y | y
    · omega
    · rw [y.2, y.1, q4]
      decide
    · omega
  · have := w a _ rfl
    omega
  · have := w a _ h
    omega
  · have := w a _ h
    omega
  · have := w a _ h
    rw [show a = t by omega, q3]
    exact q4
  · have := w a _ h
    omega
  · have := w a _ h
    omega
section MTX
variable {g h : mj_H} {n D : Nat} {V : Nat → Int} {X : Nat → Nat → Int} {t : Nat}
theorem kT_O (M : jM g n V X h) (q : isT t) (hx : 0 ≤ X t 1 ∧ X t 1 ≤ 340) : jO (kT t) cL cR h n 0 h := by
  obtain ⟨q1, q2, q3, q4, q5, q6⟩ := q
  have hn := M.1
  refine ⟨hn, by omega, fun a _ => ⟨fun _ => rfl, fun h1 h2 => absurd h1 (by omega)⟩, fun a ha => ?_⟩
  rcases kT_c t a with y | y | y
  · rw [y.2, y.1]
    refine ⟨_, M.O 17 q1 (by decide), ?_⟩
    unfold jCf
    rw [if_neg (by omega)]
    refine ⟨_, rfl, rfl, fun i c hc => ?_⟩
    match i, hc with
    | 0, hc => cases hc; exact ⟨_, rfl, by unfold jfv; rw [if_pos (by omega), q3]⟩
    | 1, hc => cases hc; exact ⟨_, rfl, by unfold jfv; rw [if_neg (by omega), if_neg (by omega), if_neg (by omega)]; exact ⟨X t 1, hx.1, hx.2, rfl⟩⟩
    | i + 2, hc => simp [jfs] at hc
  · rw [y.2, y.1]
    have m3 := M.2.2 (t + 1)
    unfold jMk at m3
    rw [q2, if_neg (by omega), if_neg (by omega), if_neg (by omega), if_neg (by omega), if_neg (by omega), if_pos rfl] at m3
    refine ⟨_, m3, ?_⟩
    unfold jCf
    rw [if_pos (by omega)]
    refine ⟨fun j => .int (jn (X (t + 1) j)), rfl, fun i => ?_⟩
    rw [if_pos (Or.inr rfl)]
    exact ⟨(jn (X (t + 1) i)).toInt, jr_of _, by rw [jn_of]⟩
  · exact absurd y.2.2 ha
theorem kT_M (M : jM g n V X h) (q : isT t) {h' : mj_H} (o : jO (kT t) cL cR h n 0 h') : ∃ X2 : Nat → Nat → Int, jM g n V X2 h' ∧ (0 ≤ X2 t 1 ∧ X2 t 1 ≤ 340) ∧ ∀ c, c ≠ t → c ≠ t + 1 → X2 c = X c := by
  obtain ⟨q1, q2, q3, q4, q5, q6⟩ := q
  obtain ⟨o1, _, o3, o4⟩ := o
  have hn := M.1
  have kt : kT t t = 17 := if_pos rfl
  have kt1 : kT t (t + 1) = 3 := by
    unfold kT
    rw [if_neg (by omega), if_pos rfl]
  obtain ⟨e, h1, h2⟩ := o4 t (by omega)
  rw [kt] at h2
  unfold jCf at h2
  rw [if_neg (by omega)] at h2
  obtain ⟨fs, rfl, hl, hf⟩ := h2
  obtain ⟨v0, e0, k0⟩ := hf 0 103 rfl
  obtain ⟨v1, e1, k1⟩ := hf 1 5 rfl
  unfold jfv at k0 k1
  rw [if_pos (by omega), q3] at k0
  rw [if_neg (by omega), if_neg (by omega), if_neg (by omega)] at k1
  obtain ⟨x1, a1, b1, rfl⟩ := k1
  subst k0
  obtain ⟨e', g1, g2⟩ := o4 (t + 1) (by omega)
  rw [kt1] at g2
  unfold jCf at g2
  rw [if_pos (by omega)] at g2
  obtain ⟨f, rfl, hb⟩ := g2
  have h3 : ∀ i, ∃ x : Int, f i = .int (jn x) := fun i => by
    have y := hb i
    rw [if_pos (Or.inr rfl)] at y
    obtain ⟨x, _, y2⟩ := y
    exact ⟨x, y2⟩
  refine ⟨fun a j => if a = t then (if j = 1 then x1 else X t j) else if a = t + 1 then (h3 j).choose else X a j, ?_, ?_, fun c c1 c2 => ?_⟩
  · refine M.up (fun x => x = t ∨ x = t + 1) (by omega) (fun a ha => ?_) (fun p hp => ?_) (fun _ _ => rfl) (fun a ha => ?_) (fun a ha => ?_) (fun a ha => ?_)
    · rcases ha with rfl | rfl <;> omega
    · have hk : kT t p = 0 := by
        rcases kT_c t p with y | y | y
        · exact absurd (Or.inl y.1) hp
        · exact absurd (Or.inr y.1) hp
        · exact y.2.2
      by_cases c : p < h.length
      · exact (o3 p hk).1 c
      · rw [List.getElem?_eq_none (by omega), List.getElem?_eq_none (by omega)]
    · show (fun j => if a = t then (if j = 1 then x1 else X t j) else if a = t + 1 then (h3 j).choose else X a j) = X a
      funext j
      rw [if_neg (fun y => ha (Or.inl y)), if_neg (fun y => ha (Or.inr y))]
    · constructor
      · intro y
        rcases y with y | y
        · exact Or.inr (by rw [y])
        · rw [y] at ha
          omega
      · intro y
        rcases y with y | y
        · rw [show a = t - 1 by omega] at ha
          omega
        · exact Or.inl (by omega)
    · rcases ha with rfl | rfl
      · unfold jMk
        rw [q1, if_neg (by omega), if_neg (by omega), if_neg (by omega), if_neg (by omega), if_neg (by omega), if_neg (by omega), if_neg (by omega), h1]
        match fs, hl, e0, e1 with
        | [_, _], _, rfl, rfl =>
          show some (Sum.inr (7, [Value.ref (a + 1), Value.int (jn x1)])) = some (Sum.inr (jkc 17, [Value.ref (a + 1), .int (jn (if a = a then (if 1 = 1 then x1 else X a 1) else _))]))
          rw [if_pos rfl, if_pos rfl]
          rfl
      · unfold jMk
        rw [q2, if_neg (by omega), if_neg (by omega), if_neg (by omega), if_neg (by omega), if_neg (by omega), if_pos rfl, g1]
        refine congrArg (fun z : Nat → Value => (some (.inl (2, cL (t + 1), z)) : Option mj_E)) (funext fun j => ?_)
        show f j = Value.int (jn (if t + 1 = t then (if j = 1 then x1 else X t j) else if t + 1 = t + 1 then (h3 j).choose else X (t + 1) j))
        rw [if_neg (by omega), if_pos rfl]
        exact (h3 j).choose_spec
  · show 0 ≤ (if t = t then (if 1 = 1 then x1 else X t 1) else _) ∧ (if t = t then (if 1 = 1 then x1 else X t 1) else _) ≤ 340
    rw [if_pos rfl, if_pos rfl]
    exact ⟨a1, b1⟩
  · funext j
    show (if c = t then (if j = 1 then x1 else X t j) else if c = t + 1 then (h3 j).choose else X c j) = X c j
    rw [if_neg c1, if_neg c2]
theorem kT_n {j : Nat} {as : List Value} (M : jM g n V X h) (q : isT t) (c : mj_Ok D j as h (jQ (kT t) cL cR h n 0 [] jV0)) : mj_Ok D j as h (fun r => ∃ (X2 : Nat → Nat → Int) (h2 : mj_H), jM g n V X2 h2 ∧ (0 ≤ X2 t 1 ∧ X2 t 1 ≤ 340) ∧ (∀ c, c ≠ t → c ≠ t + 1 → X2 c = X c) ∧ r = (.inl none, h2)) := c.to fun r hr => by
  obtain ⟨r1, r2⟩ := r
  cases r1 with
  | inl v =>
    have h1 : v = none := hr.1
    obtain ⟨X2, m2, b2, e2⟩ := kT_M M q hr.2
    exact ⟨X2, r2, m2, b2, e2, by rw [h1]⟩
  | inr k => exact absurd hr.1 (by intro y; cases y)
theorem mZ_80 (M : jM g n V X h) (q : isT t) (hx : 0 ≤ X t 1 ∧ X t 1 ≤ 340) {s : Int} (hs : -2147483648 ≤ s ∧ s ≤ 2147483647) : mj_Ok (D + 1) 80 [.ref t, .int (jn s)] h (fun r => ∃ (X2 : Nat → Nat → Int) (h2 : mj_H), jM g n V X2 h2 ∧ (0 ≤ X2 t 1 ∧ X2 t 1 ≤ 340) ∧ (∀ c, c ≠ t → c ≠ t + 1 → X2 c = X c) ∧ r = (.inl none, h2)) := kT_n M q (jc_80 (kT_ty q) (Nat.le_of_eq M.1) (kT_O M q hx) (if_pos rfl) hs)
theorem mZ_83 (M : jM g n V X h) (q : isT t) (hx : 0 ≤ X t 1 ∧ X t 1 ≤ 340) {y s : Int} (hy : jR y) (hs : -2147483648 ≤ s ∧ s ≤ 2147483647) : mj_Ok (D + 3) 83 [.ref t, .long (jl y), .int (jn s)] h (fun r => ∃ (X2 : Nat → Nat → Int) (h2 : mj_H), jM g n V X2 h2 ∧ (0 ≤ X2 t 1 ∧ X2 t 1 ≤ 340) ∧ (∀ c, c ≠ t → c ≠ t + 1 → X2 c = X c) ∧ r = (.inl none, h2)) := kT_n M q (jc_83 (kT_ty q) (Nat.le_of_eq M.1) (kT_O M q hx) (if_pos rfl) hy hs)
end MTX
/-! The class: write leaves the benches. -/
section MTW
variable {g h : mj_H} {n D u t r : Nat} {V : Nat → Int} {X : Nat → Nat → Int} {N : Nat → Int} {H : Nat → Nat → Int}
theorem mZ_82_loop (q : isT t) (kr : cK r = 2) (hjr : ∀ j, jR (X r j)) : ∀ k : Nat, k ≤ 13 → ∀ (X1 : Nat → Nat → Int) (h : mj_H), jM g n V X1 h → (0 ≤ X1 t 1 ∧ X1 t 1 ≤ 340) → (∀ c, c ≠ t → c ≠ t + 1 → X1 c = X c) → mj_T (D + 3) mj_m82 10 [some (.ref t), some (.ref r), some (.int (jn ((k : Int) - 1)))] [] h (fun z => ∃ (X2 : Nat → Nat → Int) (h2 : mj_H), jM g n V X2 h2 ∧ (0 ≤ X2 t 1 ∧ X2 t 1 ≤ 340) ∧ (∀ c, c ≠ t → c ≠ t + 1 → X2 c = X c) ∧ z = (.inl none, h2))
  | 0, hk, X1, h, m, hx, e1 => by
    have hj1 : ∀ j, jR (X1 r j) := fun j => by
      rw [e1 r (fun y => by rw [y, q.1] at kr; cases kr) (fun y => by rw [y, q.2.1] at kr; cases kr)]
      exact hjr j
    refine mj_T.pl rfl rfl rfl rfl ?_
    refine mj_T.if0 (a := (((0 : Nat) : Int) - 1)) rfl ⟨by omega, by omega⟩ (fun c1 => ?_) (fun c1 => ?_)
    · simp only [jc, Bool.not_eq_true', Bool.not_eq_false', decide_eq_true_eq, decide_eq_false_iff_not] at c1
      refine mj_T.pl rfl rfl rfl rfl ?_
      refine mT_get m 17 q.1 (by decide) rfl rfl ?_
      refine mj_T.if0 (a := (X1 t 1)) rfl ⟨by omega, by omega⟩ (fun c2 => ?_) (fun c2 => ?_)
      · simp only [jc, Bool.not_eq_true', Bool.not_eq_false', decide_eq_true_eq, decide_eq_false_iff_not] at c2
        exact mj_T.ret rfl rfl rfl ⟨_, _, m, hx, e1, rfl⟩
      · simp only [jc, Bool.not_eq_true', Bool.not_eq_false', decide_eq_true_eq, decide_eq_false_iff_not] at c2
        iterate 2 refine mj_T.pl rfl rfl rfl rfl ?_
        refine mj_T.call rfl rfl (Nat.le_of_ble_eq_true rfl) (Nat.le_of_ble_eq_true rfl) (mV_of m 17 q.1 (by decide) rfl (by decide) rfl _) rfl (mj_Ok.up (by omega) (mZ_80 (D := 0) m q hx (s := 48) ⟨by omega, by omega⟩)) (fun v g3 hq => ?_) (fun i g3 hq => ?_)
        rotate_left
        · obtain ⟨_, _, _, _, _, hq⟩ := hq; cases hq
        obtain ⟨X4, _, m5, x6, e7, hq⟩ := hq
        cases hq
        have e7 : ∀ c, c ≠ t → c ≠ t + 1 → X4 c = X c := fun c c1 c2 => (e7 c c1 c2).trans (e1 c c1 c2)
        refine mj_T.eq (pc2 := 49) (st2 := []) ?_ rfl rfl rfl rfl
        exact mj_T.ret rfl rfl rfl ⟨_, _, m5, x6, e7, rfl⟩
    · exfalso
      simp only [jc, Bool.not_eq_true', Bool.not_eq_false', decide_eq_true_eq, decide_eq_false_iff_not] at c1
      omega
  | k + 1, hk, X1, h, m, hx, e1 => by
    have hj1 : ∀ j, jR (X1 r j) := fun j => by
      rw [e1 r (fun y => by rw [y, q.1] at kr; cases kr) (fun y => by rw [y, q.2.1] at kr; cases kr)]
      exact hjr j
    rw [show (((k + 1 : Nat)) : Int) - 1 = ((k : Nat) : Int) by omega]
    refine mj_T.pl rfl rfl rfl rfl ?_
    refine mj_T.if0 (a := ((k : Nat) : Int)) rfl ⟨by omega, by omega⟩ (fun c1 => ?_) (fun c1 => ?_)
    · exfalso
      simp only [jc, Bool.not_eq_true', Bool.not_eq_false', decide_eq_true_eq, decide_eq_false_iff_not] at c1
      omega
    · simp only [jc, Bool.not_eq_true', Bool.not_eq_false', decide_eq_true_eq, decide_eq_false_iff_not] at c1
      iterate 2 refine mj_T.pl rfl rfl rfl rfl ?_
      refine mT_lald m kr rfl ⟨by omega, by omega⟩ ?_
      refine mj_T.eq (st2 := [.long (jl (X1 r k))]) ?_ rfl rfl rfl rfl
      refine jT.lc 0 rfl rfl ?_
      refine mj_T.lif (a := (X1 r k)) (b := ((0 : Nat) : Int)) rfl rfl (hj1 _) ⟨by omega, by omega⟩ (fun c2 => ?_) (fun c2 => ?_)
      · simp only [jc, Bool.not_eq_true', Bool.not_eq_false', decide_eq_true_eq, decide_eq_false_iff_not] at c2
        refine mj_T.iinc rfl rfl ?_
        refine mj_T.eq (loc2 := [some (.ref t), some (.ref r), some (.int (jn (((k : Nat) : Int) + (-1))))]) ?_ rfl rfl rfl rfl
        refine mj_T.pl rfl rfl rfl rfl ?_
        rw [show (k : Int) + (-1) = (k : Int) - 1 by omega]
        exact mZ_82_loop q kr hjr k (by omega) _ _ m hx e1
      · simp only [jc, Bool.not_eq_true', Bool.not_eq_false', decide_eq_true_eq, decide_eq_false_iff_not] at c2
        iterate 3 refine mj_T.pl rfl rfl rfl rfl ?_
        refine mT_lald m kr rfl ⟨by omega, by omega⟩ ?_
        refine mj_T.eq (st2 := [.long (jl (X1 r k)), .ref t]) ?_ rfl rfl rfl rfl
        refine mj_T.pl rfl rfl rfl rfl ?_
        refine mj_T.call rfl rfl (Nat.le_of_ble_eq_true rfl) (Nat.le_of_ble_eq_true rfl) (mV_of m 17 q.1 (by decide) rfl (by decide) rfl _) rfl (mj_Ok.up (by omega) (mZ_83 (D := 0) m q hx (y := (X1 r k)) (s := ((k : Nat) : Int)) (hj1 _) ⟨by omega, by omega⟩)) (fun v g3 hq => ?_) (fun i g3 hq => ?_)
        rotate_left
        · obtain ⟨_, _, _, _, _, hq⟩ := hq; cases hq
        obtain ⟨X4, _, m5, x6, e7, hq⟩ := hq
        cases hq
        have e7 : ∀ c, c ≠ t → c ≠ t + 1 → X4 c = X c := fun c c1 c2 => (e7 c c1 c2).trans (e1 c c1 c2)
        refine mj_T.eq (pc2 := 30) (st2 := []) ?_ rfl rfl rfl rfl
        refine mj_T.iinc rfl rfl ?_
        refine mj_T.eq (loc2 := [some (.ref t), some (.ref r), some (.int (jn (((k : Nat) : Int) + (-1))))]) ?_ rfl rfl rfl rfl
        refine mj_T.pl rfl rfl rfl rfl ?_
        rw [show (k : Int) + (-1) = (k : Int) - 1 by omega]
        exact mZ_82_loop q kr hjr k (by omega) _ _ m5 x6 e7
theorem mZ_82 (m : jM g n V X h) (q : isT t) (kr : cK r = 2) (hjr : ∀ j, jR (X r j)) : mj_Ok (D + 4) 82 [.ref t, .ref r] h (fun z => ∃ (X2 : Nat → Nat → Int) (h2 : mj_H), jM g n V X2 h2 ∧ (0 ≤ X2 t 1 ∧ X2 t 1 ≤ 340) ∧ (∀ c, c ≠ t → c ≠ t + 1 → X2 c = X c) ∧ z = (.inl none, h2)) := by
  refine mj_Ok.of (M := mj_m82) rfl rfl rfl ?_
  iterate 2 refine mj_T.pl rfl rfl rfl rfl ?_
  refine mT_put (v := 0) m 17 q.1 (by decide) rfl (by simp [jMf, xup]) (by simp [jMf]) rfl (fun h1 m2 => ?_)
  refine mj_T.pl rfl rfl rfl rfl ?_
  refine mT_llen m2 kr rfl ?_
  refine mj_T.pl rfl rfl rfl rfl ?_
  refine mj_T.isub (a := ((13 : Nat) : Int)) (b := 1) rfl ?_
  refine mj_T.pl (loc' := [some (.ref t), some (.ref r), some (.int (jn (((13 : Nat) : Int) - 1)))]) rfl rfl rfl rfl ?_
  exact mZ_82_loop q kr hjr 13 (by decide) _ _ m2 ⟨by rw [xup_at]; decide, by rw [xup_at]; decide⟩ (fun c c1 c2 => xup_oth c1)
theorem CR.txt {X2 : Nat → Nat → Int} (h : ∀ c, c ≠ 15 → c ≠ 16 → c ≠ 17 → c ≠ 18 → X2 c = X c) (tl : TL X2) (c : CR X N u H) : CR X2 N u H := by
  obtain ⟨e, he, h3, h2, b, bh, _⟩ := c
  exact ⟨e, he, by rw [h 1 (by decide) (by decide) (by decide) (by decide)]; exact h3, by rw [h 1 (by decide) (by decide) (by decide) (by decide)]; exact h2, b.cg (fun c c1 c2 => h c (by omega) (by omega) (by omega) (by omega)), fun k hk => (bh k hk).cg (fun c c1 c2 => h c (by omega) (by omega) (by omega) (by omega)), tl⟩
theorem CR.tl (c : CR X N u H) : TL X := by
  obtain ⟨_, _, _, _, _, _, tl⟩ := c
  exact tl
theorem pX_write (hg : g.length ≤ n) (A : AS N u H) (s : cS g n N u H h) {a : Int} (ra : -2147483648 ≤ a ∧ a ≤ 2147483647) : mj_Ok (D + 5) 144 [.ref 1, .int (jn a)] h (rdL g n N u H) := by
  obtain ⟨V, X, m, b, d, c, jx⟩ := s.nr A
  have jx : rjR X := jx
  refine mj_Ok.of (M := mj_m144) rfl rfl rfl ?_
  refine mj_T.pl rfl rfl rfl rfl ?_
  refine mT_get m 19 cq_d1 (by decide) rfl rfl ?_
  iterate 2 refine mj_T.pl rfl rfl rfl rfl ?_
  refine mj_T.call rfl rfl (Nat.le_of_ble_eq_true rfl) (Nat.le_of_ble_eq_true rfl) (mV_of m 19 cq_d1 (by decide) rfl (by decide) rfl _) rfl (mj_Ok.up (by omega) (mC_rowOf (D := 0) m (i := a) (by omega))) (fun v g1 hq => ?_) (fun i g1 hq => ?_)
  rotate_left
  · rcases hq with ⟨_, hq⟩ | ⟨hn, hq⟩
    · cases hq
    · cases hq
      exact Or.inl ⟨rfl, Or.inr ⟨_, _, cS.thr hg m b d (c.sb (sBn.rf X)), rfl⟩⟩
  rcases hq with ⟨ka, hq⟩ | ⟨_, hq⟩
  rotate_left
  · cases hq
  cases hq
  refine mj_T.eq (pc2 := 9) (st2 := [.ref (4 + a.toNat), .ref 15]) ?_ rfl rfl rfl rfl
  refine mj_T.call rfl rfl (Nat.le_of_ble_eq_true rfl) (Nat.le_of_ble_eq_true rfl) (mV_of m 17 cq_d15 (by decide) rfl (by decide) rfl _) rfl (mj_Ok.up (by omega) (mZ_82 (D := 0) m isT_15 (mK_rt a.toNat (by omega)) (jx _ (mK_rt a.toNat (by omega))))) (fun v g2 hq => ?_) (fun i g2 hq => ?_)
  rotate_left
  · obtain ⟨_, _, _, _, _, hq⟩ := hq; cases hq
  obtain ⟨X2, _, m2, x2, e2, hq⟩ := hq
  cases hq
  have c2 : CR X2 N u H := c.txt (fun c c1 c2 c3 c4 => e2 c c1 c2) ⟨x2, by
    rw [e2 17 (by decide) (by decide)]
    exact c.tl.2⟩
  have d2 : DG X2 := d.of (fun p kp => e2 p (by have := cK_13 kp; omega) (by have := cK_13 kp; omega))
  refine mj_T.eq (pc2 := 12) (st2 := []) ?_ rfl rfl rfl rfl
  refine mj_T.pl rfl rfl rfl rfl ?_
  refine mT_get m2 19 cq_d1 (by decide) rfl rfl ?_
  refine mT_get m2 17 cq_d15 (by decide) rfl rfl ?_
  exact mj_T.ret rfl rfl rfl (Or.inl ⟨_, _, ⟨_, _, m2, b, d2, c2⟩, rfl⟩)
end MTW
