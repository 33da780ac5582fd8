/-! The class, exactly: gcd, simple, primitive, residue, setTerm. -/
theorem cgd_cg {f f' : Nat → Int} : ∀ k, (∀ i, i < k → f i = f' i) → cgd f k = cgd f' k
  | 0, _ => rfl
  | k + 1, h => by
    show Nat.gcd (cgd f k) (f k).natAbs = Nat.gcd (cgd f' k) (f' k).natAbs
    rw [cgd_cg k (fun i hi => h i (by omega)), h k (by omega)]
theorem sgc_cg {f f' : Nat → Int} (h : ∀ i, i < 13 → f i = f' i) : sgc f = sgc f' := by
  have e1 : fdg f 13 = fdg f' 13 := fdg_congr 13 h
  have e2 := cgd_cg 13 h
  unfold sgc
  rw [e1, e2]
  by_cases q : 0 < fdg f' 13
  · rw [h (fdg f' 13 - 1) (by have := fdg_le f' 13; omega)]
  · rw [if_neg (fun y => q y.1), if_neg (fun y => q y.1)]
theorem ppr_cg {f f' : Nat → Int} (h : ∀ i, i < 13 → f i = f' i) : ppr f = ppr f' := funext fun i => by
  unfold ppr
  by_cases q : i < 13
  · rw [if_pos q, if_pos q, sgc_cg h, h i q]
  · rw [if_neg q, if_neg q]
theorem gcR_cg {f1 f1' f2 f2' : Nat → Int} (h1 : ∀ i, i < 13 → f1 i = f1' i) (h2 : ∀ i, i < 13 → f2 i = f2' i) {R : pz_P} (q : gcR f1 f2 R) : gcR f1' f2' R := by
  have e1 : fdg f1 13 = fdg f1' 13 := fdg_congr 13 h1
  have e2 : fdg f2 13 = fdg f2' 13 := fdg_congr 13 h2
  unfold gcR at q ⊢
  rw [e1, e2, ppr_cg h1, ppr_cg h2, cgd_cg 13 h1, cgd_cg 13 h2] at q
  exact q
/-- the simple part of a polynomial -/
def smR (R S : pz_P) : Prop := ∃ (G : pz_P) (dg : Nat), GP (ppr R) (drv (ppr R)) G dg ∧ ppr R = pz_mul S G ∧ ∃ ds, ds ≤ 12 ∧ pz_lt S (ds + 1) ∧ S ds ≠ 0
section MP3
variable {g h : mj_H} {n D u : Nat} {V : Nat → Int} {X : Nat → Nat → Int} {N : Nat → Int} {H : Nat → Nat → Int}
theorem oX_gcd (A : AS N u H) (m : jM g n V X h) (b0 : by0 V) (d : DG X) (c : CR X N u H) {a : Int} (ha : 0 ≤ a ∧ a ≤ 5) {b : Int} (hb : 0 ≤ b ∧ b ≤ 5) : mj_Ok (D + 7) 59 [.ref 444, .ref (4 + a.toNat), .ref (4 + b.toNat), .ref 481] h (oR g n X (fun w => ∃ R, gcR (rwN N a) (rwN N b) R ∧ isP R w) (∃ R, gcR (rwN N a) (rwN N b) R ∧ ¬ fit13 R)) := by
  refine (mR_share (D := D) m b0 d (mK_rt a.toNat (by omega)) (mK_rt b.toNat (by omega)) cq_d481 (c.sm A.1 ha) (c.sm A.1 hb)).to (fun z hz => ?_)
  obtain ⟨V2, X2, h2, R, m2, b2, d2, fx, hR, hz⟩ := hz
  have hR2 := gcR_cg (c.rw ha) (c.rw hb) hR
  rcases hz with ⟨hf, rfl, hx⟩ | ⟨hf, rfl⟩
  · exact ⟨V2, X2, h2, 1, m2, b2, d2, sBn.fxt fx, Or.inl ⟨rfl, isP.s ⟨hf, hx⟩, R, hR2, hf, hx⟩, rfl⟩
  · exact ⟨V2, X2, h2, 0, m2, b2, d2, sBn.fxt fx, Or.inr ⟨rfl, R, hR2, hf⟩, rfl⟩
theorem mR_storeS (m : jM g n V X h) {S : pz_P} (hS : ∀ e, e < 13 → V (180 + 4 + 2 * e) = S e) (hz : ∀ e, 13 ≤ e → S e = 0) (hb : ∀ i, (S i).natAbs ≤ kM) : mj_Ok (D + 3) 62 [.ref 444, .ref 481] h (fun z => ∃ (y : Int) (X5 : Nat → Nat → Int) (h5 : mj_H), jM g n V X5 h5 ∧ ((y = 1 ∧ fit13 S ∧ X5 = xfl X 481 (pco V 180) 13) ∨ (y = 0 ∧ ¬ fit13 S ∧ X5 = X)) ∧ z = (.inl (some (.int (jn y))), h5)) := by
  have hc183 : cL (180 + 3) = 13 := by decide +kernel
  have l173 := mK_r.2.2.2.1
  have hfi := pok_fit (V := V) (p := 180) (m := 13) hc183.symm (by decide) S hS hz
  have hcl : pcl V 180 := fun i hi => by
    rw [hc183] at hi
    rw [hS i hi]
    have := jnl_B (hb i) kM_1.2.1
    omega
  refine mj_Ok.of (M := mj_m62) rfl rfl rfl ?_
  refine mj_T.pl rfl rfl rfl rfl ?_
  refine mT_get m 15 cq_d444 (by decide) rfl rfl ?_
  refine mT_get m 16 cq_d172 (by decide) rfl rfl ?_
  refine mj_T.pl rfl rfl rfl rfl ?_
  refine mT_aald m 5 cq_d173 (by decide) rfl rfl (by omega) ⟨by omega, by omega⟩ ?_
  refine mj_T.eq (st2 := [.ref 180]) ?_ rfl rfl rfl rfl
  refine mj_T.pl rfl rfl rfl rfl ?_
  refine mj_T.call rfl rfl (Nat.le_of_ble_eq_true rfl) (Nat.le_of_ble_eq_true rfl) (mV_of m 13 cq_d180 (by decide) rfl (by decide) rfl _) rfl (mj_Ok.up (by omega) (mP_store (D := 0) m cq_d180 hcl cq_d481 (by rw [hc183]; decide))) (fun v g1 hq => ?_) (fun i g1 hq => ?_)
  rotate_left
  · rcases hq with ⟨_, _, _, hq⟩ | ⟨_, hq⟩ <;> cases hq
  obtain ⟨y, X5, m5, hy, hq⟩ : ∃ (y : Int) (X5 : Nat → Nat → Int), jM g n V X5 g1 ∧ ((y = 1 ∧ fit13 S ∧ X5 = xfl X 481 (pco V 180) 13) ∨ (y = 0 ∧ ¬ fit13 S ∧ X5 = X)) ∧ v = some (.int (jn y)) := by
    rcases hq with ⟨ho, h5, m5, hq⟩ | ⟨ho, hq⟩
    · cases hq
      exact ⟨1, _, m5, Or.inl ⟨rfl, hfi.mp ho, rfl⟩, rfl⟩
    · cases hq
      exact ⟨0, X, m, Or.inr ⟨rfl, fun q => ho (hfi.mpr q), rfl⟩, rfl⟩
  subst hq
  have hy2 : y = 0 ∨ y = 1 := by
    rcases hy with ⟨e, _⟩ | ⟨e, _⟩
    · exact Or.inr e
    · exact Or.inl e
  refine mj_T.eq (pc2 := 13) (st2 := [.int (jn y)]) ?_ rfl rfl rfl rfl
  rcases hy with ⟨rfl, hy⟩ | ⟨rfl, hy⟩
  · exact mj_T.ret rfl rfl rfl ⟨1, X5, _, m5, Or.inl ⟨rfl, hy⟩, rfl⟩
  · exact mj_T.ret rfl rfl rfl ⟨0, X5, _, m5, Or.inr ⟨rfl, hy⟩, rfl⟩
theorem oX_sim {R S : pz_P} (A : AS N u H) (m : jM g n V X h) (b0 : by0 V) (d : DG X) (hS : ∀ e, e < 13 → V (180 + 4 + 2 * e) = S e) (hz : ∀ e, 13 ≤ e → S e = 0) (hb : ∀ i, (S i).natAbs ≤ kM) (hR : smR R S) : mj_Ok (D + 3) 62 [.ref 444, .ref 481] h (oR g n X (fun w => ∃ S, smR R S ∧ isP S w) (∃ S, smR R S ∧ ¬ fit13 S)) := by
  refine (mR_storeS (D := D) m hS hz hb).to (fun z hz => ?_)
  obtain ⟨y, X5, h5, m5, hy, rfl⟩ := hz
  rcases hy with ⟨rfl, hf, rfl⟩ | ⟨rfl, hf, rfl⟩
  · have hw : ∀ j, j < 13 → (xfl X 481 (pco V 180) 13) 481 j = S j := fun j hj => (xfl_at _ _ _ hj).trans (hS j hj)
    exact ⟨V, _, h5, 1, m5, b0, d.of (fun p kp => xfl_off _ _ _ (by have := cK_13 kp; omega)), sBn.row (Or.inl rfl), Or.inl ⟨rfl, isP.s ⟨hf, hw⟩, S, hR, hf, hw⟩, rfl⟩
  · exact ⟨V, X5, h5, 0, m5, b0, d, sBn.rf _, Or.inr ⟨rfl, S, hR, hf⟩, rfl⟩
end MP3
section MP3
variable {g h : mj_H} {n D r : Nat} {t a : Int} {V : Nat → Int} {X : Nat → Nat → Int}
theorem mC_prim_loop (kr : cK r = 2) (hne : r ≠ 481) (hr : sml (X r)) {Q : mj_R → Prop} (hend : ∀ h, jM g n V (xfl X 481 (ppr (X r)) 13) h → mj_T D mj_m110 66 [some (.ref 1), some (.int (jn t)), some (.int (jn a)), some (.ref r), some (.long (jl (sgc (X r)))), none, some (.int (jn ((13 : Nat) : Int)))] [] h Q) : ∀ k i, i + k = 13 → ∀ h, jM g n V (xfl X 481 (ppr (X r)) i) h → mj_T D mj_m110 21 [some (.ref 1), some (.int (jn t)), some (.int (jn a)), some (.ref r), some (.long (jl (sgc (X r)))), none, some (.int (jn ((i : Nat) : Int)))] [] h Q
  | 0, i, hi, h, m => by
    iterate 2 refine mj_T.pl rfl rfl rfl rfl ?_
    refine mj_T.icmp (a := ((i : Nat) : Int)) (b := 13) rfl ⟨by omega, by omega⟩ ⟨by omega, by omega⟩ (fun c1 => ?_) (fun c1 => ?_)
    · simp only [jc, Bool.not_eq_true', Bool.not_eq_false', decide_eq_true_eq, decide_eq_false_iff_not] at c1
      have hi13 : i = 13 := by omega
      subst hi13
      exact hend _ m
    · exfalso
      simp only [jc, Bool.not_eq_true', Bool.not_eq_false', decide_eq_true_eq, decide_eq_false_iff_not] at c1
      omega
  | k + 1, i, hi, h, m => by
    have er : (xfl X 481 (ppr (X r)) i) r i = X r i := congrFun (xfl_off _ _ _ hne) i
    have hb := hr i (by omega)
    have hsr : -9223372036854775808 ≤ sgc (X r) ∧ sgc (X r) ≤ 9223372036854775807 := by
      have := sgc_r hr
      unfold jR at this
      omega
    iterate 2 refine mj_T.pl rfl rfl rfl rfl ?_
    refine mj_T.icmp (a := ((i : Nat) : Int)) (b := 13) rfl ⟨by omega, by omega⟩ ⟨by omega, by omega⟩ (fun c1 => ?_) (fun c1 => ?_)
    · exfalso
      simp only [jc, Bool.not_eq_true', Bool.not_eq_false', decide_eq_true_eq, decide_eq_false_iff_not] at c1
      omega
    · simp only [jc, Bool.not_eq_true', Bool.not_eq_false', decide_eq_true_eq, decide_eq_false_iff_not] at c1
      iterate 2 refine mj_T.pl rfl rfl rfl rfl ?_
      refine mT_llen m kr rfl ?_
      refine mj_T.icmp (a := ((i : Nat) : Int)) (b := ((13 : Nat) : Int)) rfl ⟨by omega, by omega⟩ ⟨by omega, by omega⟩ (fun c2 => ?_) (fun c2 => ?_)
      · exfalso
        simp only [jc, Bool.not_eq_true', Bool.not_eq_false', decide_eq_true_eq, decide_eq_false_iff_not] at c2
        omega
      · simp only [jc, Bool.not_eq_true', Bool.not_eq_false', decide_eq_true_eq, decide_eq_false_iff_not] at c2
        refine mj_T.pl rfl rfl rfl rfl ?_
        refine mT_get m 19 cq_d1 (by decide) rfl rfl ?_
        iterate 2 refine mj_T.pl rfl rfl rfl rfl ?_
        refine jT.lc 0 rfl rfl ?_
        refine mj_T.lif (a := (sgc (X r))) (b := ((0 : Nat) : Int)) rfl rfl ⟨by omega, by omega⟩ ⟨by omega, by omega⟩ (fun c3 => ?_) (fun c3 => ?_)
        · simp only [jc, Bool.not_eq_true', Bool.not_eq_false', decide_eq_true_eq, decide_eq_false_iff_not] at c3
          iterate 2 refine mj_T.pl rfl rfl rfl rfl ?_
          refine mT_lald m kr rfl ⟨by omega, by omega⟩ ?_
          refine mj_T.eq (st2 := [.long (jl ((xfl X 481 (ppr (X r)) i) r i)), .int (jn ((i : Nat) : Int)), .ref 481]) ?_ rfl rfl rfl rfl
          refine mj_T.pl rfl rfl rfl rfl ?_
          refine mT_ldiv rfl ⟨by omega, by omega⟩ (by omega) ⟨by omega, by omega⟩ (by omega) ?_
          refine mT_last (v := (((xfl X 481 (ppr (X r)) i) r i).tdiv (sgc (X r)))) m cq_d481 rfl ⟨by omega, by omega⟩ (fun h4 m5 => ?_)
          refine mj_T.iinc rfl rfl ?_
          rw [show ((i : Nat) : Int) + 1 = ((i + 1 : Nat) : Int) by omega]
          refine mj_T.eq (loc2 := [some (.ref 1), some (.int (jn t)), some (.int (jn a)), some (.ref r), some (.long (jl (sgc (X r)))), none, some (.int (jn (((i + 1) : Nat) : Int)))]) ?_ rfl rfl rfl rfl
          refine mj_T.pl rfl rfl rfl rfl ?_
          refine mC_prim_loop kr hne hr hend k (i + 1) (by omega) _ ?_
          rw [xfl_full (v := (((xfl X 481 (ppr (X r)) i) r i).tdiv (sgc (X r)))) ?_]
          · exact m5
          · show _ = if i < 13 then (X r i).tdiv (sgc (X r)) else 0
            rw [if_pos (by omega), er]
        · simp only [jc, Bool.not_eq_true', Bool.not_eq_false', decide_eq_true_eq, decide_eq_false_iff_not] at c3
          refine jT.lc 0 rfl rfl ?_
          refine mj_T.pl rfl rfl rfl rfl ?_
          refine mT_last (v := ((0 : Nat) : Int)) m cq_d481 rfl ⟨by omega, by omega⟩ (fun h6 m7 => ?_)
          refine mj_T.iinc rfl rfl ?_
          rw [show ((i : Nat) : Int) + 1 = ((i + 1 : Nat) : Int) by omega]
          refine mj_T.eq (loc2 := [some (.ref 1), some (.int (jn t)), some (.int (jn a)), some (.ref r), some (.long (jl (sgc (X r)))), none, some (.int (jn (((i + 1) : Nat) : Int)))]) ?_ rfl rfl rfl rfl
          refine mj_T.pl rfl rfl rfl rfl ?_
          refine mC_prim_loop kr hne hr hend k (i + 1) (by omega) _ ?_
          rw [xfl_full (v := ((0 : Nat) : Int)) ?_]
          · exact m7
          · show ((0 : Nat) : Int) = if i < 13 then (X r i).tdiv (sgc (X r)) else 0
            rw [if_pos (by omega), show sgc (X r) = 0 by omega, Int.tdiv_zero]
            rfl
theorem mC_res_loop (kr : cK r = 2) (hne : r ≠ 481) (hr : sml (X r)) {p : Int} (hp : 0 < p ∧ p ≤ 97) {Q : mj_R → Prop} (hend : ∀ h, jM g n V (xfl X 481 (fun j => X r j % p) 13) h → mj_T (D + 1) mj_m112 58 [some (.ref 1), some (.int (jn t)), some (.int (jn a)), some (.int (jn p)), some (.ref r), some (.int (jn ((13 : Nat) : Int)))] [] h Q) : ∀ k i, i + k = 13 → ∀ h, jM g n V (xfl X 481 (fun j => X r j % p) i) h → mj_T (D + 1) mj_m112 20 [some (.ref 1), some (.int (jn t)), some (.int (jn a)), some (.int (jn p)), some (.ref r), some (.int (jn ((i : Nat) : Int)))] [] h Q
  | 0, i, hi, h, m => by
    iterate 2 refine mj_T.pl rfl rfl rfl rfl ?_
    refine mj_T.icmp (a := ((i : Nat) : Int)) (b := 13) rfl ⟨by omega, by omega⟩ ⟨by omega, by omega⟩ (fun c1 => ?_) (fun c1 => ?_)
    · simp only [jc, Bool.not_eq_true', Bool.not_eq_false', decide_eq_true_eq, decide_eq_false_iff_not] at c1
      have hi13 : i = 13 := by omega
      subst hi13
      exact hend _ m
    · exfalso
      simp only [jc, Bool.not_eq_true', Bool.not_eq_false', decide_eq_true_eq, decide_eq_false_iff_not] at c1
      omega
  | k + 1, i, hi, h, m => by
    have er : (xfl X 481 (fun j => X r j % p) i) r i = X r i := congrFun (xfl_off _ _ _ hne) i
    have hb := hr i (by omega)
    have hm1 : 0 ≤ (xfl X 481 (fun j => X r j % p) i) r i % p := Int.emod_nonneg _ (by omega)
    have hm2 : (xfl X 481 (fun j => X r j % p) i) r i % p < p := Int.emod_lt_of_pos _ hp.1
    iterate 2 refine mj_T.pl rfl rfl rfl rfl ?_
    refine mj_T.icmp (a := ((i : Nat) : Int)) (b := 13) rfl ⟨by omega, by omega⟩ ⟨by omega, by omega⟩ (fun c1 => ?_) (fun c1 => ?_)
    · exfalso
      simp only [jc, Bool.not_eq_true', Bool.not_eq_false', decide_eq_true_eq, decide_eq_false_iff_not] at c1
      omega
    · simp only [jc, Bool.not_eq_true', Bool.not_eq_false', decide_eq_true_eq, decide_eq_false_iff_not] at c1
      iterate 2 refine mj_T.pl rfl rfl rfl rfl ?_
      refine mT_llen m kr rfl ?_
      refine mj_T.icmp (a := ((i : Nat) : Int)) (b := ((13 : Nat) : Int)) rfl ⟨by omega, by omega⟩ ⟨by omega, by omega⟩ (fun c2 => ?_) (fun c2 => ?_)
      · exfalso
        simp only [jc, Bool.not_eq_true', Bool.not_eq_false', decide_eq_true_eq, decide_eq_false_iff_not] at c2
        omega
      · simp only [jc, Bool.not_eq_true', Bool.not_eq_false', decide_eq_true_eq, decide_eq_false_iff_not] at c2
        refine mj_T.pl rfl rfl rfl rfl ?_
        refine mT_get m 19 cq_d1 (by decide) rfl rfl ?_
        iterate 3 refine mj_T.pl rfl rfl rfl rfl ?_
        refine mT_lald m kr rfl ⟨by omega, by omega⟩ ?_
        refine mj_T.eq (st2 := [.long (jl ((xfl X 481 (fun j => X r j % p) i) r i)), .int (jn ((i : Nat) : Int)), .ref 481]) ?_ rfl rfl rfl rfl
        refine mj_T.pl rfl rfl rfl rfl ?_
        refine mj_T.call rfl rfl (Nat.le_of_ble_eq_true rfl) (Nat.le_of_ble_eq_true rfl) rfl rfl (mj_Ok.up (by omega) (mS_res (D := 0) (v := ((xfl X 481 (fun j => X r j % p) i) r i)) (p := p) (by unfold jR; omega) (by omega) (by omega))) (fun v g3 hq => ?_) (fun i g3 hq => ?_)
        rotate_left
        · cases hq
        cases hq
        refine mj_T.eq (pc2 := 50) (st2 := [.int (jn (((xfl X 481 (fun j => X r j % p) i) r i) % p)), .int (jn ((i : Nat) : Int)), .ref 481]) ?_ rfl rfl rfl rfl
        refine mj_T.i2l rfl ⟨by omega, by omega⟩ ?_
        refine mT_last (v := (((xfl X 481 (fun j => X r j % p) i) r i) % p)) m cq_d481 rfl ⟨by omega, by omega⟩ (fun h4 m5 => ?_)
        refine mj_T.iinc rfl rfl ?_
        rw [show ((i : Nat) : Int) + 1 = ((i + 1 : Nat) : Int) by omega]
        refine mj_T.eq (loc2 := [some (.ref 1), some (.int (jn t)), some (.int (jn a)), some (.int (jn p)), some (.ref r), some (.int (jn (((i + 1) : Nat) : Int)))]) ?_ rfl rfl rfl rfl
        refine mj_T.pl rfl rfl rfl rfl ?_
        refine mC_res_loop kr hne hr hp hend k (i + 1) (by omega) _ ?_
        rw [xfl_full (v := (((xfl X 481 (fun j => X r j % p) i) r i) % p)) ?_]
        · exact m5
        · show _ = X r i % p
          rw [er]
end MP3
