/-! The roots of the class, exactly: shareRows. -/
theorem ppr_z {f : Nat → Int} (hf : sml f) (h : fdg f 13 = 0) : ppr f = pz_0 := funext fun i => by
  unfold ppr
  split
  · rename_i c
    rw [fdg_zero f 13 i (by omega) c]
    exact Int.zero_tdiv _
  · rfl
/-- the greatest common divisor of two rows, with what their coefficients share -/
def gcR (f1 f2 : Nat → Int) (R : pz_P) : Prop := (fdg f1 13 = 0 ∧ fdg f2 13 = 0 ∧ R = pz_0) ∨ ((1 ≤ fdg f1 13 ∨ 1 ≤ fdg f2 13) ∧ ∃ (G : pz_P) (d : Nat), d < 13 ∧ GP (ppr f1) (ppr f2) G d ∧ R = pz_sc ((Nat.gcd (cgd f1 13) (cgd f2 13) : Nat) : Int) G)
theorem gcR.sy {f1 f2 : Nat → Int} {R : pz_P} (h : gcR f1 f2 R) : gcR f2 f1 R := by
  rcases h with ⟨h1, h2, h3⟩ | ⟨h0, G, d, h1, h2, h3⟩
  · exact Or.inl ⟨h2, h1, h3⟩
  · exact Or.inr ⟨h0.symm, G, d, h1, h2.sy, by rw [h3, Nat.gcd_comm]⟩
/-- and the row t -/
def FXt (t : Nat) (X X1 : Nat → Nat → Int) : Prop := ∀ a, a ≠ t → cK a ≠ 13 → cK a ≠ 15 → cK a ≠ 16 → (a < 180 ∨ 444 ≤ a) → X1 a = X a
theorem FX.t {X X1 : Nat → Nat → Int} (h : FX X X1) (t : Nat) : FXt t X X1 := fun a _ a1 a2 a3 a4 => h a a1 a2 a3 a4
theorem FX.row {X X1 : Nat → Nat → Int} (h : FX X X1) {t : Nat} {w : Nat → Int} {k : Nat} : FXt t X (xfl X1 t w k) := fun a a0 a1 a2 a3 a4 => (xfl_off _ _ _ a0).trans (h a a1 a2 a3 a4)
theorem DG.row {X : Nat → Nat → Int} (h : DG X) {t : Nat} (kt : cK t = 2) {w : Nat → Int} {k : Nat} : DG (xfl X t w k) := fun p kp => by
  rw [xfl_off _ _ _ (fun e => by subst e; omega)]
  exact h p kp
section MSR
variable {g h : mj_H} {n D p q t : Nat} {V : Nat → Int} {X : Nat → Nat → Int}
theorem mR_sh_loop {l1 l2 l4 l5 l9 : Option Value} {d s : Nat} {G : pz_P} {X1 : Nat → Nat → Int} (kt : cK t = 2) (hX : X1 20 2 = (d : Int) - 1) (hd : d ≤ 13) (hGz : ∀ i, d ≤ i → G i = 0) (hs : s ≤ 999999999999999999) (hGM : ∀ i, (G i).natAbs ≤ kM) (dg1 : DG X1) (fx1 : FX X X1) (hR : gcR (X p) (X q) (pz_sc (s : Int) G)) : ∀ k i, i + k = d → ∀ (V1 : Nat → Int) (h1 : mj_H), jM g n V1 X1 h1 → (∀ e, e < 13 → V1 (20 + 4 + 2 * e) = if e < i then G e * (s : Int) else G e) → by0 V1 → mj_T (D + 4) mj_m59 175 [some (.ref 444), l1, l2, some (.ref t), l4, l5, some (.long (jl (s : Int))), none, some (.int (jn (i : Int))), l9] [] h1 (fun z => ∃ (V2 : Nat → Int) (X2 : Nat → Nat → Int) (h2 : mj_H) (R : pz_P), jM g n V2 X2 h2 ∧ by0 V2 ∧ DG X2 ∧ FXt t X X2 ∧ gcR (X p) (X q) R ∧ ((fit13 R ∧ z = (.inl (some (.int (jn 1))), h2) ∧ ∀ i, i < 13 → X2 t i = R i) ∨ (¬ fit13 R ∧ z = (.inl (some (.int (jn 0))), h2))))
  | 0, i, hi, V1, h1, m, e1, b1 => by
    have p20 : cL (20 + 3) = 13 := mK_z.1
    have hsz : ∀ e, jnl (pz_sc (s : Int) G e).natAbs ≤ 29 := fun e => by
      show jnl ((s : Int) * G e).natAbs ≤ 29
      refine jnl_B (al := 9223372036854775807 * kM) ?_ kM_1.2.2
      rw [Int.natAbs_mul, Int.natAbs_natCast]
      exact Nat.mul_le_mul (by omega) (hGM e)
    iterate 2 refine mj_T.pl rfl rfl rfl rfl ?_
    refine mT_get m 15 cq_d444 (by decide) rfl rfl ?_
    refine mT_get m 11 cq_d19 (by decide) rfl rfl ?_
    refine mT_get (v := .int (jn ((d : Int) - 1))) m 13 cq_d20 (by decide) rfl (congrArg (fun z : Int => some (Value.int (jn z))) (hX)) ?_
    refine mj_T.icmp (a := ((i : Nat) : Int)) (b := ((d : Int) - 1)) rfl ⟨by omega, by omega⟩ ⟨by omega, by omega⟩ (fun c1 => ?_) (fun c1 => ?_)
    · simp only [jc, Bool.not_eq_true', Bool.not_eq_false', decide_eq_true_eq, decide_eq_false_iff_not] at c1
      have hid : i = d := by omega
      subst hid
      have eV : ∀ e, e < 13 → V1 (20 + 4 + 2 * e) = pz_sc (s : Int) G e := fun e he => by
        rw [e1 e he]
        show _ = (s : Int) * G e
        by_cases c : e < i
        · rw [if_pos c, Int.mul_comm]
        · rw [if_neg c, hGz e (by omega), Int.mul_zero]
      have hfi := pok_fit (V := V1) (p := 20) (m := 13) p20.symm (by decide) (pz_sc (s : Int) G) eV (fun j hj => by show (s : Int) * G j = 0; rw [hGz j (by omega), Int.mul_zero])
      refine mj_T.pl rfl rfl rfl rfl ?_
      refine mT_get m 15 cq_d444 (by decide) rfl rfl ?_
      refine mT_get m 11 cq_d19 (by decide) rfl rfl ?_
      refine mj_T.pl rfl rfl rfl rfl ?_
      refine mj_T.call rfl rfl (Nat.le_of_ble_eq_true rfl) (Nat.le_of_ble_eq_true rfl) (mV_of m 13 cq_d20 (by decide) rfl (by decide) rfl _) rfl (mj_Ok.up (by omega) (mP_store (D := 0) m cq_d20 (fun e he => by rw [p20] at he; rw [eV e he]; exact Nat.le_trans (hsz e) (by decide)) kt (by omega))) (fun v g1 hq => ?_) (fun i g1 hq => ?_)
      rotate_left
      · rcases hq with ⟨_, _, _, hq⟩ | ⟨_, hq⟩ <;> cases hq
      rcases hq with ⟨ho, _, m8, hq⟩ | ⟨ho, hq⟩
      · cases hq
        refine mj_T.ret rfl rfl rfl ⟨V1, _, _, _, m8, b1, dg1.row kt, fx1.row, hR, Or.inl ⟨hfi.mp ho, rfl, fun i hi => ?_⟩⟩
        rw [xfl_at _ _ _ hi]
        exact eV i hi
      · cases hq
        exact mj_T.ret rfl rfl rfl ⟨V1, _, _, _, m, b1, dg1, fx1.t t, hR, Or.inr ⟨fun y => ho (hfi.mpr y), rfl⟩⟩
    · exfalso
      simp only [jc, Bool.not_eq_true', Bool.not_eq_false', decide_eq_true_eq, decide_eq_false_iff_not] at c1
      omega
  | k + 1, i, hi, V1, h1, m, e1, b1 => by
    have p20 : cL (20 + 3) = 13 := mK_z.1
    have hsz : ∀ e, jnl (pz_sc (s : Int) G e).natAbs ≤ 29 := fun e => by
      show jnl ((s : Int) * G e).natAbs ≤ 29
      refine jnl_B (al := 9223372036854775807 * kM) ?_ kM_1.2.2
      rw [Int.natAbs_mul, Int.natAbs_natCast]
      exact Nat.mul_le_mul (by omega) (hGM e)
    iterate 2 refine mj_T.pl rfl rfl rfl rfl ?_
    refine mT_get m 15 cq_d444 (by decide) rfl rfl ?_
    refine mT_get m 11 cq_d19 (by decide) rfl rfl ?_
    refine mT_get (v := .int (jn ((d : Int) - 1))) m 13 cq_d20 (by decide) rfl (congrArg (fun z : Int => some (Value.int (jn z))) (hX)) ?_
    refine mj_T.icmp (a := ((i : Nat) : Int)) (b := ((d : Int) - 1)) rfl ⟨by omega, by omega⟩ ⟨by omega, by omega⟩ (fun c1 => ?_) (fun c1 => ?_)
    · exfalso
      simp only [jc, Bool.not_eq_true', Bool.not_eq_false', decide_eq_true_eq, decide_eq_false_iff_not] at c1
      omega
    · simp only [jc, Bool.not_eq_true', Bool.not_eq_false', decide_eq_true_eq, decide_eq_false_iff_not] at c1
      refine mj_T.pl rfl rfl rfl rfl ?_
      refine mT_get m 15 cq_d444 (by decide) rfl rfl ?_
      refine mj_T.pl rfl rfl rfl rfl ?_
      refine mT_get m 15 cq_d444 (by decide) rfl rfl ?_
      refine mT_get m 11 cq_d19 (by decide) rfl rfl ?_
      refine mj_T.pl rfl rfl rfl rfl ?_
      refine mj_T.call rfl rfl (Nat.le_of_ble_eq_true rfl) (Nat.le_of_ble_eq_true rfl) (mV_of m 13 cq_d20 (by decide) rfl (by decide) rfl _) rfl (mj_Ok.up (by omega) (mP_at (D := 0) m cq_d20 (e := i) (by omega))) (fun v g2 hq => ?_) (fun i g2 hq => ?_)
      rotate_left
      · cases hq
      cases hq
      refine mj_T.eq (pc2 := 206) (st2 := [.ref (20 + 4 + 2 * i), .ref 19]) ?_ rfl rfl rfl rfl
      refine mj_T.pl rfl rfl rfl rfl ?_
      have ei : V1 (20 + 4 + 2 * i) = G i := (e1 i (by omega)).trans (if_neg (Nat.lt_irrefl i))
      have hz1 := hsz i
      rw [show pz_sc (s : Int) G i = G i * (s : Int) from Int.mul_comm _ _] at hz1
      refine mj_T.call rfl rfl (Nat.le_of_ble_eq_true rfl) (Nat.le_of_ble_eq_true rfl) (mV_of m 11 cq_d19 (by decide) rfl (by decide) rfl _) rfl (mj_Ok.up (by omega) (mD_enlarge (D := 0) (f := (s : Int)) m ((mK_p cq_d20).2.2.2 _ (by omega)) (by omega) (by omega) (by rw [ei, (mK_z.2.2.2.2.1 i (by omega)).1]; omega) (by rw [ei]; omega) (hcl := by rw [ei]; exact Nat.le_trans (jnl_B (hGM i) kM_1.2.1) (by decide)))) (fun v g3 hq => ?_) (fun i g3 hq => ?_)
      rotate_left
      · obtain ⟨_, _, _, _, _, hq⟩ := hq; cases hq
      obtain ⟨V3, _, m3, f0, f1, hq⟩ := hq
      cases hq
      have b3 : by0 V3 := fun x hx => by
        have y := bydl_f hx
        rw [f1 x y.2.2.2.2.2.1 y.2.2.2.2.2.2.2.1 (by omega)]
        exact b1 x hx
      refine mj_T.eq (pc2 := 211) (st2 := []) ?_ rfl rfl rfl rfl
      refine mj_T.iinc rfl rfl ?_
      rw [show ((i : Nat) : Int) + 1 = ((i + 1 : Nat) : Int) by omega]
      refine mj_T.eq (loc2 := [some (.ref 444), l1, l2, some (.ref t), l4, l5, some (.long (jl (s : Int))), none, some (.int (jn (((i + 1) : Nat) : Int))), l9]) ?_ rfl rfl rfl rfl
      refine mj_T.pl rfl rfl rfl rfl ?_
      refine mR_sh_loop kt hX hd hGz hs hGM dg1 fx1 hR k (i + 1) (by omega) V3 _ m3 (fun e he => ?_) b3
      by_cases c : e = i
      · subst c
        rw [f0, ei, if_pos (Nat.lt_succ_self _)]
      · rw [f1 _ (by omega) (by omega) (by omega), e1 e he]
        by_cases y : e < i
        · rw [if_pos y, if_pos (by omega)]
        · rw [if_neg y, if_neg (by omega)]
theorem kR_n1 {r : Nat} (kr : cK r = 2) : r ≠ 180 := fun e => by
  subst e
  exact absurd (kr.symm.trans cq_d180) (by decide)
theorem sgc_r {f : Nat → Int} (hf : sml f) : jR (sgc f) := by
  have hcb : cgd f 13 ≤ 999999999999999999 := cgd_bd 13 (fun i hi => hf i hi)
  unfold sgc
  split
  · exact ⟨by omega, by omega⟩
  · exact ⟨by omega, by omega⟩
theorem ppr_sml {f : Nat → Int} (hf : sml f) (i : Nat) : (ppr f i).natAbs ≤ 999999999999999999 := by
  unfold ppr
  split
  · rename_i c
    exact Nat.le_trans (Int.natAbs_tdiv_le_natAbs _ _) (hf i c)
  · exact Nat.zero_le _
theorem ppr_fdg {f : Nat → Int} (hf : sml f) : fdg (ppr f) 13 = fdg f 13 := by
  rcases Nat.eq_zero_or_pos (fdg f 13) with z | z
  · rw [ppr_z hf z, z]
    rfl
  · obtain ⟨a0, a1, a2, a3, a4, a5, a6⟩ := ppr_ok hf (show fdg f 13 = fdg f 13 - 1 + 1 by omega)
    have hl := fdg_le f 13
    have := fdg_top (f := ppr f) (k := 13) (d := fdg f 13 - 1) (by omega) (fun i hi => a3 i (by omega)) (by omega)
    omega
theorem mR_share_t {l1 l2 l6 l7 l8 l9 : Option Value} (m : jM g n V X h) (b : by0 V) (dg : DG X) (kp : cK p = 2) (kq : cK q = 2) (kt : cK t = 2) (sp : sml (X p)) (sq : sml (X q)) (hd : fdg (X q) 13 ≤ fdg (X p) 13) : mj_T (D + 6) mj_m59 36 [some (.ref 444), l1, l2, some (.ref t), some (.ref p), some (.ref q), l6, l7, l8, l9] [] h (fun z => ∃ (V2 : Nat → Int) (X2 : Nat → Nat → Int) (h2 : mj_H) (R : pz_P), jM g n V2 X2 h2 ∧ by0 V2 ∧ DG X2 ∧ FXt t X X2 ∧ gcR (X p) (X q) R ∧ ((fit13 R ∧ z = (.inl (some (.int (jn 1))), h2) ∧ ∀ i, i < 13 → X2 t i = R i) ∨ (¬ fit13 R ∧ z = (.inl (some (.int (jn 0))), h2)))) := by
  have hL : cL 173 = 14 := mK_r.2.2.2.1
  have p20 : cL (20 + 3) = 13 := mK_z.1
  have p180 : cL (180 + 3) = 13 := (mK_r.2.2.2.2.2.1 0 (by decide)).2
  have p210 : cL (210 + 3) = 13 := (mK_r.2.2.2.2.2.1 1 (by decide)).2
  have hfp := fdg_le (X p) 13
  have hfq := fdg_le (X q) 13
  have hcp : cgd (X p) 13 ≤ 999999999999999999 := cgd_bd 13 (fun i hi => sp i hi)
  have hcq : cgd (X q) 13 ≤ 999999999999999999 := cgd_bd 13 (fun i hi => sq i hi)
  have hgp1 := ppr_fdg sp
  have hgq1 := ppr_fdg sq
  have hgcb : Nat.gcd (cgd (X p) 13) (cgd (X q) 13) ≤ 999999999999999999 := by
    rcases Nat.eq_zero_or_pos (cgd (X p) 13) with z | z
    · rw [z, Nat.gcd_zero_left]
      exact hcq
    · exact Nat.le_trans (Nat.le_of_dvd z (Nat.gcd_dvd_left _ _)) hcp
  refine mj_T.pl rfl rfl rfl rfl ?_
  refine mj_T.call rfl rfl (Nat.le_of_ble_eq_true rfl) (Nat.le_of_ble_eq_true rfl) rfl rfl (mj_Ok.up (by omega) (mS_cont (D := 0) m kp sp)) (fun v g1 hq => ?_) (fun i g1 hq => ?_)
  rotate_left
  · cases hq
  cases hq
  refine mj_T.eq (pc2 := 41) (st2 := [.long (jl ((cgd (X p) 13 : Nat) : Int))]) ?_ rfl rfl rfl rfl
  refine mj_T.pl rfl rfl rfl rfl ?_
  refine mj_T.call rfl rfl (Nat.le_of_ble_eq_true rfl) (Nat.le_of_ble_eq_true rfl) rfl rfl (mj_Ok.up (by omega) (mS_cont (D := 0) m kq sq)) (fun v g2 hq => ?_) (fun i g2 hq => ?_)
  rotate_left
  · cases hq
  cases hq
  refine mj_T.eq (pc2 := 46) (st2 := [.long (jl ((cgd (X q) 13 : Nat) : Int)), .long (jl ((cgd (X p) 13 : Nat) : Int))]) ?_ rfl rfl rfl rfl
  refine mj_T.call rfl rfl (Nat.le_of_ble_eq_true rfl) (Nat.le_of_ble_eq_true rfl) rfl rfl (mj_Ok.up (by omega) (mS_common (D := 0) (p := ((cgd (X p) 13 : Nat) : Int)) (q := ((cgd (X q) 13 : Nat) : Int)) (by rw [Int.natAbs_natCast]; omega) (by rw [Int.natAbs_natCast]; omega))) (fun v g3 hq => ?_) (fun i g3 hq => ?_)
  rotate_left
  · cases hq
  cases hq
  rw [Int.natAbs_natCast, Int.natAbs_natCast]
  refine mj_T.eq (pc2 := 49) (st2 := [.long (jl ((Nat.gcd (cgd (X p) 13) (cgd (X q) 13) : Nat) : Int))]) ?_ rfl rfl rfl rfl
  refine mj_T.pl (loc' := [some (.ref 444), l1, l2, some (.ref t), some (.ref p), some (.ref q), some (.long (jl ((Nat.gcd (cgd (X p) 13) (cgd (X q) 13) : Nat) : Int))), none, l8, l9]) rfl rfl rfl rfl ?_
  refine mj_T.pl rfl rfl rfl rfl ?_
  refine mj_T.call rfl rfl (Nat.le_of_ble_eq_true rfl) (Nat.le_of_ble_eq_true rfl) rfl rfl (mj_Ok.up (by omega) (mS_deg (D := 0) m kq sq)) (fun v g4 hq => ?_) (fun i g4 hq => ?_)
  rotate_left
  · cases hq
  cases hq
  refine mj_T.eq (pc2 := 56) (st2 := [.int (jn ((fdg (X q) 13 : Int) - 1))]) ?_ rfl rfl rfl rfl
  refine mj_T.if0 (a := ((fdg (X q) 13 : Int) - 1)) rfl ⟨by omega, by omega⟩ (fun c5 => ?_) (fun c5 => ?_)
  · simp only [jc, Bool.not_eq_true', Bool.not_eq_false', decide_eq_true_eq, decide_eq_false_iff_not] at c5
    refine mj_T.pl rfl rfl rfl rfl ?_
    refine mT_get m 15 cq_d444 (by decide) rfl rfl ?_
    refine mT_get m 16 cq_d172 (by decide) rfl rfl ?_
    refine mj_T.pl rfl rfl rfl rfl ?_
    refine mT_aald m 5 cq_d173 (by decide) rfl rfl (by omega) ⟨by omega, by omega⟩ ?_
    refine mj_T.eq (st2 := [.ref 180]) ?_ rfl rfl rfl rfl
    iterate 2 refine mj_T.pl rfl rfl rfl rfl ?_
    refine mj_T.call rfl rfl (Nat.le_of_ble_eq_true rfl) (Nat.le_of_ble_eq_true rfl) rfl rfl (mj_Ok.up (by omega) (mS_scont (D := 0) m kp sp)) (fun v g6 hq => ?_) (fun i g6 hq => ?_)
    rotate_left
    · cases hq
    cases hq
    refine mj_T.eq (pc2 := 95) (st2 := [.long (jl (sgc (X p))), .ref p, .ref 180]) ?_ rfl rfl rfl rfl
    refine mj_T.call rfl rfl (Nat.le_of_ble_eq_true rfl) (Nat.le_of_ble_eq_true rfl) (mV_of m 13 cq_d180 (by decide) rfl (by decide) rfl _) rfl (mj_Ok.up (by omega) (mP_load (D := 0) m cq_d180 kp p180 (sgc_r sp) sp (fun i hi => by rw [cap180 i hi]; omega))) (fun v g7 hq => ?_) (fun i g7 hq => ?_)
    rotate_left
    · obtain ⟨_, _, hq⟩ := hq; cases hq
    obtain ⟨_, m180, hq⟩ := hq
    cases hq
    have hf180 : fdg (fun e => (X p e).tdiv (sgc (X p))) 13 = fdg (ppr (X p)) 13 := fdg_congr 13 (fun i hi => by show _ = ppr (X p) i; unfold ppr; rw [if_pos hi])
    rw [hf180] at m180
    obtain ⟨V180, hV180⟩ : ∃ V180, V180 = pfl V 180 (fun e => (X p e).tdiv (sgc (X p))) 13 := ⟨_, rfl⟩
    rw [← hV180] at m180
    have eA180 : pcs V180 180 = ppr (X p) := funext fun i => by
      unfold pcs ppr
      rw [p180, hV180]
      by_cases c : i < 13
      · rw [if_pos c, if_pos c, pfl_at _ _ _ c]
      · rw [if_neg c, if_neg c]
    have b180 : by0 V180 := by
      rw [hV180]
      exact b.wr cq_d180 (by omega)
    refine mj_T.eq (pc2 := 98) (st2 := []) ?_ rfl rfl rfl rfl
    refine mj_T.pl rfl rfl rfl rfl ?_
    refine mT_get m180 15 cq_d444 (by decide) rfl rfl ?_
    refine mT_get m180 16 cq_d172 (by decide) rfl rfl ?_
    refine mj_T.pl rfl rfl rfl rfl ?_
    refine mT_aald m180 5 cq_d173 (by decide) rfl rfl (by omega) ⟨by omega, by omega⟩ ?_
    refine mj_T.eq (st2 := [.ref 210]) ?_ rfl rfl rfl rfl
    iterate 2 refine mj_T.pl rfl rfl rfl rfl ?_
    have hxq : (xup X 180 2 ((fdg (ppr (X p)) 13 : Int) - 1)) q = X q := xup_oth (kR_n1 kq)
    refine mj_T.call rfl rfl (Nat.le_of_ble_eq_true rfl) (Nat.le_of_ble_eq_true rfl) rfl rfl (mj_Ok.up (by omega) (mS_scont (D := 0) m180 kq (by rw [hxq]; exact sq))) (fun v g8 hq => ?_) (fun i g8 hq => ?_)
    rotate_left
    · cases hq
    cases hq
    rw [hxq]
    refine mj_T.eq (pc2 := 114) (st2 := [.long (jl (sgc (X q))), .ref q, .ref 210]) ?_ rfl rfl rfl rfl
    refine mj_T.call rfl rfl (Nat.le_of_ble_eq_true rfl) (Nat.le_of_ble_eq_true rfl) (mV_of m180 13 cq_d210 (by decide) rfl (by decide) rfl _) rfl (mj_Ok.up (by omega) (mP_load (D := 0) m180 cq_d210 kq p210 (sgc_r sq) (by rw [hxq]; exact sq) (fun i hi => by rw [cap210 i hi]; omega))) (fun v g9 hq => ?_) (fun i g9 hq => ?_)
    rotate_left
    · obtain ⟨_, _, hq⟩ := hq; cases hq
    obtain ⟨_, m210, hq⟩ := hq
    cases hq
    rw [hxq] at m210
    have hf210 : fdg (fun e => (X q e).tdiv (sgc (X q))) 13 = fdg (ppr (X q)) 13 := fdg_congr 13 (fun i hi => by show _ = ppr (X q) i; unfold ppr; rw [if_pos hi])
    rw [hf210] at m210
    obtain ⟨V210, hV210⟩ : ∃ V210, V210 = pfl V180 210 (fun e => (X q e).tdiv (sgc (X q))) 13 := ⟨_, rfl⟩
    rw [← hV210] at m210
    have eA210 : pcs V210 210 = ppr (X q) := funext fun i => by
      unfold pcs ppr
      rw [p210, hV210]
      by_cases c : i < 13
      · rw [if_pos c, if_pos c, pfl_at _ _ _ c]
      · rw [if_neg c, if_neg c]
    have b210 : by0 V210 := by
      rw [hV210]
      exact b180.wr cq_d210 (by omega)
    refine mj_T.eq (pc2 := 117) (st2 := []) ?_ rfl rfl rfl rfl
    refine mj_T.pl rfl rfl rfl rfl ?_
    refine mT_get m210 15 cq_d444 (by decide) rfl rfl ?_
    refine mT_get m210 16 cq_d172 (by decide) rfl rfl ?_
    refine mj_T.pl rfl rfl rfl rfl ?_
    refine mT_aald m210 5 cq_d173 (by decide) rfl rfl (by omega) ⟨by omega, by omega⟩ ?_
    refine mj_T.eq (st2 := [.ref 180]) ?_ rfl rfl rfl rfl
    obtain ⟨mm, hmm⟩ : ∃ mm, fdg (X p) 13 = mm + 1 := ⟨fdg (X p) 13 - 1, by omega⟩
    obtain ⟨a0, a1, a2, a3, a4, a5, a6⟩ := ppr_ok sp hmm
    obtain ⟨mn, hmn⟩ : ∃ mn, fdg (X q) 13 = mn + 1 := ⟨fdg (X q) 13 - 1, by omega⟩
    obtain ⟨c0, c1', c2, c3, c4, c5, c6⟩ := ppr_ok sq hmn
    have hfl := fdg_le (X p) 13
    have hfl2 := fdg_le (X q) 13
    have hfa : fdg (ppr (X p)) 13 = mm + 1 := fdg_top (by omega) (fun i hi => a3 i (by omega)) (by omega)
    have hfb : fdg (ppr (X q)) 13 = mn + 1 := fdg_top (by omega) (fun i hi => c3 i (by omega)) (by omega)
    have eP : pcs V210 180 = ppr (X p) := by
      rw [← eA180]
      funext i
      unfold pcs
      rw [p180, hV210]
      by_cases c : i < 13
      · rw [if_pos c, if_pos c, pfl_off _ _ _ (by omega)]
      · rw [if_neg c, if_neg c]
    have dgx : DG (xup (xup X 180 2 ((fdg (ppr (X p)) 13 : Int) - 1)) 210 2 ((fdg (ppr (X q)) 13 : Int) - 1)) := (dg.deg (by omega)).deg (by omega)
    have l1v : V210 (180 + 4 + 2 * mm) = ppr (X p) mm := by
      rw [← eP, pcs_in (by omega)]
    have l2v : V210 (210 + 4 + 2 * mn) = ppr (X q) mn := by
      rw [← eA210, pcs_in (by omega)]
    have hl1 := a5 mm
    have hl2 := c5 mn
    refine mj_T.call rfl rfl (Nat.le_of_ble_eq_true rfl) (Nat.le_of_ble_eq_true rfl) (mV_of m210 13 cq_d180 (by decide) rfl (by decide) rfl _) rfl (mj_Ok.up (by omega) (mP_lead (D := 0) (e := mm) m210 cq_d180 ((congrFun (xup_oth (by decide)) 2).trans ((xup_at _ _ _ _).trans (by rw [hfa]; omega))) (by omega))) (fun v g10 hq => ?_) (fun i g10 hq => ?_)
    rotate_left
    · cases hq
    cases hq
    refine mj_T.eq (pc2 := 129) (st2 := [.ref (180 + 4 + 2 * mm)]) ?_ rfl rfl rfl rfl
    refine mj_T.call rfl rfl (Nat.le_of_ble_eq_true rfl) (Nat.le_of_ble_eq_true rfl) (mV_of m210 18 ((mK_p cq_d180).2.2.2 mm (by omega)) (by decide) rfl (by decide) rfl _) rfl (mj_Ok.up (by omega) (mW_low (D := 0) m210 ((mK_p cq_d180).2.2.2 mm (by omega)) (hcl := by rw [l1v]; exact Nat.le_trans (jnl_two.mpr (by omega)) (by decide)))) (fun v g11 hq => ?_) (fun i g11 hq => ?_)
    rotate_left
    · cases hq
    cases hq
    rw [l1v]
    refine mj_T.eq (pc2 := 132) (st2 := [.long (jl (ppr (X p) mm))]) ?_ rfl rfl rfl rfl
    refine mj_T.pl rfl rfl rfl rfl ?_
    refine mT_get m210 15 cq_d444 (by decide) rfl rfl ?_
    refine mT_get m210 16 cq_d172 (by decide) rfl rfl ?_
    refine mj_T.pl rfl rfl rfl rfl ?_
    refine mT_aald m210 5 cq_d173 (by decide) rfl rfl (by omega) ⟨by omega, by omega⟩ ?_
    refine mj_T.eq (st2 := [.ref 210, .long (jl (ppr (X p) mm))]) ?_ rfl rfl rfl rfl
    refine mj_T.call rfl rfl (Nat.le_of_ble_eq_true rfl) (Nat.le_of_ble_eq_true rfl) (mV_of m210 13 cq_d210 (by decide) rfl (by decide) rfl _) rfl (mj_Ok.up (by omega) (mP_lead (D := 0) (e := mn) m210 cq_d210 ((xup_at _ _ _ _).trans (by rw [hfb]; omega)) (by omega))) (fun v g12 hq => ?_) (fun i g12 hq => ?_)
    rotate_left
    · cases hq
    cases hq
    refine mj_T.eq (pc2 := 144) (st2 := [.ref (210 + 4 + 2 * mn), .long (jl (ppr (X p) mm))]) ?_ rfl rfl rfl rfl
    refine mj_T.call rfl rfl (Nat.le_of_ble_eq_true rfl) (Nat.le_of_ble_eq_true rfl) (mV_of m210 18 ((mK_p cq_d210).2.2.2 mn (by omega)) (by decide) rfl (by decide) rfl _) rfl (mj_Ok.up (by omega) (mW_low (D := 0) m210 ((mK_p cq_d210).2.2.2 mn (by omega)) (hcl := by rw [l2v]; exact Nat.le_trans (jnl_two.mpr (by omega)) (by decide)))) (fun v g13 hq => ?_) (fun i g13 hq => ?_)
    rotate_left
    · cases hq
    cases hq
    rw [l2v]
    refine mj_T.eq (pc2 := 147) (st2 := [.long (jl (ppr (X q) mn)), .long (jl (ppr (X p) mm))]) ?_ rfl rfl rfl rfl
    refine mj_T.call rfl rfl (Nat.le_of_ble_eq_true rfl) (Nat.le_of_ble_eq_true rfl) rfl rfl (mj_Ok.up (by omega) (mS_common (D := 0) (p := ppr (X p) mm) (q := ppr (X q) mn) (by omega) (by omega))) (fun v g14 hq => ?_) (fun i g14 hq => ?_)
    rotate_left
    · cases hq
    cases hq
    obtain ⟨ld, hld⟩ : ∃ ld : Nat, Nat.gcd (ppr (X p) mm).natAbs (ppr (X q) mn).natAbs = ld := ⟨_, rfl⟩
    rw [hld]
    have hld1 : 1 ≤ ld := by
      rw [← hld]
      exact Nat.gcd_pos_of_pos_left _ (by omega)
    have hld2 : ld ≤ 999999999999999999 := by
      have := Nat.le_of_dvd (show 0 < (ppr (X p) mm).natAbs by omega) (Nat.gcd_dvd_left (ppr (X p) mm).natAbs (ppr (X q) mn).natAbs)
      omega
    refine mj_T.eq (pc2 := 150) (st2 := [.long (jl (ld : Int))]) ?_ rfl rfl rfl rfl
    refine mj_T.pl (loc' := [some (.ref 444), l1, l2, some (.ref t), some (.ref p), some (.ref q), some (.long (jl ((Nat.gcd (cgd (X p) 13) (cgd (X q) 13) : Nat) : Int))), none, some (.long (jl (ld : Int))), none]) rfl rfl rfl rfl ?_
    refine mj_T.pl rfl rfl rfl rfl ?_
    refine mT_get m210 15 cq_d444 (by decide) rfl rfl ?_
    refine mj_T.call rfl rfl (Nat.le_of_ble_eq_true rfl) (Nat.le_of_ble_eq_true rfl) (mV_of m210 16 cq_d172 (by decide) rfl (by decide) rfl _) rfl (mj_Ok.up (by omega) (mR_goOnC (D := 0) (ma := mm) m210 dgx ((congrFun (xup_oth (by decide)) 2).trans ((xup_at _ _ _ _).trans (by rw [hfa]; omega))) (by rw [eP]; exact fun i hi => a3 i (by omega)) (by omega) (by rw [eP]; exact fun e => Nat.le_trans (a5 e) (by decide)) b210 (by rw [eP]; omega) (Or.inr ⟨mn, (xup_at _ _ _ _).trans (by rw [hfb]; omega), by rw [eA210]; exact fun i hi => c3 i (by omega), by rw [eA210]; omega, by omega, by omega, by rw [eA210]; exact fun e => Nat.le_trans (c5 e) (by decide)⟩))) (fun v g15 hq => ?_) (fun i g15 hq => ?_)
    rotate_left
    · obtain ⟨_, _, _, _, _, _, _, _, hq⟩ := hq; cases hq
    obtain ⟨V5, X5, _, m5, ge, b5, fr, dg5, hq⟩ := hq
    cases hq
    rw [eP, eA210] at ge
    obtain ⟨k, dz, hk, hX172, hXk, hdz, hne, hzz, h60, hcd⟩ := ge
    obtain ⟨G, c1, hc1, hZ, hG⟩ := gp_of hzz hne hcd
    have hLk := (mK_p (sro_k hk).1).2.2.1
    have fx5 : FX X X5 := ((FX.up (Or.inl cq_d180)).tr (FX.up (Or.inl cq_d210))).tr fr.fx
    refine mj_T.eq (pc2 := 159) (st2 := []) ?_ rfl rfl rfl rfl
    iterate 2 refine mj_T.pl rfl rfl rfl rfl ?_
    refine mT_get m5 15 cq_d444 (by decide) rfl rfl ?_
    refine mj_T.call rfl rfl (Nat.le_of_ble_eq_true rfl) (Nat.le_of_ble_eq_true rfl) (mV_of m5 16 cq_d172 (by decide) rfl (by decide) rfl _) rfl (mj_Ok.up (by omega) (mR_last (D := 0) m5 hX172 hk)) (fun v g16 hq => ?_) (fun i g16 hq => ?_)
    rotate_left
    · cases hq
    cases hq
    refine mj_T.eq (pc2 := 167) (st2 := [.ref (sro k), .ref 444]) ?_ rfl rfl rfl rfl
    refine mj_T.pl rfl rfl rfl rfl ?_
    have hGl := hG.lead a3 (by omega)
    have hGl2 := hG.sy.lead c3 (by omega)
    have hGs := hG.size a3 (by omega) (by omega) a5
    have hGd : G dz ∣ (ld : Int) := by
      rw [← hld]
      refine Int.natAbs_dvd.mp (Int.natCast_dvd_natCast.mpr (Nat.dvd_gcd (Int.natAbs_dvd_natAbs.mpr hGl.2) (Int.natAbs_dvd_natAbs.mpr hGl2.2)))
    refine mj_T.call rfl rfl (Nat.le_of_ble_eq_true rfl) (Nat.le_of_ble_eq_true rfl) (mV_of m5 15 cq_d444 (by decide) rfl (by decide) rfl _) rfl (mj_Ok.up (by omega) (mR_takeG (D := 0) (dz := dz) (ld := ld) (M := kM) m5 (sro_k hk).1 (sro_2 hk).1 hXk hdz hc1 hZ hG hld1 (by omega) hGd hGs kM_1.2.2 h60)) (fun v g17 hq => ?_) (fun i g17 hq => ?_)
    rotate_left
    · obtain ⟨_, _, _, _, _, hq⟩ := hq; cases hq
    obtain ⟨V7, _, m7, f1, f2, hq⟩ := hq
    cases hq
    have b7 : by0 V7 := fun x hx => by
      have y := bydl_f hx
      rw [f2 x y.2.2.2.2.2.1 y.2.2.2.2.2.2.1 y.2.2.2.2.2.2.2.1 y.2.2.2.2.2.2.2.2.1 (by omega)]
      exact b5 x hx
    refine mj_T.eq (pc2 := 172) (st2 := []) ?_ rfl rfl rfl rfl
    refine mj_T.pl rfl rfl rfl rfl ?_
    refine mj_T.pl (loc' := [some (.ref 444), l1, l2, some (.ref t), some (.ref p), some (.ref q), some (.long (jl ((Nat.gcd (cgd (X p) 13) (cgd (X q) 13) : Nat) : Int))), none, some (.int (jn 0)), none]) rfl rfl rfl rfl ?_
    have hGz : ∀ i, dz + 1 ≤ i → G i = 0 := fun i hi => hG.2.2.1 i (by omega)
    refine mj_T.eq (loc2 := [some (.ref 444), l1, l2, some (.ref t), some (.ref p), some (.ref q), some (.long (jl ((Nat.gcd (cgd (X p) 13) (cgd (X q) 13) : Nat) : Int))), none, some (.int (jn ((0 : Nat) : Int))), none]) ?_ rfl rfl rfl rfl
    refine mR_sh_loop (D := D + 2) (d := dz + 1) (G := G) kt ((xup_at _ _ _ _).trans (by omega)) (by omega) hGz hgcb hGs (dg5.deg (by omega)) (fx5.tr (FX.up (Or.inl cq_d20))) (Or.inr ⟨Or.inl (by omega), G, dz, by omega, hG, rfl⟩) (dz + 1) 0 (by omega) V7 _ m7 (fun e he => ?_) b7
    rw [if_neg (Nat.not_lt_zero e)]
    exact f1 e he
  · simp only [jc, Bool.not_eq_true', Bool.not_eq_false', decide_eq_true_eq, decide_eq_false_iff_not] at c5
    refine mj_T.pl rfl rfl rfl rfl ?_
    refine mT_get m 15 cq_d444 (by decide) rfl rfl ?_
    refine mT_get m 11 cq_d19 (by decide) rfl rfl ?_
    iterate 2 refine mj_T.pl rfl rfl rfl rfl ?_
    refine mj_T.call rfl rfl (Nat.le_of_ble_eq_true rfl) (Nat.le_of_ble_eq_true rfl) rfl rfl (mj_Ok.up (by omega) (mS_scont (D := 0) m kp sp)) (fun v g18 hq => ?_) (fun i g18 hq => ?_)
    rotate_left
    · cases hq
    cases hq
    refine mj_T.eq (pc2 := 73) (st2 := [.long (jl (sgc (X p))), .ref p, .ref 20]) ?_ rfl rfl rfl rfl
    refine mj_T.call rfl rfl (Nat.le_of_ble_eq_true rfl) (Nat.le_of_ble_eq_true rfl) (mV_of m 13 cq_d20 (by decide) rfl (by decide) rfl _) rfl (mj_Ok.up (by omega) (mP_load (D := 0) m cq_d20 kp p20 (sgc_r sp) sp (fun i hi => by rw [(mK_z.2.2.2.2.1 i hi).1]; decide))) (fun v g19 hq => ?_) (fun i g19 hq => ?_)
    rotate_left
    · obtain ⟨_, _, hq⟩ := hq; cases hq
    obtain ⟨_, m20, hq⟩ := hq
    cases hq
    have hf20 : fdg (fun e => (X p e).tdiv (sgc (X p))) 13 = fdg (ppr (X p)) 13 := fdg_congr 13 (fun i hi => by show _ = ppr (X p) i; unfold ppr; rw [if_pos hi])
    rw [hf20] at m20
    obtain ⟨V20, hV20⟩ : ∃ V20, V20 = pfl V 20 (fun e => (X p e).tdiv (sgc (X p))) 13 := ⟨_, rfl⟩
    rw [← hV20] at m20
    have eA20 : pcs V20 20 = ppr (X p) := funext fun i => by
      unfold pcs ppr
      rw [p20, hV20]
      by_cases c : i < 13
      · rw [if_pos c, if_pos c, pfl_at _ _ _ c]
      · rw [if_neg c, if_neg c]
    have b20 : by0 V20 := by
      rw [hV20]
      exact b.wr cq_d20 (by omega)
    refine mj_T.eq (pc2 := 76) (st2 := []) ?_ rfl rfl rfl rfl
    iterate 2 refine mj_T.pl rfl rfl rfl rfl ?_
    refine mj_T.pl (loc' := [some (.ref 444), l1, l2, some (.ref t), some (.ref p), some (.ref q), some (.long (jl ((Nat.gcd (cgd (X p) 13) (cgd (X q) 13) : Nat) : Int))), none, some (.int (jn 0)), l9]) rfl rfl rfl rfl ?_
    have hq0 : fdg (X q) 13 = 0 := by omega
    have hgc : Nat.gcd (cgd (X p) 13) (cgd (X q) 13) ≤ 999999999999999999 := hgcb
    have hz : ppr (X q) = pz_0 := ppr_z sq hq0
    have hfle := fdg_le (ppr (X p)) 13
    have hpa : ∀ i, (ppr (X p) i).natAbs ≤ 999999999999999999 := ppr_sml sp
    refine mj_T.eq (loc2 := [some (.ref 444), l1, l2, some (.ref t), some (.ref p), some (.ref q), some (.long (jl ((Nat.gcd (cgd (X p) 13) (cgd (X q) 13) : Nat) : Int))), none, some (.int (jn ((0 : Nat) : Int))), l9]) ?_ rfl rfl rfl rfl
    refine mR_sh_loop (D := D + 2) (d := fdg (ppr (X p)) 13) (G := ppr (X p)) kt (xup_at _ _ _ _) hfle (fun i hi => ?_) hgc (fun i => Nat.le_trans (hpa i) (by decide)) (dg.deg (by omega)) (FX.up (Or.inl cq_d20)) ?_ (fdg (ppr (X p)) 13) 0 (by omega) V20 _ m20 (fun e he => ?_) b20
    · by_cases c : i < 13
      · exact fdg_zero (ppr (X p)) 13 i hi c
      · exact if_neg c
    · by_cases c : fdg (X p) 13 = 0
      · refine Or.inl ⟨c, hq0, ?_⟩
        rw [ppr_z sp c]
        funext i
        exact Int.mul_zero _
      · obtain ⟨mm, hmm⟩ : ∃ mm, fdg (X p) 13 = mm + 1 := ⟨fdg (X p) 13 - 1, by omega⟩
        obtain ⟨a0, a1, a2, a3, a4, a5, a6⟩ := ppr_ok sp hmm
        have hfl := fdg_le (X p) 13
        exact Or.inr ⟨Or.inl (by omega), ppr (X p), mm, by omega, ⟨a6, a4, fun i hi => a3 i (by omega), ⟨pz_one, 1, fun i hi => if_neg (by omega), (pz_one_mul _).symm⟩, ⟨pz_0, 0, fun _ _ => rfl, by rw [hz, pz_mul_0L]⟩, fun H h1 _ => h1⟩, rfl⟩
    · rw [if_neg (Nat.not_lt_zero e)]
      have := congrFun eA20 e
      rw [pcs_in (by omega)] at this
      exact this
theorem mR_share (m : jM g n V X h) (b : by0 V) (dg : DG X) (kp : cK p = 2) (kq : cK q = 2) (kt : cK t = 2) (sp : sml (X p)) (sq : sml (X q)) : mj_Ok (D + 7) 59 [.ref 444, .ref p, .ref q, .ref t] h (fun z => ∃ (V2 : Nat → Int) (X2 : Nat → Nat → Int) (h2 : mj_H) (R : pz_P), jM g n V2 X2 h2 ∧ by0 V2 ∧ DG X2 ∧ FXt t X X2 ∧ gcR (X p) (X q) R ∧ ((fit13 R ∧ z = (.inl (some (.int (jn 1))), h2) ∧ ∀ i, i < 13 → X2 t i = R i) ∨ (¬ fit13 R ∧ z = (.inl (some (.int (jn 0))), h2)))) := by
  have hfp := fdg_le (X p) 13
  have hfq := fdg_le (X q) 13
  refine mj_Ok.of (M := mj_m59) rfl rfl rfl ?_
  refine mj_T.pl rfl rfl rfl rfl ?_
  refine mj_T.call rfl rfl (Nat.le_of_ble_eq_true rfl) (Nat.le_of_ble_eq_true rfl) rfl rfl (mj_Ok.up (by omega) (mS_deg (D := 0) m kp sp)) (fun v g1 hq => ?_) (fun i g1 hq => ?_)
  rotate_left
  · cases hq
  cases hq
  refine mj_T.eq (pc2 := 4) (st2 := [.int (jn ((fdg (X p) 13 : Int) - 1))]) ?_ rfl rfl rfl rfl
  refine mj_T.pl rfl rfl rfl rfl ?_
  refine mj_T.call rfl rfl (Nat.le_of_ble_eq_true rfl) (Nat.le_of_ble_eq_true rfl) rfl rfl (mj_Ok.up (by omega) (mS_deg (D := 0) m kq sq)) (fun v g2 hq => ?_) (fun i g2 hq => ?_)
  rotate_left
  · cases hq
  cases hq
  refine mj_T.eq (pc2 := 8) (st2 := [.int (jn ((fdg (X q) 13 : Int) - 1)), .int (jn ((fdg (X p) 13 : Int) - 1))]) ?_ rfl rfl rfl rfl
  refine mj_T.icmp (a := ((fdg (X p) 13 : Int) - 1)) (b := ((fdg (X q) 13 : Int) - 1)) rfl ⟨by omega, by omega⟩ ⟨by omega, by omega⟩ (fun c3 => ?_) (fun c3 => ?_)
  · simp only [jc, Bool.not_eq_true', Bool.not_eq_false', decide_eq_true_eq, decide_eq_false_iff_not] at c3
    refine mj_T.pl rfl rfl rfl rfl ?_
    refine mj_T.pl (loc' := [some (.ref 444), some (.ref p), some (.ref q), some (.ref t), some (.ref q), none, none, none, none, none]) rfl rfl rfl rfl ?_
    refine mj_T.pl rfl rfl rfl rfl ?_
    refine mj_T.call rfl rfl (Nat.le_of_ble_eq_true rfl) (Nat.le_of_ble_eq_true rfl) rfl rfl (mj_Ok.up (by omega) (mS_deg (D := 0) m kp sp)) (fun v g4 hq => ?_) (fun i g4 hq => ?_)
    rotate_left
    · cases hq
    cases hq
    refine mj_T.eq (pc2 := 22) (st2 := [.int (jn ((fdg (X p) 13 : Int) - 1))]) ?_ rfl rfl rfl rfl
    refine mj_T.pl rfl rfl rfl rfl ?_
    refine mj_T.call rfl rfl (Nat.le_of_ble_eq_true rfl) (Nat.le_of_ble_eq_true rfl) rfl rfl (mj_Ok.up (by omega) (mS_deg (D := 0) m kq sq)) (fun v g5 hq => ?_) (fun i g5 hq => ?_)
    rotate_left
    · cases hq
    cases hq
    refine mj_T.eq (pc2 := 26) (st2 := [.int (jn ((fdg (X q) 13 : Int) - 1)), .int (jn ((fdg (X p) 13 : Int) - 1))]) ?_ rfl rfl rfl rfl
    refine mj_T.icmp (a := ((fdg (X p) 13 : Int) - 1)) (b := ((fdg (X q) 13 : Int) - 1)) rfl ⟨by omega, by omega⟩ ⟨by omega, by omega⟩ (fun c6 => ?_) (fun c6 => ?_)
    · simp only [jc, Bool.not_eq_true', Bool.not_eq_false', decide_eq_true_eq, decide_eq_false_iff_not] at c6
      refine mj_T.pl rfl rfl rfl rfl ?_
      refine mj_T.pl (loc' := [some (.ref 444), some (.ref p), some (.ref q), some (.ref t), some (.ref q), some (.ref p), none, none, none, none]) rfl rfl rfl rfl ?_
      refine mj_T.imp (mR_share_t m b dg kq kp kt sq sp (by omega)) (fun z hz => ?_)
      obtain ⟨V2, X2, h2, R, m2, b2, d2, f2, g2, e2⟩ := hz
      exact ⟨V2, X2, h2, R, m2, b2, d2, f2, g2.sy, e2⟩
    · simp only [jc, Bool.not_eq_true', Bool.not_eq_false', decide_eq_true_eq, decide_eq_false_iff_not] at c6
      iterate 2 refine mj_T.pl rfl rfl rfl rfl ?_
      refine mj_T.pl (loc' := [some (.ref 444), some (.ref p), some (.ref q), some (.ref t), some (.ref q), some (.ref q), none, none, none, none]) rfl rfl rfl rfl ?_
      exfalso
      omega
  · simp only [jc, Bool.not_eq_true', Bool.not_eq_false', decide_eq_true_eq, decide_eq_false_iff_not] at c3
    iterate 2 refine mj_T.pl rfl rfl rfl rfl ?_
    refine mj_T.pl (loc' := [some (.ref 444), some (.ref p), some (.ref q), some (.ref t), some (.ref p), none, none, none, none, none]) rfl rfl rfl rfl ?_
    refine mj_T.pl rfl rfl rfl rfl ?_
    refine mj_T.call rfl rfl (Nat.le_of_ble_eq_true rfl) (Nat.le_of_ble_eq_true rfl) rfl rfl (mj_Ok.up (by omega) (mS_deg (D := 0) m kp sp)) (fun v g7 hq => ?_) (fun i g7 hq => ?_)
    rotate_left
    · cases hq
    cases hq
    refine mj_T.eq (pc2 := 22) (st2 := [.int (jn ((fdg (X p) 13 : Int) - 1))]) ?_ rfl rfl rfl rfl
    refine mj_T.pl rfl rfl rfl rfl ?_
    refine mj_T.call rfl rfl (Nat.le_of_ble_eq_true rfl) (Nat.le_of_ble_eq_true rfl) rfl rfl (mj_Ok.up (by omega) (mS_deg (D := 0) m kq sq)) (fun v g8 hq => ?_) (fun i g8 hq => ?_)
    rotate_left
    · cases hq
    cases hq
    refine mj_T.eq (pc2 := 26) (st2 := [.int (jn ((fdg (X q) 13 : Int) - 1)), .int (jn ((fdg (X p) 13 : Int) - 1))]) ?_ rfl rfl rfl rfl
    refine mj_T.icmp (a := ((fdg (X p) 13 : Int) - 1)) (b := ((fdg (X q) 13 : Int) - 1)) rfl ⟨by omega, by omega⟩ ⟨by omega, by omega⟩ (fun c9 => ?_) (fun c9 => ?_)
    · simp only [jc, Bool.not_eq_true', Bool.not_eq_false', decide_eq_true_eq, decide_eq_false_iff_not] at c9
      refine mj_T.pl rfl rfl rfl rfl ?_
      refine mj_T.pl (loc' := [some (.ref 444), some (.ref p), some (.ref q), some (.ref t), some (.ref p), some (.ref p), none, none, none, none]) rfl rfl rfl rfl ?_
      exfalso
      omega
    · simp only [jc, Bool.not_eq_true', Bool.not_eq_false', decide_eq_true_eq, decide_eq_false_iff_not] at c9
      iterate 2 refine mj_T.pl rfl rfl rfl rfl ?_
      refine mj_T.pl (loc' := [some (.ref 444), some (.ref p), some (.ref q), some (.ref t), some (.ref p), some (.ref q), none, none, none, none]) rfl rfl rfl rfl ?_
      exact mR_share_t m b dg kp kq kt sp sq (by omega)
end MSR
/-! The desk of the class, exactly: divideRows. -/
/-- the quotient on the way, times powers of the leading coefficient -/
def qe (F B : pz_P) (db gap : Nat) : Nat → pz_P
  | 0 => pz_0
  | k + 1 => fun i => B db * qe F B db gap k i + if i = gap - k then er F B db gap k (db + (gap - k)) else 0
theorem qe_low (F B : pz_P) (db gap : Nat) : ∀ k, k ≤ gap + 1 → ∀ i, i + k ≤ gap → qe F B db gap k i = 0
  | 0, _, _, _ => rfl
  | k + 1, hk, i, hi => by
    show B db * qe F B db gap k i + (if i = gap - k then _ else 0) = 0
    rw [qe_low F B db gap k (by omega) i (by omega), if_neg (by omega), Int.mul_zero]
    rfl
theorem qe_hi (F B : pz_P) (db gap : Nat) : ∀ k i, gap < i → qe F B db gap k i = 0
  | 0, _, _ => rfl
  | k + 1, i, hi => by
    show B db * qe F B db gap k i + (if i = gap - k then _ else 0) = 0
    rw [qe_hi F B db gap k i hi, if_neg (by omega), Int.mul_zero]
    rfl
theorem qe_abs {F B : pz_P} {db gap M : Nat} (hF : ∀ e, (F e).natAbs ≤ M) (hB : ∀ e, (B e).natAbs ≤ M) (h1 : 1 ≤ M) : ∀ k e, (qe F B db gap k e).natAbs ≤ M * (2 * M) ^ k
  | 0, e => Nat.zero_le _
  | k + 1, e => by
    show (B db * qe F B db gap k e + (if e = gap - k then er F B db gap k (db + (gap - k)) else 0)).natAbs ≤ _
    have a1 := Nat.mul_le_mul (hB db) (qe_abs (db := db) (gap := gap) hF hB h1 k e)
    rw [← Int.natAbs_mul] at a1
    have a2 : (if e = gap - k then er F B db gap k (db + (gap - k)) else 0).natAbs ≤ M * (2 * M) ^ k := by
      split
      · exact er_abs hF hB h1 k _
      · exact Nat.zero_le _
    have a3 : M * (2 * M) ^ k ≤ M * (M * (2 * M) ^ k) := Nat.le_mul_of_pos_left _ h1
    have a4 : M * (2 * M) ^ (k + 1) = 2 * (M * (M * (2 * M) ^ k)) := by
      rw [Nat.pow_succ]
      ac_rfl
    omega
/-- it is a division -/
theorem qe_rel {F B : pz_P} {db gap : Nat} (hB : ∀ i, db < i → B i = 0) (hF : ∀ i, db + gap < i → F i = 0) : ∀ k, k ≤ gap + 1 → pz_sc ((B db) ^ k) F = pz_add (pz_mul (qe F B db gap k) B) (er F B db gap k)
  | 0, _ => by
    rw [Int.pow_zero, pz_sc_one, show qe F B db gap 0 = pz_0 from rfl, pz_mul_0L]
    funext i
    show F i = 0 + F i
    omega
  | k + 1, hk => by
    have hQ := qe_rel hB hF k (by omega)
    have e := (elw_top (F := er F B db gap k) (db := db) (s := gap - k) hB (fun i hi => er_top hB hF k (by omega) i (by omega))).1
    rw [show qe F B db gap (k + 1) = pz_add (pz_sc (B db) (qe F B db gap k)) (pz_mono (gap - k) (er F B db gap k (db + (gap - k)))) from rfl, Int.pow_succ, Int.mul_comm]
    refine jdv_next (lc := B db) (m := gap - k) (t := er F B db gap k (db + (gap - k))) hQ rfl ?_
    funext i
    show elw (er F B db gap k) B db (gap - k) i = B db * er F B db gap k i + -1 * pz_c i (pz_mono (gap - k) (er F B db gap k (db + (gap - k)))) B
    rw [e i, pz_mono_mul]
    unfold pz_sh
    by_cases c : i < gap - k
    · rw [if_pos c, if_neg (by omega), Int.mul_zero, Int.mul_zero]
      omega
    · rw [if_neg c, if_pos (by omega)]
      omega
def m18 : Nat := 999999999999999999
theorem m18_1 : ∀ k, k < 14 → m18 * (2 * m18) ^ k < jB ^ 29 := by decide +kernel
/-- and two rows -/
def FXu (t u : Nat) (X X1 : Nat → Nat → Int) : Prop := ∀ a, a ≠ t → a ≠ u → cK a ≠ 13 → cK a ≠ 15 → cK a ≠ 16 → (a < 180 ∨ 444 ≤ a) → X1 a = X a
section MDV
variable {g h : mj_H} {n D a c t u : Nat} {V : Nat → Int} {X : Nat → Nat → Int}
theorem mD_dv_end {db : Nat} {l5 l6 : Option Value} {V1 : Nat → Int} {hh1 : mj_H} (ka : cK a = 2) (kc : cK c = 2) (kt : cK t = 2) (ku : cK u = 2) (htu : t ≠ u) (sa : sml (X a)) (sc : sml (X c)) (hc : fdg (X c) 13 = db + 1) (m : jM g n V1 (xup (xup (xup X 80 2 ((fdg (X a) 13 : Int) - 1)) 50 2 (db : Int)) 20 2 (-1)) hh1) (dg1 : DG (xup (xup (xup X 80 2 ((fdg (X a) 13 : Int) - 1)) 50 2 (db : Int)) 20 2 (-1))) (fx1 : FX X (xup (xup (xup X 80 2 ((fdg (X a) 13 : Int) - 1)) 50 2 (db : Int)) 20 2 (-1))) : (∀ e, e < 13 → V1 (80 + 4 + 2 * e) = er (rw13 (X a)) (rw13 (X c)) db ((fdg (X a) 13 - db) - 1) (fdg (X a) 13 - db) e) → (∀ e, e < 13 → V1 (20 + 4 + 2 * e) = qe (rw13 (X a)) (rw13 (X c)) db ((fdg (X a) 13 - db) - 1) (fdg (X a) 13 - db) e) → (∀ e, e < 13 → V1 (50 + 4 + 2 * e) = X c e) → by0 V1 → mj_T (D + 3) mj_m16 159 [some (.ref 19), some (.ref a), some (.ref c), some (.ref t), some (.ref u), l5, l6] [] hh1 (fun z => ∃ (V2 : Nat → Int) (X2 : Nat → Nat → Int) (h2 : mj_H), jM g n V2 X2 h2 ∧ by0 V2 ∧ DG X2 ∧ FXu t u X X2 ∧ ((fit13 (qe (rw13 (X a)) (rw13 (X c)) db ((fdg (X a) 13 - db) - 1) (fdg (X a) 13 - db)) ∧ fit13 (er (rw13 (X a)) (rw13 (X c)) db ((fdg (X a) 13 - db) - 1) (fdg (X a) 13 - db)) ∧ z = (.inl (some (.int (jn 1))), h2) ∧ (∀ i, i < 13 → X2 t i = (qe (rw13 (X a)) (rw13 (X c)) db ((fdg (X a) 13 - db) - 1) (fdg (X a) 13 - db)) i) ∧ ∀ i, i < 13 → X2 u i = (er (rw13 (X a)) (rw13 (X c)) db ((fdg (X a) 13 - db) - 1) (fdg (X a) 13 - db)) i) ∨ (¬ (fit13 (qe (rw13 (X a)) (rw13 (X c)) db ((fdg (X a) 13 - db) - 1) (fdg (X a) 13 - db)) ∧ fit13 (er (rw13 (X a)) (rw13 (X c)) db ((fdg (X a) 13 - db) - 1) (fdg (X a) 13 - db))) ∧ z = (.inl (some (.int (jn 0))), h2)))) := by
  intro e1 e2 e3 b1
  have p20 : cL (20 + 3) = 13 := mK_z.1
  have p50 : cL (50 + 3) = 13 := mK_z.2.1
  have p80 : cL (80 + 3) = 13 := mK_z.2.2.1
  have hfa := fdg_le (X a) 13
  have hfc := fdg_le (X c) 13
  have hFM : ∀ e, (rw13 (X a) e).natAbs ≤ m18 := rw13_abs sa
  have hBM : ∀ e, (rw13 (X c) e).natAbs ≤ m18 := rw13_abs sc
  have hBz : ∀ i, db < i → rw13 (X c) i = 0 := fun i hi => rw13_top i (by omega)
  have hFz : ∀ i, db + (fdg (X a) 13 - db - 1) < i → rw13 (X a) i = 0 := fun i hi => rw13_top i (by omega)
  have hfi := pok_fit (V := V1) (p := 20) (m := 13) p20.symm (by decide) (qe (rw13 (X a)) (rw13 (X c)) db ((fdg (X a) 13 - db) - 1) (fdg (X a) 13 - db)) (fun j hj => e2 j hj) (fun j hj => qe_hi _ _ _ _ _ _ (by omega))
  have hfr := pok_fit (V := V1) (p := 80) (m := 13) p80.symm (by decide) (er (rw13 (X a)) (rw13 (X c)) db ((fdg (X a) 13 - db) - 1) (fdg (X a) 13 - db)) (fun j hj => e1 j hj) (fun j hj => er_top hBz hFz _ (by omega) j (by omega))
  iterate 1 refine mj_T.pl rfl rfl rfl rfl ?_
  refine mT_get m 11 cq_d19 (by decide) rfl rfl ?_
  refine mj_T.pl rfl rfl rfl rfl ?_
  refine mj_T.call rfl rfl (Nat.le_of_ble_eq_true rfl) (Nat.le_of_ble_eq_true rfl) (mV_of m 13 cq_d20 (by decide) rfl (by decide) rfl _) rfl (mj_Ok.up (by omega) (mP_store (D := 0) m cq_d20 (fun e he => by rw [p20] at he; rw [e2 e he]; exact Nat.le_trans (jnl_B (qe_abs hFM hBM (by decide) _ e) (m18_1 _ (by omega))) (by decide)) kt (by omega))) (fun v g1 hq => ?_) (fun i g1 hq => ?_)
  rotate_left
  · rcases hq with ⟨_, _, _, hq⟩ | ⟨_, hq⟩ <;> cases hq
  rcases hq with ⟨ho, _, m8, hq⟩ | ⟨ho, hq⟩
  · cases hq
    refine mj_T.eq (pc2 := 167) (st2 := [.int (jn 1)]) ?_ rfl rfl rfl rfl
    refine mj_T.if0 (a := 1) rfl ⟨by omega, by omega⟩ (fun c131 => ?_) (fun c131 => ?_)
    · exfalso
      simp [jc] at c131
    · simp only [jc, Bool.not_eq_true', Bool.not_eq_false', decide_eq_true_eq, decide_eq_false_iff_not] at c131
      refine mj_T.pl rfl rfl rfl rfl ?_
      refine mT_get m8 11 cq_d19 (by decide) rfl rfl ?_
      refine mj_T.pl rfl rfl rfl rfl ?_
      refine mj_T.call rfl rfl (Nat.le_of_ble_eq_true rfl) (Nat.le_of_ble_eq_true rfl) (mV_of m8 13 cq_d80 (by decide) rfl (by decide) rfl _) rfl (mj_Ok.up (by omega) (mP_store (D := 0) m8 cq_d80 (fun e he => by rw [p80] at he; rw [e1 e he]; exact Nat.le_trans (jnl_B (er_abs hFM hBM (by decide) _ e) (m18_1 _ (by omega))) (by decide)) ku (by omega))) (fun v g1 hq => ?_) (fun i g1 hq => ?_)
      rotate_left
      · rcases hq with ⟨_, _, _, hq⟩ | ⟨_, hq⟩ <;> cases hq
      rcases hq with ⟨ho2, _, m9, hq⟩ | ⟨ho2, hq⟩
      · cases hq
        refine mj_T.eq (pc2 := 179) (st2 := [.int (jn 1)]) ?_ rfl rfl rfl rfl
        refine mj_T.if0 (a := 1) rfl ⟨by omega, by omega⟩ (fun c172 => ?_) (fun c172 => ?_)
        · exfalso
          simp [jc] at c172
        · simp only [jc, Bool.not_eq_true', Bool.not_eq_false', decide_eq_true_eq, decide_eq_false_iff_not] at c172
          iterate 2 refine mj_T.pl rfl rfl rfl rfl ?_
          refine mj_T.ret rfl rfl rfl ⟨V1, _, _, m9, b1, (dg1.row kt).row ku, fun x x1 x2 x3 x4 x5 x6 => ?_, Or.inl ⟨hfi.mp ho, hfr.mp ho2, rfl, fun i hi => ?_, fun i hi => ?_⟩⟩
          · rw [xfl_off _ _ _ x2, xfl_off _ _ _ x1]
            exact fx1 x x3 x4 x5 x6
          · rw [xfl_off _ _ _ htu, xfl_at _ _ _ hi]
            exact e2 i hi
          · rw [xfl_at _ _ _ hi]
            exact e1 i hi
      · cases hq
        refine mj_T.eq (pc2 := 179) (st2 := [.int (jn 0)]) ?_ rfl rfl rfl rfl
        refine mj_T.if0 (a := 0) rfl ⟨by omega, by omega⟩ (fun c171 => ?_) (fun c171 => ?_)
        · simp only [jc, Bool.not_eq_true', Bool.not_eq_false', decide_eq_true_eq, decide_eq_false_iff_not] at c171
          refine mj_T.pl rfl rfl rfl rfl ?_
          refine mj_T.ret rfl rfl rfl ⟨V1, _, _, m8, b1, dg1.row kt, fun x x1 x2 x3 x4 x5 x6 => ?_, Or.inr ⟨fun y => ho2 (hfr.mpr y.2), rfl⟩⟩
          rw [xfl_off _ _ _ x1]
          exact fx1 x x3 x4 x5 x6
        · exfalso
          simp [jc] at c171
  · cases hq
    refine mj_T.eq (pc2 := 167) (st2 := [.int (jn 0)]) ?_ rfl rfl rfl rfl
    refine mj_T.if0 (a := 0) rfl ⟨by omega, by omega⟩ (fun c151 => ?_) (fun c151 => ?_)
    · simp only [jc, Bool.not_eq_true', Bool.not_eq_false', decide_eq_true_eq, decide_eq_false_iff_not] at c151
      refine mj_T.pl rfl rfl rfl rfl ?_
      exact mj_T.ret rfl rfl rfl ⟨V1, _, _, m, b1, dg1, fun x x1 x2 x3 x4 x5 x6 => fx1 x x3 x4 x5 x6, Or.inr ⟨fun y => ho (hfi.mpr y.1), rfl⟩⟩
    · exfalso
      simp [jc] at c151
theorem mD_dv_in {db v M : Nat} {V0 : Nat → Int} {W : pz_P} (kt : cK t = 2) (ku : cK u = 2) (hdb : db < 13) (hW : ∀ e, (W e).natAbs ≤ M) (hBM : ∀ e, (rw13 (X c) e).natAbs ≤ m18) (hfit : m18 * M < jB ^ 29) (hM : M < jB ^ 29) (hv : v < 13) (hV5 : ∀ e, e < 13 → V0 (50 + 4 + 2 * e) = X c e) {Q : mj_R → Prop} (hend : ∀ (V1 : Nat → Int) (h1 : mj_H), jM g n V1 (xup (xup (xup X 80 2 ((fdg (X a) 13 : Int) - 1)) 50 2 (db : Int)) 20 2 (-1)) h1 → (∀ e, e < 13 → V1 (20 + 4 + 2 * e) = if v + 1 ≤ e then (rw13 (X c)) db * W e else W e) → (∀ x, x ≠ 164 → (x < 20 + 4 ∨ 20 + 4 + 2 * 13 ≤ x) → V1 x = V0 x) → mj_T (D + 3) mj_m16 110 [some (.ref 19), some (.ref a), some (.ref c), some (.ref t), some (.ref u), some (.int (jn (v : Int))), some (.int (jn ((13 : Nat) : Int)))] [] h1 Q) : ∀ k i, i + k = 13 → v + 1 ≤ i → ∀ (V1 : Nat → Int) (h1 : mj_H), jM g n V1 (xup (xup (xup X 80 2 ((fdg (X a) 13 : Int) - 1)) 50 2 (db : Int)) 20 2 (-1)) h1 → (∀ e, e < 13 → V1 (20 + 4 + 2 * e) = if v + 1 ≤ e ∧ e < i then (rw13 (X c)) db * W e else W e) → (∀ x, x ≠ 164 → (x < 20 + 4 ∨ 20 + 4 + 2 * 13 ≤ x) → V1 x = V0 x) → mj_T (D + 3) mj_m16 53 [some (.ref 19), some (.ref a), some (.ref c), some (.ref t), some (.ref u), some (.int (jn (v : Int))), some (.int (jn (i : Int)))] [] h1 Q
  | 0, i, hi, hvi, V1, hh1, m, e1, e3 => by
    have p20 : cL (20 + 3) = 13 := mK_z.1
    have p50 : cL (50 + 3) = 13 := mK_z.2.1
    have c1 : cL (164 + 1) = 240 := mK_z.2.2.2.2.2.2.2.1
    iterate 2 refine mj_T.pl rfl rfl rfl rfl ?_
    refine mT_get m 11 cq_d19 (by decide) rfl rfl ?_
    refine mj_T.call rfl rfl (Nat.le_of_ble_eq_true rfl) (Nat.le_of_ble_eq_true rfl) (mV_of m 13 cq_d20 (by decide) rfl (by decide) rfl _) rfl (mj_Ok.up (by omega) (mP_highest (D := 0) m cq_d20)) (fun v g1 hq => ?_) (fun i g1 hq => ?_)
    rotate_left
    · cases hq
    cases hq
    refine mj_T.eq (pc2 := 62) (st2 := [.int (jn ((cL (20 + 3) : Int) - 1)), .int (jn ((i : Nat) : Int))]) ?_ rfl rfl rfl rfl
    refine mj_T.icmp (a := ((i : Nat) : Int)) (b := ((cL (20 + 3) : Int) - 1)) rfl ⟨by omega, by omega⟩ ⟨by omega, by omega⟩ (fun c2 => ?_) (fun c2 => ?_)
    · simp only [jc, Bool.not_eq_true', Bool.not_eq_false', decide_eq_true_eq, decide_eq_false_iff_not] at c2
      have hi2 : i = 13 := by omega
      subst hi2
      refine hend V1 _ m (fun e he => ?_) e3
      rw [e1 e he]
      by_cases y : v + 1 ≤ e
      · rw [if_pos ⟨y, he⟩, if_pos y]
      · rw [if_neg (fun z => y z.1), if_neg y]
    · exfalso
      simp only [jc, Bool.not_eq_true', Bool.not_eq_false', decide_eq_true_eq, decide_eq_false_iff_not] at c2
      omega
  | k + 1, i, hi, hvi, V1, hh1, m, e1, e3 => by
    have p20 : cL (20 + 3) = 13 := mK_z.1
    have p50 : cL (50 + 3) = 13 := mK_z.2.1
    have c1 : cL (164 + 1) = 240 := mK_z.2.2.2.2.2.2.2.1
    have ei : V1 (20 + 4 + 2 * i) = W i := by
      rw [e1 i (by omega), if_neg (fun z => by omega)]
    have ed : V1 (50 + 4 + 2 * db) = rw13 (X c) db := by
      rw [e3 _ (by omega) (by omega), hV5 db (by omega), rw13_in (by omega)]
    have hpr : jnl (W i * rw13 (X c) db).natAbs ≤ 29 := by
      refine jnl_B (al := m18 * M) ?_ hfit
      rw [Int.natAbs_mul, Nat.mul_comm]
      exact Nat.mul_le_mul (hBM db) (hW i)
    iterate 2 refine mj_T.pl rfl rfl rfl rfl ?_
    refine mT_get m 11 cq_d19 (by decide) rfl rfl ?_
    refine mj_T.call rfl rfl (Nat.le_of_ble_eq_true rfl) (Nat.le_of_ble_eq_true rfl) (mV_of m 13 cq_d20 (by decide) rfl (by decide) rfl _) rfl (mj_Ok.up (by omega) (mP_highest (D := 0) m cq_d20)) (fun v g1 hq => ?_) (fun i g1 hq => ?_)
    rotate_left
    · cases hq
    cases hq
    refine mj_T.eq (pc2 := 62) (st2 := [.int (jn ((cL (20 + 3) : Int) - 1)), .int (jn ((i : Nat) : Int))]) ?_ rfl rfl rfl rfl
    refine mj_T.icmp (a := ((i : Nat) : Int)) (b := ((cL (20 + 3) : Int) - 1)) rfl ⟨by omega, by omega⟩ ⟨by omega, by omega⟩ (fun c2 => ?_) (fun c2 => ?_)
    · exfalso
      simp only [jc, Bool.not_eq_true', Bool.not_eq_false', decide_eq_true_eq, decide_eq_false_iff_not] at c2
      omega
    · simp only [jc, Bool.not_eq_true', Bool.not_eq_false', decide_eq_true_eq, decide_eq_false_iff_not] at c2
      refine mj_T.pl rfl rfl rfl rfl ?_
      refine mT_get m 11 cq_d19 (by decide) rfl rfl ?_
      refine mj_T.pl rfl rfl rfl rfl ?_
      refine mT_get m 11 cq_d19 (by decide) rfl rfl ?_
      refine mj_T.pl rfl rfl rfl rfl ?_
      refine mj_T.call rfl rfl (Nat.le_of_ble_eq_true rfl) (Nat.le_of_ble_eq_true rfl) (mV_of m 13 cq_d20 (by decide) rfl (by decide) rfl _) rfl (mj_Ok.up (by omega) (mP_at (D := 0) m cq_d20 (e := i) (by omega))) (fun v g3 hq => ?_) (fun i g3 hq => ?_)
      rotate_left
      · cases hq
      cases hq
      refine mj_T.eq (pc2 := 78) (st2 := [.ref (20 + 4 + 2 * i), .ref 164]) ?_ rfl rfl rfl rfl
      refine mj_T.pl rfl rfl rfl rfl ?_
      refine mT_get m 11 cq_d19 (by decide) rfl rfl ?_
      refine mj_T.call rfl rfl (Nat.le_of_ble_eq_true rfl) (Nat.le_of_ble_eq_true rfl) (mV_of m 13 cq_d50 (by decide) rfl (by decide) rfl _) rfl (mj_Ok.up (by omega) (mP_lead (D := 0) m cq_d50 ((congrFun (xup_oth (by decide)) 2).trans (xup_at _ _ _ _)) (by omega))) (fun v g4 hq => ?_) (fun i g4 hq => ?_)
      rotate_left
      · cases hq
      cases hq
      refine mj_T.eq (pc2 := 85) (st2 := [.ref (50 + 4 + 2 * db), .ref (20 + 4 + 2 * i), .ref 164]) ?_ rfl rfl rfl rfl
      refine mj_T.call rfl rfl (Nat.le_of_ble_eq_true rfl) (Nat.le_of_ble_eq_true rfl) (mV_of m 18 cq_d164 (by decide) rfl (by decide) rfl _) rfl (mj_Ok.up (by omega) (mW_setProduct (D := 0) m cq_d164 ((mK_p cq_d20).2.2.2 _ (by omega)) ((mK_p cq_d50).2.2.2 db (by omega)) (by omega) (by omega) (by omega) (by rw [(rfl : V1 (20 + 4 + 2 * i) = _), (rfl : V1 (50 + 4 + 2 * db) = _)]; exact (by rw [ei, ed]; exact Nat.le_trans hpr (by omega))) (hca := by rw [(rfl : V1 (20 + 4 + 2 * i) = _)]; rw [ei]; exact Nat.le_trans (jnl_B (hW i) hM) (by decide)) (hcb := by rw [(rfl : V1 (50 + 4 + 2 * db) = _)]; rw [ed]; exact Nat.le_trans (jnl_B (hBM db) (Nat.lt_of_le_of_lt (Nat.le_refl _) (show m18 < jB ^ 29 by decide +kernel))) (by decide)))) (fun v g5 hq => ?_) (fun i g5 hq => ?_)
      rotate_left
      · obtain ⟨_, _, hq⟩ := hq; cases hq
      obtain ⟨_, m6, hq⟩ := hq
      cases hq
      have m6 := m6.to (V' := (jvu V1 164 ((V1 (20 + 4 + 2 * i)) * (V1 (50 + 4 + 2 * db))))) (by rw [(rfl : V1 (20 + 4 + 2 * i) = _), (rfl : V1 (50 + 4 + 2 * db) = _)]) rfl
      refine mj_T.eq (pc2 := 88) (st2 := []) ?_ rfl rfl rfl rfl
      refine mj_T.pl rfl rfl rfl rfl ?_
      refine mT_get m6 11 cq_d19 (by decide) rfl rfl ?_
      refine mj_T.pl rfl rfl rfl rfl ?_
      refine mj_T.call rfl rfl (Nat.le_of_ble_eq_true rfl) (Nat.le_of_ble_eq_true rfl) (mV_of m6 13 cq_d20 (by decide) rfl (by decide) rfl _) rfl (mj_Ok.up (by omega) (mP_at (D := 0) m6 cq_d20 (e := i) (by omega))) (fun v g7 hq => ?_) (fun i g7 hq => ?_)
      rotate_left
      · cases hq
      cases hq
      refine mj_T.eq (pc2 := 97) (st2 := [.ref (20 + 4 + 2 * i)]) ?_ rfl rfl rfl rfl
      refine mj_T.pl rfl rfl rfl rfl ?_
      refine mT_get m6 11 cq_d19 (by decide) rfl rfl ?_
      refine mj_T.call rfl rfl (Nat.le_of_ble_eq_true rfl) (Nat.le_of_ble_eq_true rfl) (mV_of m6 18 ((mK_p cq_d20).2.2.2 _ (by omega)) (by decide) rfl (by decide) rfl _) rfl (mj_Ok.up (by omega) (mW_set (D := 0) m6 ((mK_p cq_d20).2.2.2 _ (by omega)) cq_d164 (by omega) (by rw [(jvu_at _ _ _)]; exact (by rw [ei, ed, (mK_z.2.2.2.2.1 i (by omega)).1]; exact Nat.le_trans hpr (by decide))))) (fun v g8 hq => ?_) (fun i g8 hq => ?_)
      rotate_left
      · obtain ⟨_, _, hq⟩ := hq; cases hq
      obtain ⟨_, m9, hq⟩ := hq
      cases hq
      have m9 := m9.to (V' := (jvu (jvu V1 164 ((V1 (20 + 4 + 2 * i)) * (V1 (50 + 4 + 2 * db)))) (20 + 4 + 2 * i) ((V1 (20 + 4 + 2 * i)) * (V1 (50 + 4 + 2 * db))))) (by rw [(jvu_at _ _ _)]) rfl
      refine mj_T.eq (pc2 := 104) (st2 := []) ?_ rfl rfl rfl rfl
      refine mj_T.iinc rfl rfl ?_
      rw [show ((i : Nat) : Int) + 1 = ((i + 1 : Nat) : Int) by omega]
      refine mj_T.eq (loc2 := [some (.ref 19), some (.ref a), some (.ref c), some (.ref t), some (.ref u), some (.int (jn ((v : Nat) : Int))), some (.int (jn (((i + 1) : Nat) : Int)))]) ?_ rfl rfl rfl rfl
      refine mj_T.pl rfl rfl rfl rfl ?_
      refine mD_dv_in kt ku hdb hW hBM hfit hM hv hV5 hend k (i + 1) (by omega) (by omega) _ _ m9 (fun e he => ?_) (fun x x1 x2 => ?_)
      · by_cases q : e = i
        · subst q
          rw [jvu_at, ei, ed, if_pos ⟨by omega, by omega⟩, Int.mul_comm]
        · rw [jvu_ne _ _ _ (by omega), jvu_ne _ _ _ (by omega), e1 e he]
          by_cases y : v + 1 ≤ e ∧ e < i
          · rw [if_pos y, if_pos (by omega)]
          · rw [if_neg y, if_neg (by omega)]
      · rw [jvu_ne _ _ _ (by omega), jvu_ne _ _ _ x1]
        exact e3 x x1 x2
theorem mD_dv_out {db : Nat} (ka : cK a = 2) (kc : cK c = 2) (kt : cK t = 2) (ku : cK u = 2) (htu : t ≠ u) (sa : sml (X a)) (sc : sml (X c)) (hc : fdg (X c) 13 = db + 1) : ∀ v k, k + v = (fdg (X a) 13 - db) → ∀ (V1 : Nat → Int) (hh1 : mj_H) (l6 : Option Value), jM g n V1 (xup (xup (xup X 80 2 ((fdg (X a) 13 : Int) - 1)) 50 2 (db : Int)) 20 2 (-1)) hh1 → DG (xup (xup (xup X 80 2 ((fdg (X a) 13 : Int) - 1)) 50 2 (db : Int)) 20 2 (-1)) → FX X (xup (xup (xup X 80 2 ((fdg (X a) 13 : Int) - 1)) 50 2 (db : Int)) 20 2 (-1)) → (∀ e, e < 13 → V1 (80 + 4 + 2 * e) = er (rw13 (X a)) (rw13 (X c)) db ((fdg (X a) 13 - db) - 1) k e) → (∀ e, e < 13 → V1 (20 + 4 + 2 * e) = qe (rw13 (X a)) (rw13 (X c)) db ((fdg (X a) 13 - db) - 1) k e) → (∀ e, e < 13 → V1 (50 + 4 + 2 * e) = X c e) → by0 V1 → mj_T (D + 4) mj_m16 42 [some (.ref 19), some (.ref a), some (.ref c), some (.ref t), some (.ref u), some (.int (jn ((v : Int) - 1))), l6] [] hh1 (fun z => ∃ (V2 : Nat → Int) (X2 : Nat → Nat → Int) (h2 : mj_H), jM g n V2 X2 h2 ∧ by0 V2 ∧ DG X2 ∧ FXu t u X X2 ∧ ((fit13 (qe (rw13 (X a)) (rw13 (X c)) db ((fdg (X a) 13 - db) - 1) (fdg (X a) 13 - db)) ∧ fit13 (er (rw13 (X a)) (rw13 (X c)) db ((fdg (X a) 13 - db) - 1) (fdg (X a) 13 - db)) ∧ z = (.inl (some (.int (jn 1))), h2) ∧ (∀ i, i < 13 → X2 t i = (qe (rw13 (X a)) (rw13 (X c)) db ((fdg (X a) 13 - db) - 1) (fdg (X a) 13 - db)) i) ∧ ∀ i, i < 13 → X2 u i = (er (rw13 (X a)) (rw13 (X c)) db ((fdg (X a) 13 - db) - 1) (fdg (X a) 13 - db)) i) ∨ (¬ (fit13 (qe (rw13 (X a)) (rw13 (X c)) db ((fdg (X a) 13 - db) - 1) (fdg (X a) 13 - db)) ∧ fit13 (er (rw13 (X a)) (rw13 (X c)) db ((fdg (X a) 13 - db) - 1) (fdg (X a) 13 - db))) ∧ z = (.inl (some (.int (jn 0))), h2))))
  | 0, k, hk, V1, hh1, l6, m, dg1, fx1, e1, e2, e3, b1 => by
    have p20 : cL (20 + 3) = 13 := mK_z.1
    have p50 : cL (50 + 3) = 13 := mK_z.2.1
    have p80 : cL (80 + 3) = 13 := mK_z.2.2.1
    have hfa := fdg_le (X a) 13
    have hfc := fdg_le (X c) 13
    have hFM : ∀ e, (rw13 (X a) e).natAbs ≤ m18 := rw13_abs sa
    have hBM : ∀ e, (rw13 (X c) e).natAbs ≤ m18 := rw13_abs sc
    have hBz : ∀ i, db < i → rw13 (X c) i = 0 := fun i hi => rw13_top i (by omega)
    have hFz : ∀ i, db + (fdg (X a) 13 - db - 1) < i → rw13 (X a) i = 0 := fun i hi => rw13_top i (by omega)
    refine mj_T.pl rfl rfl rfl rfl ?_
    refine mj_T.if0 (a := (((0 : Nat) : Int) - 1)) rfl ⟨by omega, by omega⟩ (fun c1 => ?_) (fun c1 => ?_)
    · simp only [jc, Bool.not_eq_true', Bool.not_eq_false', decide_eq_true_eq, decide_eq_false_iff_not] at c1
      have hk : k = fdg (X a) 13 - db := by omega
      subst hk
      exact mD_dv_end (D := D + 1) ka kc kt ku htu sa sc hc m dg1 fx1 e1 e2 e3 b1
    · exfalso
      simp only [jc, Bool.not_eq_true', Bool.not_eq_false', decide_eq_true_eq, decide_eq_false_iff_not] at c1
      omega
  | v + 1, k, hk, V1, hh1, l6, m, dg1, fx1, e1, e2, e3, b1 => by
    have p20 : cL (20 + 3) = 13 := mK_z.1
    have p50 : cL (50 + 3) = 13 := mK_z.2.1
    have p80 : cL (80 + 3) = 13 := mK_z.2.2.1
    have hfa := fdg_le (X a) 13
    have hfc := fdg_le (X c) 13
    have hFM : ∀ e, (rw13 (X a) e).natAbs ≤ m18 := rw13_abs sa
    have hBM : ∀ e, (rw13 (X c) e).natAbs ≤ m18 := rw13_abs sc
    have hBz : ∀ i, db < i → rw13 (X c) i = 0 := fun i hi => rw13_top i (by omega)
    have hFz : ∀ i, db + (fdg (X a) 13 - db - 1) < i → rw13 (X a) i = 0 := fun i hi => rw13_top i (by omega)
    have hfm : m18 * (m18 * (2 * m18) ^ k) < jB ^ 29 := by
      have h1 : m18 * (m18 * (2 * m18) ^ k) ≤ m18 * (2 * m18) ^ (k + 1) := by
        rw [Nat.pow_succ]
        refine Nat.mul_le_mul_left _ ?_
        rw [Nat.mul_comm]
        exact Nat.mul_le_mul_left _ (by decide)
      exact Nat.lt_of_le_of_lt h1 (m18_1 (k + 1) (by omega))
    have hfe : 2 * (m18 * (2 * m18) ^ k * m18) < jB ^ 236 := by
      have h1 : 2 * (m18 * (2 * m18) ^ k * m18) = m18 * (2 * m18) ^ (k + 1) := by
        rw [Nat.pow_succ]
        ac_rfl
      have h2 := m18_1 (k + 1) (by omega)
      have h3 : jB ^ 29 ≤ jB ^ 236 := Nat.pow_le_pow_right (by decide) (by decide)
      omega
    rw [show ((v + 1 : Nat) : Int) - 1 = (v : Int) by omega]
    refine mj_T.pl rfl rfl rfl rfl ?_
    refine mj_T.if0 (a := ((v : Nat) : Int)) rfl ⟨by omega, by omega⟩ (fun c1 => ?_) (fun c1 => ?_)
    · exfalso
      simp only [jc, Bool.not_eq_true', Bool.not_eq_false', decide_eq_true_eq, decide_eq_false_iff_not] at c1
      omega
    · simp only [jc, Bool.not_eq_true', Bool.not_eq_false', decide_eq_true_eq, decide_eq_false_iff_not] at c1
      iterate 2 refine mj_T.pl rfl rfl rfl rfl ?_
      refine mj_T.iadd (a := ((v : Nat) : Int)) (b := 1) rfl ?_
      refine mj_T.pl (loc' := [some (.ref 19), some (.ref a), some (.ref c), some (.ref t), some (.ref u), some (.int (jn ((v : Nat) : Int))), some (.int (jn (((v : Nat) : Int) + 1)))]) rfl rfl rfl rfl ?_
      rw [show ((v : Nat) : Int) + 1 = ((v + 1 : Nat) : Int) by omega]
      refine mD_dv_in (D := D + 1) (V0 := V1) (W := qe (rw13 (X a)) (rw13 (X c)) db (fdg (X a) 13 - db - 1) k) (M := m18 * (2 * m18) ^ k) kt ku (by omega) (qe_abs hFM hBM (by decide) k) hBM hfm (m18_1 k (by omega)) (by omega) e3 (fun V3 h3 m3 f1 f2 => ?_) (12 - v) (v + 1) (by omega) (Nat.le_refl _) _ _ m (fun e he => ?_) (fun _ _ _ => rfl)
      rotate_left
      · rw [e2 e he, if_neg (fun z => by omega)]
      have et : V3 (80 + 4 + 2 * (db + v)) = er (rw13 (X a)) (rw13 (X c)) db (fdg (X a) 13 - db - 1) k (db + v) := by
        rw [f2 _ (by omega) (by omega)]
        exact e1 _ (by omega)
      refine mj_T.pl rfl rfl rfl rfl ?_
      refine mT_get m3 11 cq_d19 (by decide) rfl rfl ?_
      refine mj_T.pl rfl rfl rfl rfl ?_
      refine mj_T.call rfl rfl (Nat.le_of_ble_eq_true rfl) (Nat.le_of_ble_eq_true rfl) (mV_of m3 13 cq_d20 (by decide) rfl (by decide) rfl _) rfl (mj_Ok.up (by omega) (mP_at (D := 0) m3 cq_d20 (e := v) (by omega))) (fun v g61 hq => ?_) (fun i g61 hq => ?_)
      rotate_left
      · cases hq
      cases hq
      refine mj_T.eq (pc2 := 119) (st2 := [.ref (20 + 4 + 2 * v)]) ?_ rfl rfl rfl rfl
      refine mj_T.pl rfl rfl rfl rfl ?_
      refine mT_get m3 11 cq_d19 (by decide) rfl rfl ?_
      refine mj_T.pl rfl rfl rfl rfl ?_
      refine mT_get m3 11 cq_d19 (by decide) rfl rfl ?_
      refine mT_get (v := .int (jn ((db : Nat) : Int))) m3 13 cq_d50 (by decide) rfl (congrArg (fun z : Int => some (Value.int (jn z))) ((congrFun (xup_oth (by decide)) 2).trans (xup_at _ _ _ _))) ?_
      refine mj_T.pl rfl rfl rfl rfl ?_
      refine mj_T.iadd (a := ((db : Nat) : Int)) (b := ((v : Nat) : Int)) rfl ?_
      rw [show (((db : Nat) : Int) + ((v : Nat) : Int)) = ((db + v : Nat) : Int) by omega]
      refine mj_T.call rfl rfl (Nat.le_of_ble_eq_true rfl) (Nat.le_of_ble_eq_true rfl) (mV_of m3 13 cq_d80 (by decide) rfl (by decide) rfl _) rfl (mj_Ok.up (by omega) (mP_at (D := 0) m3 cq_d80 (e := db + v) (by omega))) (fun v g62 hq => ?_) (fun i g62 hq => ?_)
      rotate_left
      · cases hq
      cases hq
      refine mj_T.eq (pc2 := 136) (st2 := [.ref (80 + 4 + 2 * (db + v)), .ref (20 + 4 + 2 * v)]) ?_ rfl rfl rfl rfl
      refine mj_T.call rfl rfl (Nat.le_of_ble_eq_true rfl) (Nat.le_of_ble_eq_true rfl) (mV_of m3 18 ((mK_p cq_d20).2.2.2 _ (by omega)) (by decide) rfl (by decide) rfl _) rfl (mj_Ok.up (by omega) (mW_set (D := 0) m3 ((mK_p cq_d20).2.2.2 _ (by omega)) ((mK_p cq_d80).2.2.2 _ (by omega)) (by omega) (by rw [(rfl : V3 (80 + 4 + 2 * (db + v)) = _)]; exact (by rw [et, (mK_z.2.2.2.2.1 v (by omega)).1]; exact Nat.le_trans (jnl_B (er_abs hFM hBM (by decide) k _) (m18_1 k (by omega))) (by decide))))) (fun v g63 hq => ?_) (fun i g63 hq => ?_)
      rotate_left
      · obtain ⟨_, _, hq⟩ := hq; cases hq
      obtain ⟨_, m64, hq⟩ := hq
      cases hq
      have m64 := m64.to (V' := (jvu V3 (20 + 4 + 2 * v) (V3 (80 + 4 + 2 * (db + v))))) (by rw [(rfl : V3 (80 + 4 + 2 * (db + v)) = _)]) rfl
      refine mj_T.eq (pc2 := 139) (st2 := []) ?_ rfl rfl rfl rfl
      iterate 2 refine mj_T.pl rfl rfl rfl rfl ?_
      refine mT_get m64 11 cq_d19 (by decide) rfl rfl ?_
      refine mj_T.pl rfl rfl rfl rfl ?_
      refine mT_get m64 11 cq_d19 (by decide) rfl rfl ?_
      refine mj_T.pl rfl rfl rfl rfl ?_
      have hVV : ∀ e, e < 13 → ((jvu V3 (20 + 4 + 2 * v) (V3 (80 + 4 + 2 * (db + v))))) (80 + 4 + 2 * e) = er (rw13 (X a)) (rw13 (X c)) db (fdg (X a) 13 - db - 1) k e := fun e he => by
        rw [jvu_ne _ _ _ (by omega), f2 _ (by omega) (by omega)]
        exact e1 e he
      have hVB : ∀ e, e < 13 → ((jvu V3 (20 + 4 + 2 * v) (V3 (80 + 4 + 2 * (db + v))))) (50 + 4 + 2 * e) = X c e := fun e he => by
        rw [jvu_ne _ _ _ (by omega), f2 _ (by omega) (by omega)]
        exact e3 e he
      refine mj_T.call rfl rfl (Nat.le_of_ble_eq_true rfl) (Nat.le_of_ble_eq_true rfl) (mV_of m64 11 cq_d19 (by decide) rfl (by decide) rfl _) rfl (mj_Ok.up (by omega) (mD_elim (D := 0) (db := db) (s := v) (al := m18 * (2 * m18) ^ k) (be := m18) m64 cq_d50 (by decide) ((congrFun (xup_oth (by decide)) 2).trans (xup_at _ _ _ _)) (by omega) (by omega) (fun e he => by rw [hVV e he]; exact er_abs hFM hBM (by decide) k e) (fun e he => by rw [hVB e (by omega), ← rw13_in (A := X c) (show e < 13 by omega)]; exact hBM e) hfe (jB_15 (m := 29) (m18_1 k (by omega)) (by decide)) (jB_15 (m := 3) (by decide +kernel) (by decide)))) (fun v g65 hq => ?_) (fun i g65 hq => ?_)
      rotate_left
      · obtain ⟨_, _, _, _, hq⟩ := hq; cases hq
      obtain ⟨z1, z2, _, m7, hq⟩ := hq
      cases hq
      refine mj_T.eq (pc2 := 153) (st2 := []) ?_ rfl rfl rfl rfl
      refine mj_T.iinc rfl rfl ?_
      refine mj_T.eq (loc2 := [some (.ref 19), some (.ref a), some (.ref c), some (.ref t), some (.ref u), some (.int (jn (((v : Nat) : Int) + (-1)))), some (.int (jn ((13 : Nat) : Int)))]) ?_ rfl rfl rfl rfl
      refine mj_T.pl rfl rfl rfl rfl ?_
      rw [show (((v : Nat) : Int) + (-1)) = (v : Int) - 1 by omega]
      have b3 : by0 (pfl (scr (jvu V3 (20 + 4 + 2 * v) (V3 (80 + 4 + 2 * (db + v)))) z1 z2) 80 (elw (pco (jvu V3 (20 + 4 + 2 * v) (V3 (80 + 4 + 2 * (db + v)))) 80) (pco (jvu V3 (20 + 4 + 2 * v) (V3 (80 + 4 + 2 * (db + v)))) 50) db v) 13) := by
        refine by0.wr (fun x hx => ?_) cq_d80 (by omega)
        have y := bydl_f hx
        rw [scr_off _ _ _ y.2.2.2.2.2.1 y.2.2.2.2.2.2.1, jvu_ne _ _ _ (by omega), f2 x y.2.2.2.2.2.1 (by omega)]
        exact b1 x hx
      refine mD_dv_out ka kc kt ku htu sa sc hc v (k + 1) (by omega) _ _ _ m7 dg1 fx1 (fun e he => ?_) (fun e he => ?_) (fun e he => ?_) b3
      · rw [pfl_at _ _ _ he]
        show _ = elw (er (rw13 (X a)) (rw13 (X c)) db (fdg (X a) 13 - db - 1) k) (rw13 (X c)) db (fdg (X a) 13 - db - 1 - k) e
        rw [show fdg (X a) 13 - db - 1 - k = v by omega]
        refine elw_ext (by omega) hVV (fun i hi => ?_) e he
        show _ = rw13 (X c) i
        rw [rw13_in (by omega)]
        exact hVB i (by omega)
      · rw [lk_off (by omega) (by omega) (by omega)]
        show _ = (rw13 (X c)) db * qe (rw13 (X a)) (rw13 (X c)) db (fdg (X a) 13 - db - 1) k e + if e = fdg (X a) 13 - db - 1 - k then er (rw13 (X a)) (rw13 (X c)) db (fdg (X a) 13 - db - 1) k (db + (fdg (X a) 13 - db - 1 - k)) else 0
        rw [show fdg (X a) 13 - db - 1 - k = v by omega]
        by_cases q : e = v
        · subst q
          rw [jvu_at, et, if_pos rfl, qe_low _ _ _ _ k (by omega) e (by omega), Int.mul_zero, Int.zero_add]
        · rw [jvu_ne _ _ _ (by omega), f1 e he, if_neg q, Int.add_zero]
          by_cases y : v + 1 ≤ e
          · rw [if_pos y]
          · rw [if_neg y, qe_low _ _ _ _ k (by omega) e (by omega), Int.mul_zero]
      · rw [lk_off (by omega) (by omega) (by omega)]
        exact hVB e he
theorem mD_divRows (m : jM g n V X h) (b : by0 V) {db : Nat} (ka : cK a = 2) (kc : cK c = 2) (kt : cK t = 2) (ku : cK u = 2) (htu : t ≠ u) (sa : sml (X a)) (sc : sml (X c)) (hc : fdg (X c) 13 = db + 1) (dg : DG X) : mj_Ok (D + 5) 16 [.ref 19, .ref a, .ref c, .ref t, .ref u] h (fun z => ∃ (V2 : Nat → Int) (X2 : Nat → Nat → Int) (h2 : mj_H), jM g n V2 X2 h2 ∧ by0 V2 ∧ DG X2 ∧ FXu t u X X2 ∧ ((fit13 (qe (rw13 (X a)) (rw13 (X c)) db ((fdg (X a) 13 - db) - 1) (fdg (X a) 13 - db)) ∧ fit13 (er (rw13 (X a)) (rw13 (X c)) db ((fdg (X a) 13 - db) - 1) (fdg (X a) 13 - db)) ∧ z = (.inl (some (.int (jn 1))), h2) ∧ (∀ i, i < 13 → X2 t i = (qe (rw13 (X a)) (rw13 (X c)) db ((fdg (X a) 13 - db) - 1) (fdg (X a) 13 - db)) i) ∧ ∀ i, i < 13 → X2 u i = (er (rw13 (X a)) (rw13 (X c)) db ((fdg (X a) 13 - db) - 1) (fdg (X a) 13 - db)) i) ∨ (¬ (fit13 (qe (rw13 (X a)) (rw13 (X c)) db ((fdg (X a) 13 - db) - 1) (fdg (X a) 13 - db)) ∧ fit13 (er (rw13 (X a)) (rw13 (X c)) db ((fdg (X a) 13 - db) - 1) (fdg (X a) 13 - db))) ∧ z = (.inl (some (.int (jn 0))), h2)))) := by
  have p20 : cL (20 + 3) = 13 := mK_z.1
  have p50 : cL (50 + 3) = 13 := mK_z.2.1
  have p80 : cL (80 + 3) = 13 := mK_z.2.2.1
  have hfa := fdg_le (X a) 13
  have hfc := fdg_le (X c) 13
  have hFM : ∀ e, (rw13 (X a) e).natAbs ≤ m18 := rw13_abs sa
  have hBM : ∀ e, (rw13 (X c) e).natAbs ≤ m18 := rw13_abs sc
  have hBz : ∀ i, db < i → rw13 (X c) i = 0 := fun i hi => rw13_top i (by omega)
  have hFz : ∀ i, db + (fdg (X a) 13 - db - 1) < i → rw13 (X a) i = 0 := fun i hi => rw13_top i (by omega)
  refine mj_Ok.of (M := mj_m16) rfl rfl rfl ?_
  refine mj_T.pl rfl rfl rfl rfl ?_
  refine mT_get m 11 cq_d19 (by decide) rfl rfl ?_
  refine mj_T.pl rfl rfl rfl rfl ?_
  refine jT.lc 1 rfl rfl ?_
  refine mj_T.call rfl rfl (Nat.le_of_ble_eq_true rfl) (Nat.le_of_ble_eq_true rfl) (mV_of m 13 cq_d80 (by decide) rfl (by decide) rfl _) rfl (mj_Ok.up (by omega) (mP_load1 (D := 0) m cq_d80 ka p80 sa (fun i hi => by rw [(mK_z.2.2.2.2.1 i hi).2.2]; decide))) (fun v g1 hq => ?_) (fun i g1 hq => ?_)
  rotate_left
  · obtain ⟨_, _, hq⟩ := hq; cases hq
  obtain ⟨_, m1, hq⟩ := hq
  cases hq
  refine mj_T.eq (pc2 := 9) (st2 := []) ?_ rfl rfl rfl rfl
  refine mj_T.pl rfl rfl rfl rfl ?_
  refine mT_get m1 11 cq_d19 (by decide) rfl rfl ?_
  refine mj_T.pl rfl rfl rfl rfl ?_
  refine jT.lc 1 rfl rfl ?_
  have hxc : (xup X 80 2 ((fdg (X a) 13 : Int) - 1)) c = X c := xup_oth (kR_ne kc).2.2.1
  refine mj_T.call rfl rfl (Nat.le_of_ble_eq_true rfl) (Nat.le_of_ble_eq_true rfl) (mV_of m1 13 cq_d50 (by decide) rfl (by decide) rfl _) rfl (mj_Ok.up (by omega) (mP_load1 (D := 0) m1 cq_d50 kc p50 (by rw [hxc]; exact sc) (fun i hi => by rw [(mK_z.2.2.2.2.1 i hi).2.1]; decide))) (fun v g2 hq => ?_) (fun i g2 hq => ?_)
  rotate_left
  · obtain ⟨_, _, hq⟩ := hq; cases hq
  obtain ⟨_, m2, hq⟩ := hq
  cases hq
  rw [hxc, hc, show ((db + 1 : Nat) : Int) - 1 = (db : Int) by omega] at m2
  refine mj_T.eq (pc2 := 18) (st2 := []) ?_ rfl rfl rfl rfl
  refine mj_T.pl rfl rfl rfl rfl ?_
  refine mT_get m2 11 cq_d19 (by decide) rfl rfl ?_
  refine mj_T.call rfl rfl (Nat.le_of_ble_eq_true rfl) (Nat.le_of_ble_eq_true rfl) (mV_of m2 13 cq_d20 (by decide) rfl (by decide) rfl _) rfl (mj_Ok.up (by omega) (mP_clear (D := 0) m2 cq_d20)) (fun v g3 hq => ?_) (fun i g3 hq => ?_)
  rotate_left
  · obtain ⟨_, _, hq⟩ := hq; cases hq
  obtain ⟨_, m3, hq⟩ := hq
  cases hq
  rw [p20] at m3
  refine mj_T.eq (pc2 := 25) (st2 := []) ?_ rfl rfl rfl rfl
  refine mj_T.pl rfl rfl rfl rfl ?_
  refine mT_get m3 11 cq_d19 (by decide) rfl rfl ?_
  refine mT_get (v := .int (jn ((fdg (X a) 13 : Int) - 1))) m3 13 cq_d80 (by decide) rfl (congrArg (fun z : Int => some (Value.int (jn z))) ((congrFun (xup_oth (by decide)) 2).trans ((congrFun (xup_oth (by decide)) 2).trans (xup_at _ _ _ _)))) ?_
  refine mj_T.pl rfl rfl rfl rfl ?_
  refine mT_get m3 11 cq_d19 (by decide) rfl rfl ?_
  refine mT_get (v := .int (jn ((db : Nat) : Int))) m3 13 cq_d50 (by decide) rfl (congrArg (fun z : Int => some (Value.int (jn z))) ((congrFun (xup_oth (by decide)) 2).trans (xup_at _ _ _ _))) ?_
  refine mj_T.isub (a := ((fdg (X a) 13 : Int) - 1)) (b := ((db : Nat) : Int)) rfl ?_
  refine mj_T.pl (loc' := [some (.ref 19), some (.ref a), some (.ref c), some (.ref t), some (.ref u), some (.int (jn (((fdg (X a) 13 : Int) - 1) - ((db : Nat) : Int)))), none]) rfl rfl rfl rfl ?_
  have dgx : DG (xup (xup (xup X 80 2 ((fdg (X a) 13 : Int) - 1)) 50 2 (db : Int)) 20 2 (-1)) := ((dg.deg (by omega)).deg (by omega)).deg (by omega)
  have fxx : FX X (xup (xup (xup X 80 2 ((fdg (X a) 13 : Int) - 1)) 50 2 (db : Int)) 20 2 (-1)) := (FX.up (Or.inl cq_d80)).tr ((FX.up (Or.inl cq_d50)).tr (FX.up (Or.inl cq_d20)))
  have b1 : by0 (pfl (pfl (pfl V 80 (X a) 13) 50 (X c) 13) 20 (fun _ => 0) 13) := ((b.wr cq_d80 (by omega)).wr cq_d50 (by omega)).wr cq_d20 (by omega)
  have e1 : ∀ e, e < 13 → (pfl (pfl (pfl V 80 (X a) 13) 50 (X c) 13) 20 (fun _ => 0) 13) (80 + 4 + 2 * e) = er (rw13 (X a)) (rw13 (X c)) db (fdg (X a) 13 - db - 1) 0 e := fun e he => by
    rw [pfl_off _ _ _ (by omega), pfl_off _ _ _ (by omega), pfl_at _ _ _ he]
    exact (rw13_in he).symm
  have e2 : ∀ e, e < 13 → (pfl (pfl (pfl V 80 (X a) 13) 50 (X c) 13) 20 (fun _ => 0) 13) (20 + 4 + 2 * e) = qe (rw13 (X a)) (rw13 (X c)) db (fdg (X a) 13 - db - 1) 0 e := fun e he => pfl_at _ _ _ he
  have e3 : ∀ e, e < 13 → (pfl (pfl (pfl V 80 (X a) 13) 50 (X c) 13) 20 (fun _ => 0) 13) (50 + 4 + 2 * e) = X c e := fun e he => by
    rw [pfl_off _ _ _ (by omega), pfl_at _ _ _ he]
  by_cases hlt : db < fdg (X a) 13
  · rw [show (((fdg (X a) 13 : Int) - 1) - ((db : Nat) : Int)) = ((fdg (X a) 13 - db : Nat) : Int) - 1 by omega]
    exact mD_dv_out ka kc kt ku htu sa sc hc (fdg (X a) 13 - db) 0 (by omega) _ _ _ m3 dgx fxx e1 e2 e3 b1
  · have hn : fdg (X a) 13 - db = 0 := by omega
    refine mj_T.pl rfl rfl rfl rfl ?_
    refine mj_T.if0 (a := (((fdg (X a) 13 : Int) - 1) - ((db : Nat) : Int))) rfl ⟨by omega, by omega⟩ (fun c91 => ?_) (fun c91 => ?_)
    · simp only [jc, Bool.not_eq_true', Bool.not_eq_false', decide_eq_true_eq, decide_eq_false_iff_not] at c91
      exact mD_dv_end (D := D + 1) ka kc kt ku htu sa sc hc m3 dgx fxx (by rw [hn]; rw [hn] at e1; exact e1) (by rw [hn]; rw [hn] at e2; exact e2) e3 b1
    · exfalso
      simp only [jc, Bool.not_eq_true', Bool.not_eq_false', decide_eq_true_eq, decide_eq_false_iff_not] at c91
      omega
end MDV
/-! The class exactly: gather, deriveRow, residueOf. -/
section MGA
variable {g h : mj_H} {n D r : Nat} {V : Nat → Int} {X : Nat → Nat → Int}
theorem mD_ga_loop {f : Int} {W : pz_P} {M : Nat} (kr : cK r = 2) (hf : f.natAbs ≤ 9223372036854775807) (sr : sml (X r)) (hM : ∀ e, (W e).natAbs ≤ M) (hfit : M + 9223372036854775807 * 999999999999999999 < jB ^ 29) : ∀ k i, i + k = 13 → ∀ (V1 : Nat → Int) (h1 : mj_H), jM g n V1 X h1 → (∀ e, e < 13 → V1 (20 + 4 + 2 * e) = if e < i then W e + 1 * (f * X r e) else W e) → V1 168 = f → (∀ x, x ≠ 164 → x ≠ 166 → x ≠ 168 → (x < 20 + 4 ∨ 20 + 4 + 2 * 13 ≤ x) → V1 x = V x) → mj_T (D + 3) mj_m21 11 [some (.ref 19), some (.long (jl f)), none, some (.ref r), some (.int (jn (i : Int)))] [] h1 (fun z => ∃ (V2 : Nat → Int) (h2 : mj_H), jM g n V2 (xup X 20 2 ((fdg (fun e => W e + f * X r e) 13 : Int) - 1)) h2 ∧ (∀ e, e < 13 → V2 (20 + 4 + 2 * e) = W e + f * X r e) ∧ (∀ x, x ≠ 164 → x ≠ 166 → x ≠ 168 → (x < 20 + 4 ∨ 20 + 4 + 2 * 13 ≤ x) → V2 x = V x) ∧ z = (.inl none, h2))
  | 0, i, hi, V1, h1, m, e1, e2, e3 => by
    have p20 : cL (20 + 3) = 13 := mK_z.1
    have c1 : cL (164 + 1) = 240 := mK_z.2.2.2.2.2.2.2.1
    have c2 : cL (166 + 1) = 240 := mK_z.2.2.2.2.2.2.2.2.1
    have hsz : ∀ e, e < 13 → jnl (W e + f * X r e).natAbs ≤ 29 := fun e he => by
      refine jnl_B (al := M + 9223372036854775807 * 999999999999999999) ?_ hfit
      have a1 := Nat.mul_le_mul hf (sr e he)
      rw [← Int.natAbs_mul] at a1
      have a2 := hM e
      omega
    iterate 2 refine mj_T.pl rfl rfl rfl rfl ?_
    refine mT_llen m kr rfl ?_
    refine mj_T.icmp (a := ((i : Nat) : Int)) (b := ((13 : Nat) : Int)) rfl ⟨by omega, by omega⟩ ⟨by omega, by omega⟩ (fun c1 => ?_) (fun c1 => ?_)
    · simp only [jc, Bool.not_eq_true', Bool.not_eq_false', decide_eq_true_eq, decide_eq_false_iff_not] at c1
      refine mj_T.pl rfl rfl rfl rfl ?_
      refine mT_get m 11 cq_d19 (by decide) rfl rfl ?_
      have hi2 : i = 13 := by omega
      subst hi2
      have eV : ∀ e, e < 13 → pco V1 20 e = (fun e => W e + f * X r e) e := fun e he => by
        show V1 (20 + 4 + 2 * e) = W e + f * X r e
        rw [e1 e he, if_pos he, Int.one_mul]
      refine mj_T.call rfl rfl (Nat.le_of_ble_eq_true rfl) (Nat.le_of_ble_eq_true rfl) (mV_of m 13 cq_d20 (by decide) rfl (by decide) rfl _) rfl (mj_Ok.up (by omega) (mP_settle (D := 0) m cq_d20 (fun e he => by rw [p20] at he; have q := eV e he; unfold pco at q; rw [q]; exact Nat.le_trans (hsz e he) (by decide)))) (fun v g2 hq => ?_) (fun i g2 hq => ?_)
      rotate_left
      · obtain ⟨_, _, hq⟩ := hq; cases hq
      obtain ⟨_, m3, hq⟩ := hq
      cases hq
      rw [p20, fdg_congr 13 eV] at m3
      refine mj_T.eq (pc2 := 74) (st2 := []) ?_ rfl rfl rfl rfl
      exact mj_T.ret rfl rfl rfl ⟨V1, _, m3, fun e he => eV e he, e3, rfl⟩
    · exfalso
      simp only [jc, Bool.not_eq_true', Bool.not_eq_false', decide_eq_true_eq, decide_eq_false_iff_not] at c1
      omega
  | k + 1, i, hi, V1, h1, m, e1, e2, e3 => by
    have p20 : cL (20 + 3) = 13 := mK_z.1
    have c1 : cL (164 + 1) = 240 := mK_z.2.2.2.2.2.2.2.1
    have c2 : cL (166 + 1) = 240 := mK_z.2.2.2.2.2.2.2.2.1
    have hsz : ∀ e, e < 13 → jnl (W e + f * X r e).natAbs ≤ 29 := fun e he => by
      refine jnl_B (al := M + 9223372036854775807 * 999999999999999999) ?_ hfit
      have a1 := Nat.mul_le_mul hf (sr e he)
      rw [← Int.natAbs_mul] at a1
      have a2 := hM e
      omega
    have hri := sr i (by omega)
    have hjr : jR (X r i) := ⟨by omega, by omega⟩
    have hj3 := jnl_R (v := X r i) (by omega)
    have ei : V1 (20 + 4 + 2 * i) = W i := by
      rw [e1 i (by omega), if_neg (Nat.lt_irrefl i)]
    have c20 : cL (20 + 4 + 2 * i + 1) = 30 := (mK_z.2.2.2.2.1 i (by omega)).1
    have hpr : jnl (f * X r i).natAbs ≤ 29 := by
      refine jnl_B (al := M + 9223372036854775807 * 999999999999999999) ?_ hfit
      have a1 := Nat.mul_le_mul hf hri
      rw [← Int.natAbs_mul] at a1
      omega
    have hsi := hsz i (by omega)
    rw [show f * X r i = 1 * (f * X r i) by omega] at hsi
    iterate 2 refine mj_T.pl rfl rfl rfl rfl ?_
    refine mT_llen m kr rfl ?_
    refine mj_T.icmp (a := ((i : Nat) : Int)) (b := ((13 : Nat) : Int)) rfl ⟨by omega, by omega⟩ ⟨by omega, by omega⟩ (fun c1 => ?_) (fun c1 => ?_)
    · exfalso
      simp only [jc, Bool.not_eq_true', Bool.not_eq_false', decide_eq_true_eq, decide_eq_false_iff_not] at c1
      omega
    · simp only [jc, Bool.not_eq_true', Bool.not_eq_false', decide_eq_true_eq, decide_eq_false_iff_not] at c1
      refine mj_T.pl rfl rfl rfl rfl ?_
      refine mT_get m 11 cq_d19 (by decide) rfl rfl ?_
      iterate 2 refine mj_T.pl rfl rfl rfl rfl ?_
      refine mT_lald m kr rfl ⟨by omega, by omega⟩ ?_
      refine mj_T.eq (st2 := [.long (jl (X r i)), .ref 166]) ?_ rfl rfl rfl rfl
      refine mj_T.call rfl rfl (Nat.le_of_ble_eq_true rfl) (Nat.le_of_ble_eq_true rfl) (mV_of m 18 cq_d166 (by decide) rfl (by decide) rfl _) rfl (mj_Ok.up (by omega) (mW_setLong (D := 0) (v := (X r i)) m cq_d166 hjr (by omega))) (fun v g2 hq => ?_) (fun i g2 hq => ?_)
      rotate_left
      · obtain ⟨_, _, hq⟩ := hq; cases hq
      obtain ⟨_, m3, hq⟩ := hq
      cases hq
      have m3 := m3.to (V' := (jvu V1 166 (X r i))) (by rfl) rfl
      refine mj_T.eq (pc2 := 29) (st2 := []) ?_ rfl rfl rfl rfl
      refine mj_T.pl rfl rfl rfl rfl ?_
      refine mT_get m3 11 cq_d19 (by decide) rfl rfl ?_
      refine mj_T.pl rfl rfl rfl rfl ?_
      refine mT_get m3 11 cq_d19 (by decide) rfl rfl ?_
      refine mj_T.pl rfl rfl rfl rfl ?_
      refine mT_get m3 11 cq_d19 (by decide) rfl rfl ?_
      refine mj_T.call rfl rfl (Nat.le_of_ble_eq_true rfl) (Nat.le_of_ble_eq_true rfl) (mV_of m3 18 cq_d164 (by decide) rfl (by decide) rfl _) rfl (mj_Ok.up (by omega) (mW_setProduct (D := 0) m3 cq_d164 cq_d168 cq_d166 (by omega) (by omega) (by omega) (by rw [((jvu_ne _ _ _ (by omega)).trans (rfl : V1 168 = _)), (jvu_at _ _ _)]; exact (by rw [e2]; exact Nat.le_trans hpr (by omega))) (hca := by rw [((jvu_ne _ _ _ (by omega)).trans (rfl : V1 168 = _))]; rw [e2]; exact Nat.le_trans (jnl_R hf) (by decide)) (hcb := by rw [(jvu_at _ _ _)]; omega))) (fun v g4 hq => ?_) (fun i g4 hq => ?_)
      rotate_left
      · obtain ⟨_, _, hq⟩ := hq; cases hq
      obtain ⟨_, m5, hq⟩ := hq
      cases hq
      have m5 := m5.to (V' := (jvu (jvu V1 166 (X r i)) 164 ((V1 168) * (X r i)))) (by rw [((jvu_ne _ _ _ (by omega)).trans (rfl : V1 168 = _)), (jvu_at _ _ _)]) rfl
      refine mj_T.eq (pc2 := 44) (st2 := []) ?_ rfl rfl rfl rfl
      refine mj_T.pl rfl rfl rfl rfl ?_
      refine mT_get m5 11 cq_d19 (by decide) rfl rfl ?_
      refine mj_T.pl rfl rfl rfl rfl ?_
      refine mj_T.call rfl rfl (Nat.le_of_ble_eq_true rfl) (Nat.le_of_ble_eq_true rfl) (mV_of m5 13 cq_d20 (by decide) rfl (by decide) rfl _) rfl (mj_Ok.up (by omega) (mP_at (D := 0) m5 cq_d20 (e := i) (by omega))) (fun v g6 hq => ?_) (fun i g6 hq => ?_)
      rotate_left
      · cases hq
      cases hq
      refine mj_T.eq (pc2 := 53) (st2 := [.ref (20 + 4 + 2 * i)]) ?_ rfl rfl rfl rfl
      refine mj_T.pl rfl rfl rfl rfl ?_
      refine mT_get m5 11 cq_d19 (by decide) rfl rfl ?_
      refine mj_T.pl rfl rfl rfl rfl ?_
      refine mj_T.call rfl rfl (Nat.le_of_ble_eq_true rfl) (Nat.le_of_ble_eq_true rfl) (mV_of m5 18 ((mK_p cq_d20).2.2.2 _ (by omega)) (by decide) rfl (by decide) rfl _) rfl (mj_Ok.up (by omega) (mW_plus (D := 0) (f := 1) m5 ((mK_p cq_d20).2.2.2 _ (by omega)) cq_d164 (by omega) (Or.inl rfl) (by rw [(jvu_at _ _ _)]; exact (by rw [e2, c20]; exact Nat.le_trans hpr (by decide))) (by rw [((jvu_ne _ _ _ (by omega)).trans ((jvu_ne _ _ _ (by omega)).trans (rfl : V1 (20 + 4 + 2 * i) = _))), (jvu_at _ _ _)]; exact (by rw [ei, e2, c20]; exact Nat.le_trans hsi (by decide))))) (fun v g7 hq => ?_) (fun i g7 hq => ?_)
      rotate_left
      · obtain ⟨_, _, hq⟩ := hq; cases hq
      obtain ⟨_, m8, hq⟩ := hq
      cases hq
      have m8 := m8.to (V' := (jvu (jvu (jvu V1 166 (X r i)) 164 ((V1 168) * (X r i))) (20 + 4 + 2 * i) ((V1 (20 + 4 + 2 * i)) + 1 * ((V1 168) * (X r i))))) (by rw [((jvu_ne _ _ _ (by omega)).trans ((jvu_ne _ _ _ (by omega)).trans (rfl : V1 (20 + 4 + 2 * i) = _))), (jvu_at _ _ _)]) rfl
      refine mj_T.eq (pc2 := 61) (st2 := []) ?_ rfl rfl rfl rfl
      refine mj_T.iinc rfl rfl ?_
      rw [show ((i : Nat) : Int) + 1 = ((i + 1 : Nat) : Int) by omega]
      refine mj_T.eq (loc2 := [some (.ref 19), some (.long (jl f)), none, some (.ref r), some (.int (jn (((i + 1) : Nat) : Int)))]) ?_ rfl rfl rfl rfl
      refine mj_T.pl rfl rfl rfl rfl ?_
      refine mD_ga_loop kr hf sr hM hfit k (i + 1) (by omega) _ _ m8 (fun e he => ?_) ?_ (fun x x1 x2 x3 x4 => ?_)
      · by_cases q : e = i
        · subst q
          rw [jvu_at, ei, e2, if_pos (Nat.lt_succ_self _)]
        · rw [jvu_ne _ _ _ (by omega), jvu_ne _ _ _ (by omega), jvu_ne _ _ _ (by omega), e1 e he]
          by_cases y : e < i
          · rw [if_pos y, if_pos (by omega)]
          · rw [if_neg y, if_neg (by omega)]
      · rw [((jvu_ne _ _ _ (by omega)).trans ((jvu_ne _ _ _ (by omega)).trans ((jvu_ne _ _ _ (by omega)).trans (rfl : V1 168 = _))))]
        exact e2
      · rw [((jvu_ne _ _ _ (by omega)).trans ((jvu_ne _ _ _ (by omega)).trans ((jvu_ne _ _ _ (by omega)).trans (rfl : V1 x = _))))]
        exact e3 x x1 x2 x3 x4
theorem mD_gather (m : jM g n V X h) {f : Int} {W : pz_P} {M : Nat} (kr : cK r = 2) (hf : f.natAbs ≤ 9223372036854775807) (sr : sml (X r)) (hM : ∀ e, (W e).natAbs ≤ M) (hfit : M + 9223372036854775807 * 999999999999999999 < jB ^ 29) (hW : ∀ e, e < 13 → V (20 + 4 + 2 * e) = W e) : mj_Ok (D + 4) 21 [.ref 19, .long (jl f), .ref r] h (fun z => ∃ (V2 : Nat → Int) (h2 : mj_H), jM g n V2 (xup X 20 2 ((fdg (fun e => W e + f * X r e) 13 : Int) - 1)) h2 ∧ (∀ e, e < 13 → V2 (20 + 4 + 2 * e) = W e + f * X r e) ∧ (∀ x, x ≠ 164 → x ≠ 166 → x ≠ 168 → (x < 20 + 4 ∨ 20 + 4 + 2 * 13 ≤ x) → V2 x = V x) ∧ z = (.inl none, h2)) := by
  have c3 : cL (168 + 1) = 40 := mK_z.2.2.2.2.2.2.2.2.2.1
  refine mj_Ok.of (M := mj_m21) rfl rfl rfl ?_
  refine mj_T.pl rfl rfl rfl rfl ?_
  refine mT_get m 11 cq_d19 (by decide) rfl rfl ?_
  refine mj_T.pl rfl rfl rfl rfl ?_
  refine mj_T.call rfl rfl (Nat.le_of_ble_eq_true rfl) (Nat.le_of_ble_eq_true rfl) (mV_of m 18 cq_d168 (by decide) rfl (by decide) rfl _) rfl (mj_Ok.up (by omega) (mW_setLong (D := 0) (v := f) m cq_d168 ⟨by omega, by omega⟩ (by have := jnl_R hf; omega))) (fun v g1 hq => ?_) (fun i g1 hq => ?_)
  rotate_left
  · obtain ⟨_, _, hq⟩ := hq; cases hq
  obtain ⟨_, m2, hq⟩ := hq
  cases hq
  have m2 := m2.to (V' := (jvu V 168 f)) (by rfl) rfl
  refine mj_T.eq (pc2 := 8) (st2 := []) ?_ rfl rfl rfl rfl
  refine mj_T.pl rfl rfl rfl rfl ?_
  refine mj_T.pl (loc' := [some (.ref 19), some (.long (jl f)), none, some (.ref r), some (.int (jn 0))]) rfl rfl rfl rfl ?_
  refine mD_ga_loop kr hf sr hM hfit 13 0 (by omega) _ _ m2 (fun e he => ?_) (jvu_at _ _ _) (fun x x1 x2 x3 x4 => jvu_ne _ _ _ x3)
  rw [if_neg (Nat.not_lt_zero e), jvu_ne _ _ _ (by omega)]
  exact hW e he
end MGA
/-- a number's rest, not below 0 -/
theorem emod_tmod (v p : Int) (hp : 0 < p) : v % p = if v.tmod p < 0 then v.tmod p + p else v.tmod p := by
  have h1 := Int.emod_nonneg v (show p ≠ 0 by omega)
  have h2 := Int.emod_lt_of_pos v hp
  have e1 := Int.mul_ediv_add_emod v p
  have e2 := Int.mul_tdiv_add_tmod v p
  have h3 : (v.tmod p).natAbs < p.natAbs := by
    rw [Int.natAbs_tmod]
    exact Nat.mod_lt _ (by omega)
  have e3 : v % p = v.tmod p + p * (v.tdiv p - v / p) := by
    rw [Int.mul_sub]
    omega
  generalize v.tdiv p - v / p = t at e3
  have t1 : t = 0 ∨ t = 1 ∨ 2 ≤ t ∨ t ≤ -1 := by omega
  rcases t1 with t1 | t1 | t1 | t1
  · rw [t1, Int.mul_zero, Int.add_zero] at e3
    rw [if_neg (by omega), e3]
  · rw [t1, Int.mul_one] at e3
    rw [if_pos (by omega), e3]
  · have := Int.mul_le_mul_of_nonneg_left t1 (Int.le_of_lt hp)
    omega
  · have := Int.mul_le_mul_of_nonneg_left t1 (Int.le_of_lt hp)
    omega
theorem mS_res {h : mj_H} {D : Nat} {v p : Int} (hv : jR v) (hp : 0 < p) (hp2 : p ≤ 1000) : mj_Ok (D + 1) 172 [.long (jl v), .int (jn p)] h (fun z => z = (.inl (some (.int (jn (v % p)))), h)) := by
  have h3 : (v.tmod p).natAbs < p.natAbs := by
    rw [Int.natAbs_tmod]
    exact Nat.mod_lt _ (by omega)
  refine mj_Ok.of (M := mj_m172) rfl rfl rfl ?_
  refine mj_T.pl rfl rfl rfl rfl ?_
  refine mj_T.if0 (a := p) rfl ⟨by omega, by omega⟩ (fun c1 => ?_) (fun c1 => ?_)
  · simp only [jc, Bool.not_eq_true', Bool.not_eq_false', decide_eq_true_eq, decide_eq_false_iff_not] at c1
    iterate 2 refine mj_T.pl rfl rfl rfl rfl ?_
    refine mj_T.i2l rfl ⟨by omega, by omega⟩ ?_
    refine mj_T.lrem (a := v) (b := p) rfl hv ⟨by omega, by omega⟩ (by omega) ?_
    refine mj_T.pl (loc' := [some (.long (jl v)), none, some (.int (jn p)), some (.long (jl (v.tmod p))), none]) rfl rfl rfl rfl ?_
    refine mj_T.pl rfl rfl rfl rfl ?_
    refine jT.lc 0 rfl rfl ?_
    refine mj_T.lif (a := (v.tmod p)) (b := ((0 : Nat) : Int)) rfl rfl ⟨by omega, by omega⟩ ⟨by omega, by omega⟩ (fun c2 => ?_) (fun c2 => ?_)
    · simp only [jc, Bool.not_eq_true', Bool.not_eq_false', decide_eq_true_eq, decide_eq_false_iff_not] at c2
      refine mj_T.pl rfl rfl rfl rfl ?_
      refine mj_T.l2i rfl ?_
      exact mj_T.ret rfl rfl rfl (by rw [emod_tmod v p hp, if_neg (by omega)])
    · simp only [jc, Bool.not_eq_true', Bool.not_eq_false', decide_eq_true_eq, decide_eq_false_iff_not] at c2
      iterate 2 refine mj_T.pl rfl rfl rfl rfl ?_
      refine mj_T.i2l rfl ⟨by omega, by omega⟩ ?_
      refine mj_T.ladd (a := (v.tmod p)) (b := p) rfl ?_
      refine mj_T.pl rfl rfl rfl rfl ?_
      refine mj_T.l2i rfl ?_
      exact mj_T.ret rfl rfl rfl (by rw [emod_tmod v p hp, if_pos (by omega)])
  · exfalso
    simp only [jc, Bool.not_eq_true', Bool.not_eq_false', decide_eq_true_eq, decide_eq_false_iff_not] at c1
    omega
section MDR
variable {g h : mj_H} {n D r t : Nat} {V : Nat → Int} {X : Nat → Nat → Int}
/-- a derived row -/
def dvr (A : Nat → Int) : Nat → Int := fun e => if e < 12 then A (e + 1) * ((e + 1 : Nat) : Int) else 0
theorem mS_der_loop (kr : cK r = 2) (kt : cK t = 2) (hrt : r ≠ t) (sr : sml (X r)) : ∀ k j, j + k = 12 → (∀ e, e < j → (X r (e + 1) * ((e + 1 : Nat) : Int)).natAbs ≤ 999999999999999999) → ∀ (X1 : Nat → Nat → Int) (h1 : mj_H), jM g n V X1 h1 → (∀ a, a ≠ t → X1 a = X a) → (∀ e, e < 13 → X1 t e = if e < j then X r (e + 1) * ((e + 1 : Nat) : Int) else 0) → mj_T (D + 1) mj_m168 6 [some (.ref r), some (.ref t), some (.int (jn ((j + 1 : Nat) : Int)))] [] h1 (fun z => ∃ (X2 : Nat → Nat → Int) (h2 : mj_H), jM g n V X2 h2 ∧ (∀ a, a ≠ t → X2 a = X a) ∧ ((sml (dvr (X r)) ∧ z = (.inl (some (.int (jn 1))), h2) ∧ ∀ e, e < 13 → X2 t e = dvr (X r) e) ∨ (¬ sml (dvr (X r)) ∧ z = (.inl (some (.int (jn 0))), h2))))
  | 0, j, hj, hs, X1, h1, m, f1, f2 => by
    iterate 2 refine mj_T.pl rfl rfl rfl rfl ?_
    refine mT_llen m kr rfl ?_
    refine mj_T.icmp (a := (((j + 1) : Nat) : Int)) (b := ((13 : Nat) : Int)) rfl ⟨by omega, by omega⟩ ⟨by omega, by omega⟩ (fun c1 => ?_) (fun c1 => ?_)
    · simp only [jc, Bool.not_eq_true', Bool.not_eq_false', decide_eq_true_eq, decide_eq_false_iff_not] at c1
      refine mj_T.pl rfl rfl rfl rfl ?_
      have hj : j = 12 := by omega
      subst hj
      refine mj_T.ret rfl rfl rfl ⟨_, _, m, f1, Or.inl ⟨fun e he => ?_, rfl, fun e he => f2 e he⟩⟩
      unfold dvr
      split
      · rename_i c
        exact hs e c
      · exact Nat.zero_le _
    · exfalso
      simp only [jc, Bool.not_eq_true', Bool.not_eq_false', decide_eq_true_eq, decide_eq_false_iff_not] at c1
      omega
  | k + 1, j, hj, hs, X1, h1, m, f1, f2 => by
    obtain ⟨qq, hqq⟩ : ∃ qq, qq = 999999999999999999 / (j + 1) := ⟨_, rfl⟩
    have htd : ((999999999999999999 : Nat) : Int).tdiv ((j + 1 : Nat) : Int) = (qq : Int) := by
      rw [hqq]
      rfl
    have hrow : X1 r = X r := f1 r hrt
    have hx := sr (j + 1) (by omega)
    have hjr1 : ∀ i, i < 13 → jR (X1 r i) := fun i hi => by
      rw [hrow]
      have := sr i hi
      exact ⟨by omega, by omega⟩
    have hqn : qq * (j + 1) ≤ 999999999999999999 := by
      rw [hqq]
      exact Nat.div_mul_le_self _ _
    have hqn2 : 999999999999999999 < (qq + 1) * (j + 1) := by
      have := Nat.lt_div_mul_add (a := 999999999999999999) (show 0 < j + 1 by omega)
      rw [Nat.add_mul, hqq]
      omega
    have hql : qq ≤ 999999999999999999 := by
      rw [hqq]
      exact Nat.div_le_self _ _
    clear hqq
    have hin : X1 r (j + 1) ≤ (qq : Int) → -(qq : Int) ≤ X1 r (j + 1) → (X r (j + 1) * ((j + 1 : Nat) : Int)).natAbs ≤ 999999999999999999 := fun h1 h2 => by
      rw [hrow] at h1 h2
      rw [Int.natAbs_mul, Int.natAbs_natCast]
      exact Nat.le_trans (Nat.mul_le_mul_right _ (show (X r (j + 1)).natAbs ≤ qq by omega)) hqn
    have hbig : ((qq : Int) < X1 r (j + 1) ∨ X1 r (j + 1) < -(qq : Int)) → ¬ (X r (j + 1) * ((j + 1 : Nat) : Int)).natAbs ≤ 999999999999999999 := fun h1 h2 => by
      rw [hrow] at h1
      rw [Int.natAbs_mul, Int.natAbs_natCast] at h2
      have := Nat.mul_le_mul_right (j + 1) (show qq + 1 ≤ (X r (j + 1)).natAbs by omega)
      omega
    iterate 2 refine mj_T.pl rfl rfl rfl rfl ?_
    refine mT_llen m kr rfl ?_
    refine mj_T.icmp (a := (((j + 1) : Nat) : Int)) (b := ((13 : Nat) : Int)) rfl ⟨by omega, by omega⟩ ⟨by omega, by omega⟩ (fun c1 => ?_) (fun c1 => ?_)
    · exfalso
      simp only [jc, Bool.not_eq_true', Bool.not_eq_false', decide_eq_true_eq, decide_eq_false_iff_not] at c1
      omega
    · simp only [jc, Bool.not_eq_true', Bool.not_eq_false', decide_eq_true_eq, decide_eq_false_iff_not] at c1
      iterate 2 refine mj_T.pl rfl rfl rfl rfl ?_
      refine mT_llen m kt rfl ?_
      refine mj_T.icmp (a := (((j + 1) : Nat) : Int)) (b := ((13 : Nat) : Int)) rfl ⟨by omega, by omega⟩ ⟨by omega, by omega⟩ (fun c2 => ?_) (fun c2 => ?_)
      · exfalso
        simp only [jc, Bool.not_eq_true', Bool.not_eq_false', decide_eq_true_eq, decide_eq_false_iff_not] at c2
        omega
      · simp only [jc, Bool.not_eq_true', Bool.not_eq_false', decide_eq_true_eq, decide_eq_false_iff_not] at c2
        iterate 2 refine mj_T.pl rfl rfl rfl rfl ?_
        refine mT_lald m kr rfl ⟨by omega, by omega⟩ ?_
        refine mj_T.eq (st2 := [.long (jl (X1 r (j + 1)))]) ?_ rfl rfl rfl rfl
        refine jT.ldcL rfl ?_
        refine mj_T.pl rfl rfl rfl rfl ?_
        refine mj_T.i2l rfl ⟨by omega, by omega⟩ ?_
        refine mT_ldiv rfl ⟨by decide, by decide⟩ (by decide) ⟨by omega, by omega⟩ (by omega) ?_
        refine mj_T.lif (a := (X1 r (j + 1))) (b := (((999999999999999999 : Nat) : Int).tdiv (((j + 1) : Nat) : Int))) rfl rfl (hjr1 (j + 1) (by omega)) ⟨by omega, by omega⟩ (fun c3 => ?_) (fun c3 => ?_)
        · simp only [jc, Bool.not_eq_true', Bool.not_eq_false', decide_eq_true_eq, decide_eq_false_iff_not] at c3
          refine mj_T.pl rfl rfl rfl rfl ?_
          refine mj_T.ret rfl rfl rfl ⟨_, _, m, f1, Or.inr ⟨fun q => ?_, rfl⟩⟩
          have q2 := q j (by omega)
          unfold dvr at q2
          rw [if_pos (by omega)] at q2
          exact hbig (by omega) q2
        · simp only [jc, Bool.not_eq_true', Bool.not_eq_false', decide_eq_true_eq, decide_eq_false_iff_not] at c3
          iterate 2 refine mj_T.pl rfl rfl rfl rfl ?_
          refine mT_lald m kr rfl ⟨by omega, by omega⟩ ?_
          refine mj_T.eq (st2 := [.long (jl (X1 r (j + 1)))]) ?_ rfl rfl rfl rfl
          refine jT.ldcL rfl ?_
          refine mj_T.pl rfl rfl rfl rfl ?_
          refine mj_T.i2l rfl ⟨by omega, by omega⟩ ?_
          refine mT_ldiv rfl ⟨by decide, by decide⟩ (by decide) ⟨by omega, by omega⟩ (by omega) ?_
          refine mj_T.lneg rfl ?_
          refine mj_T.lif (a := (X1 r (j + 1))) (b := (-(((999999999999999999 : Nat) : Int).tdiv (((j + 1) : Nat) : Int)))) rfl rfl (hjr1 (j + 1) (by omega)) ⟨by omega, by omega⟩ (fun c4 => ?_) (fun c4 => ?_)
          · simp only [jc, Bool.not_eq_true', Bool.not_eq_false', decide_eq_true_eq, decide_eq_false_iff_not] at c4
            iterate 3 refine mj_T.pl rfl rfl rfl rfl ?_
            refine mj_T.isub (a := (((j + 1) : Nat) : Int)) (b := 1) rfl ?_
            rw [show (((j + 1 : Nat) : Int) - 1) = ((j : Nat) : Int) by omega]
            iterate 2 refine mj_T.pl rfl rfl rfl rfl ?_
            refine mT_lald m kr rfl ⟨by omega, by omega⟩ ?_
            refine mj_T.eq (st2 := [.long (jl (X1 r (j + 1))), .int (jn ((j : Nat) : Int)), .ref t]) ?_ rfl rfl rfl rfl
            refine mj_T.pl rfl rfl rfl rfl ?_
            refine mj_T.i2l rfl ⟨by omega, by omega⟩ ?_
            refine mj_T.lmul (a := (X1 r (j + 1))) (b := (((j + 1) : Nat) : Int)) rfl ?_
            refine mT_last (v := ((X1 r (j + 1)) * (((j + 1) : Nat) : Int))) m kt rfl ⟨by omega, by omega⟩ (fun h5 m6 => ?_)
            refine mj_T.iinc rfl rfl ?_
            rw [show (((j + 1) : Nat) : Int) + 1 = (((j + 1) + 1 : Nat) : Int) by omega]
            refine mj_T.eq (loc2 := [some (.ref r), some (.ref t), some (.int (jn ((((j + 1) + 1) : Nat) : Int)))]) ?_ rfl rfl rfl rfl
            refine mj_T.pl rfl rfl rfl rfl ?_
            refine mS_der_loop kr kt hrt sr k (j + 1) (by omega) (fun e he => ?_) (xup X1 t j ((X1 r (j + 1)) * (((j + 1) : Nat) : Int))) _ m6 (fun a ha => ?_) (fun e he => ?_)
            · by_cases q : e = j
              · subst q
                exact hin (by omega) (by omega)
              · exact hs e (by omega)
            · rw [xup_oth ha]
              exact f1 a ha
            · by_cases q : e = j
              · subst q
                rw [xup_at, f1 r hrt, if_pos (Nat.lt_succ_self _)]
              · rw [xup_ne _ _ (Or.inr q), f2 e he]
                by_cases y : e < j
                · rw [if_pos y, if_pos (by omega)]
                · rw [if_neg y, if_neg (by omega)]
          · simp only [jc, Bool.not_eq_true', Bool.not_eq_false', decide_eq_true_eq, decide_eq_false_iff_not] at c4
            refine mj_T.pl rfl rfl rfl rfl ?_
            refine mj_T.ret rfl rfl rfl ⟨_, _, m, f1, Or.inr ⟨fun q => ?_, rfl⟩⟩
            have q2 := q j (by omega)
            unfold dvr at q2
            rw [if_pos (by omega)] at q2
            exact hbig (by omega) q2
theorem mS_derive (m : jM g n V X h) (kr : cK r = 2) (kt : cK t = 2) (hrt : r ≠ t) (sr : sml (X r)) : mj_Ok (D + 2) 168 [.ref r, .ref t] h (fun z => ∃ (X2 : Nat → Nat → Int) (h2 : mj_H), jM g n V X2 h2 ∧ (∀ a, a ≠ t → X2 a = X a) ∧ ((sml (dvr (X r)) ∧ z = (.inl (some (.int (jn 1))), h2) ∧ ∀ e, e < 13 → X2 t e = dvr (X r) e) ∨ (¬ sml (dvr (X r)) ∧ z = (.inl (some (.int (jn 0))), h2)))) := by
  refine mj_Ok.of (M := mj_m168) rfl rfl rfl ?_
  refine mj_T.pl rfl rfl rfl rfl ?_
  refine mj_T.call rfl rfl (Nat.le_of_ble_eq_true rfl) (Nat.le_of_ble_eq_true rfl) rfl rfl (mj_Ok.up (by omega) (mS_clear (D := 0) m kt)) (fun v g1 hq => ?_) (fun i g1 hq => ?_)
  rotate_left
  · obtain ⟨_, _, hq⟩ := hq; cases hq
  obtain ⟨_, m2, hq⟩ := hq
  cases hq
  refine mj_T.eq (pc2 := 4) (st2 := []) ?_ rfl rfl rfl rfl
  refine mj_T.pl rfl rfl rfl rfl ?_
  refine mj_T.pl (loc' := [some (.ref r), some (.ref t), some (.int (jn 1))]) rfl rfl rfl rfl ?_
  refine mj_T.eq (loc2 := [some (.ref r), some (.ref t), some (.int (jn ((0 + 1 : Nat) : Int)))]) ?_ rfl rfl rfl rfl
  exact mS_der_loop kr kt hrt sr 12 0 (by omega) (fun e he => absurd he (Nat.not_lt_zero e)) _ _ m2 (fun a ha => xfl_off _ _ _ ha) (fun e he => (xfl_at _ _ _ he).trans (if_neg (Nat.not_lt_zero e)).symm)
end MDR
/-! The benches of the class, exactly: points, copies. -/
theorem mK_30 : ((List.range 563).all (fun a => !(decide (cK a = 10)) || (decide (cK (a + 8) = 1) && decide (cK (a + 9) = 1) && decide (cL (a + 8) = 6) && decide (cL (a + 9) = 6) && decide (cK (a + 7) = 2)))) = true := by decide +kernel
/-- an array of places or heights -/
def pA (a : Nat) : Prop := cK a = 1 ∧ cL a = 6 ∧ cK (a - 1) ≠ 18 ∧ cK (a - 1) ≠ 12
theorem mK_b8 {a : Nat} (h : cK a = 10) : pA (a + 8) ∧ pA (a + 9) := by
  have h1 := jall mK_30 (cK_in (a := a) (by omega))
  simp only [h, decide_true, Bool.not_true, Bool.false_or, Bool.and_eq_true, decide_eq_true_eq] at h1
  obtain ⟨⟨⟨⟨a1, a2⟩, a3⟩, a4⟩, a5⟩ := h1
  refine ⟨⟨a1, a3, ?_, ?_⟩, a2, a4, ?_, ?_⟩
  · show cK (a + 7) ≠ 18
    omega
  · show cK (a + 7) ≠ 12
    omega
  · show cK (a + 8) ≠ 18
    omega
  · show cK (a + 8) ≠ 12
    omega
def bns : List Nat := [2, 483, 493, 503, 513, 523, 533, 543, 553]
theorem bns_1 : ((List.range 563).all (fun a => !(decide (cK a = 10)) || decide (a ∈ bns))) = true := by decide +kernel
theorem bns_2 : (bns.all fun p => bns.all fun q => decide (p = q) || decide (p + 10 ≤ q) || decide (q + 10 ≤ p)) = true := by decide +kernel
theorem bns_far {p q : Nat} (kp : cK p = 10) (kq : cK q = 10) (h : p ≠ q) : p + 10 ≤ q ∨ q + 10 ≤ p := by
  have h1 := jall bns_1 (cK_in (a := p) (by omega))
  have h2 := jall bns_1 (cK_in (a := q) (by omega))
  simp only [kp, kq, decide_true, Bool.not_true, Bool.false_or, decide_eq_true_eq] at h1 h2
  have h3 := List.all_eq_true.mp (List.all_eq_true.mp bns_2 p h1) q h2
  simp only [Bool.or_eq_true, decide_eq_true_eq] at h3
  omega
section MPL
variable {g h : mj_H} {n D pc r1 r2 r3 r4 r5 : Nat} {V : Nat → Int} {X : Nat → Nat → Int} {M : mj_M} {loc : mj_L} {st : List Value} {Q : mj_R → Prop}
theorem jM.I (M : jM g n V X h) {a : Nat} (pa : pA a) : h[a]? = some (.inl (0, 6, fun j => .int (jn (X a j)))) := by
  have q := M.2.2 a
  unfold jMk at q
  rw [pa.1, if_neg (by omega), if_neg (by omega), if_neg (by omega), if_pos rfl, pa.2.1] at q
  rcases q with q | q
  · exact absurd q (fun y => y.elim pa.2.2.1 pa.2.2.2)
  · exact q
theorem mT_iald (m : jM g n V X h) {a : Nat} {i : Int} (pa : pA a) (hc : M.2.2.2.2.1 pc = some (.iaload, r1, r2, r3, r4, r5)) (h0 : 0 ≤ i ∧ i < 6) (q : mj_T D M (pc + 1) loc (.int (jn (X a i.toNat)) :: st) h Q) : mj_T D M pc loc (.int (jn i) :: .ref a :: st) h Q := mj_T.iald (g := fun j => jn (X a j)) hc (m.I pa) ⟨by omega, by omega⟩ h0 q
theorem mT_ilen (m : jM g n V X h) {a : Nat} (pa : pA a) (hc : M.2.2.2.2.1 pc = some (.arraylength, r1, r2, r3, r4, r5)) (q : mj_T D M (pc + 1) loc (.int (jn ((6 : Nat) : Int)) :: st) h Q) : mj_T D M pc loc (.ref a :: st) h Q := mj_T.alen hc (m.I pa) q
theorem jM.setI (m : jM g n V X h) {a i : Nat} {v : Int} (pa : pA a) : jM g n V (xup X a i v) (h.set a (.inl (0, 6, fun j => .int (if j = i then jn v else jn (X a j))))) := by
  have hl := (List.getElem?_eq_some_iff.mp (m.I pa)).1
  refine m.up (fun x => x = a) (by rw [List.length_set]) (fun x hx => by subst hx; rw [pa.1]; decide) (fun p hp => List.getElem?_set_ne (fun e => hp e.symm)) (fun _ _ => rfl) (fun x hx => funext fun j => xup_ne _ _ (Or.inl hx)) (fun x hx => ?_) (fun x hx => ?_)
  · have p1 := pa.1
    constructor
    · intro e
      subst e
      omega
    · intro e
      have p2 := pa.2.2
      rw [← e, Nat.add_sub_cancel] at p2
      exact absurd hx (fun y => y.elim p2.1 p2.2)
  · subst hx
    unfold jMk
    rw [pa.1, if_neg (by omega), if_neg (by omega), if_neg (by omega), if_pos rfl, pa.2.1, List.getElem?_set_self hl]
    refine Or.inr ?_
    congr 4
    funext j
    unfold xup
    by_cases q : j = i
    · rw [if_pos q, if_pos ⟨rfl, q⟩]
    · rw [if_neg q, if_neg (fun w => q w.2)]
theorem mT_iast (m : jM g n V X h) {a : Nat} {i v : Int} (pa : pA a) (hc : M.2.2.2.2.1 pc = some (.iastore, r1, r2, r3, r4, r5)) (h0 : 0 ≤ i ∧ i < 6) (q : ∀ h', jM g n V (xup X a i.toNat v) h' → mj_T D M (pc + 1) loc st h' Q) : mj_T D M pc loc (.int (jn v) :: .int (jn i) :: .ref a :: st) h Q := mj_T.iast (g := fun j => jn (X a j)) hc (m.I pa) ⟨by omega, by omega⟩ h0 (q _ (by
  have k := m.setI (i := i.toNat) (v := v) pa
  have e : (fun j => Value.int (upd (fun j => jn (X a j)) i.toNat (jn v) j)) = fun j => Value.int (if j = i.toNat then jn v else jn (X a j)) := funext fun j => by
    unfold upd
    split <;> rfl
  rw [e]
  exact k))
end MPL
section MBE
variable {g h : mj_H} {n D a o : Nat} {V : Nat → Int} {X : Nat → Nat → Int}
theorem mB_place (m : jM g n V X h) (ko : cK o = 10) {i : Nat} (hi : i < 6) : mj_Ok (D + 1) 5 [.ref o, .int (jn (i : Int))] h (fun z => z = (.inl (some (.int (jn (X (o + 8) i)))), h)) := by
  refine mj_Ok.of (M := mj_m5) rfl rfl rfl ?_
  refine mj_T.pl rfl rfl rfl rfl ?_
  refine mj_T.if0 (a := ((i : Nat) : Int)) rfl ⟨by omega, by omega⟩ (fun c1 => ?_) (fun c1 => ?_)
  · exfalso
    simp only [jc, Bool.not_eq_true', Bool.not_eq_false', decide_eq_true_eq, decide_eq_false_iff_not] at c1
    omega
  · simp only [jc, Bool.not_eq_true', Bool.not_eq_false', decide_eq_true_eq, decide_eq_false_iff_not] at c1
    iterate 2 refine mj_T.pl rfl rfl rfl rfl ?_
    refine mT_get m 10 ko (by decide) rfl rfl ?_
    refine mT_ilen m (mK_b8 ko).1 rfl ?_
    refine mj_T.icmp (a := ((i : Nat) : Int)) (b := ((6 : Nat) : Int)) rfl ⟨by omega, by omega⟩ ⟨by omega, by omega⟩ (fun c2 => ?_) (fun c2 => ?_)
    · exfalso
      simp only [jc, Bool.not_eq_true', Bool.not_eq_false', decide_eq_true_eq, decide_eq_false_iff_not] at c2
      omega
    · simp only [jc, Bool.not_eq_true', Bool.not_eq_false', decide_eq_true_eq, decide_eq_false_iff_not] at c2
      refine mj_T.pl rfl rfl rfl rfl ?_
      refine mT_get m 10 ko (by decide) rfl rfl ?_
      refine mj_T.pl rfl rfl rfl rfl ?_
      refine mT_iald m (mK_b8 ko).1 rfl ⟨by omega, by omega⟩ ?_
      refine mj_T.eq (st2 := [.int (jn (X (o + 8) i))]) ?_ rfl rfl rfl rfl
      refine mj_T.pl rfl rfl rfl rfl ?_
      exact mj_T.ret rfl rfl rfl rfl
theorem mB_height (m : jM g n V X h) (ko : cK o = 10) {i : Nat} (hi : i < 6) : mj_Ok (D + 1) 6 [.ref o, .int (jn (i : Int))] h (fun z => z = (.inl (some (.int (jn (X (o + 9) i)))), h)) := by
  refine mj_Ok.of (M := mj_m6) rfl rfl rfl ?_
  refine mj_T.pl rfl rfl rfl rfl ?_
  refine mj_T.if0 (a := ((i : Nat) : Int)) rfl ⟨by omega, by omega⟩ (fun c1 => ?_) (fun c1 => ?_)
  · exfalso
    simp only [jc, Bool.not_eq_true', Bool.not_eq_false', decide_eq_true_eq, decide_eq_false_iff_not] at c1
    omega
  · simp only [jc, Bool.not_eq_true', Bool.not_eq_false', decide_eq_true_eq, decide_eq_false_iff_not] at c1
    iterate 2 refine mj_T.pl rfl rfl rfl rfl ?_
    refine mT_get m 10 ko (by decide) rfl rfl ?_
    refine mT_ilen m (mK_b8 ko).2 rfl ?_
    refine mj_T.icmp (a := ((i : Nat) : Int)) (b := ((6 : Nat) : Int)) rfl ⟨by omega, by omega⟩ ⟨by omega, by omega⟩ (fun c2 => ?_) (fun c2 => ?_)
    · exfalso
      simp only [jc, Bool.not_eq_true', Bool.not_eq_false', decide_eq_true_eq, decide_eq_false_iff_not] at c2
      omega
    · simp only [jc, Bool.not_eq_true', Bool.not_eq_false', decide_eq_true_eq, decide_eq_false_iff_not] at c2
      refine mj_T.pl rfl rfl rfl rfl ?_
      refine mT_get m 10 ko (by decide) rfl rfl ?_
      refine mj_T.pl rfl rfl rfl rfl ?_
      refine mT_iald m (mK_b8 ko).2 rfl ⟨by omega, by omega⟩ ?_
      refine mj_T.eq (st2 := [.int (jn (X (o + 9) i))]) ?_ rfl rfl rfl rfl
      refine mj_T.pl rfl rfl rfl rfl ?_
      exact mj_T.ret rfl rfl rfl rfl
theorem mB_put (m : jM g n V X h) (ko : cK o = 10) {p : Nat} {x y : Int} (hp : X o 3 = (p : Int)) (hp6 : p < 6) : mj_Ok (D + 1) 3 [.ref o, .int (jn x), .int (jn y)] h (fun z => ∃ h2, jM g n V (xup (xup (xup X (o + 8) p x) (o + 9) p y) o 3 ((p + 1 : Nat) : Int)) h2 ∧ z = (.inl none, h2)) := by
  refine mj_Ok.of (M := mj_m3) rfl rfl rfl ?_
  refine mj_T.pl rfl rfl rfl rfl ?_
  refine mT_get (v := .int (jn ((p : Nat) : Int))) m 10 ko (by decide) rfl (congrArg (fun z : Int => some (Value.int (jn z))) (hp)) ?_
  refine mj_T.pl rfl rfl rfl rfl ?_
  refine mT_get m 10 ko (by decide) rfl rfl ?_
  refine mT_ilen m (mK_b8 ko).1 rfl ?_
  refine mj_T.icmp (a := ((p : Nat) : Int)) (b := ((6 : Nat) : Int)) rfl ⟨by omega, by omega⟩ ⟨by omega, by omega⟩ (fun c1 => ?_) (fun c1 => ?_)
  · exfalso
    simp only [jc, Bool.not_eq_true', Bool.not_eq_false', decide_eq_true_eq, decide_eq_false_iff_not] at c1
    omega
  · simp only [jc, Bool.not_eq_true', Bool.not_eq_false', decide_eq_true_eq, decide_eq_false_iff_not] at c1
    refine mj_T.pl rfl rfl rfl rfl ?_
    refine mT_get (v := .int (jn ((p : Nat) : Int))) m 10 ko (by decide) rfl (congrArg (fun z : Int => some (Value.int (jn z))) (hp)) ?_
    refine mj_T.pl rfl rfl rfl rfl ?_
    refine mT_get m 10 ko (by decide) rfl rfl ?_
    refine mT_ilen m (mK_b8 ko).2 rfl ?_
    refine mj_T.icmp (a := ((p : Nat) : Int)) (b := ((6 : Nat) : Int)) rfl ⟨by omega, by omega⟩ ⟨by omega, by omega⟩ (fun c2 => ?_) (fun c2 => ?_)
    · exfalso
      simp only [jc, Bool.not_eq_true', Bool.not_eq_false', decide_eq_true_eq, decide_eq_false_iff_not] at c2
      omega
    · simp only [jc, Bool.not_eq_true', Bool.not_eq_false', decide_eq_true_eq, decide_eq_false_iff_not] at c2
      refine mj_T.pl rfl rfl rfl rfl ?_
      refine mT_get m 10 ko (by decide) rfl rfl ?_
      refine mj_T.pl rfl rfl rfl rfl ?_
      refine mT_get (v := .int (jn ((p : Nat) : Int))) m 10 ko (by decide) rfl (congrArg (fun z : Int => some (Value.int (jn z))) (hp)) ?_
      refine mj_T.pl rfl rfl rfl rfl ?_
      refine mT_iast (v := x) m (mK_b8 ko).1 rfl ⟨by omega, by omega⟩ (fun h3 m4 => ?_)
      refine mj_T.pl rfl rfl rfl rfl ?_
      refine mT_get m4 10 ko (by decide) rfl rfl ?_
      refine mj_T.pl rfl rfl rfl rfl ?_
      refine mT_get (v := .int (jn ((p : Nat) : Int))) m4 10 ko (by decide) rfl (congrArg (fun z : Int => some (Value.int (jn z))) ((congrFun (xup_oth (by omega)) 3).trans (hp))) ?_
      refine mj_T.pl rfl rfl rfl rfl ?_
      refine mT_iast (v := y) m4 (mK_b8 ko).2 rfl ⟨by omega, by omega⟩ (fun h5 m6 => ?_)
      iterate 2 refine mj_T.pl rfl rfl rfl rfl ?_
      refine mT_get (v := .int (jn ((p : Nat) : Int))) m6 10 ko (by decide) rfl (congrArg (fun z : Int => some (Value.int (jn z))) ((congrFun (xup_oth (by omega)) 3).trans ((congrFun (xup_oth (by omega)) 3).trans (hp)))) ?_
      refine mj_T.pl rfl rfl rfl rfl ?_
      refine mj_T.iadd (a := ((p : Nat) : Int)) (b := 1) rfl ?_
      rw [show ((p : Nat) : Int) + 1 = ((p + 1 : Nat) : Int) by omega]
      refine mT_put (v := (((p + 1) : Nat) : Int)) m6 10 ko (by decide) rfl (by simp [jMf, xup]) (by simp [jMf]) rfl (fun h7 m8 => ?_)
      exact mj_T.ret rfl rfl rfl ⟨_, m8, rfl⟩
theorem mB_has_loop (m : jM g n V X h) (ko : cK o = 10) {p : Nat} {x : Int} (hp : X o 3 = (p : Int)) (hp6 : p ≤ 6) (hx : -2147483648 ≤ x ∧ x ≤ 2147483647) (hj : ∀ i, i < p → -9 ≤ X (o + 8) i ∧ X (o + 8) i ≤ 9) : ∀ k i, i + k = p → (∀ e, e < i → X (o + 8) e ≠ x) → mj_T (D + 1) mj_m4 2 [some (.ref o), some (.int (jn x)), some (.int (jn (i : Int)))] [] h (fun z => ((∃ i, i < p ∧ X (o + 8) i = x) ∧ z = (.inl (some (.int (jn 1))), h)) ∨ ((∀ i, i < p → X (o + 8) i ≠ x) ∧ z = (.inl (some (.int (jn 0))), h)))
  | 0, i, hi, hn => by
    iterate 2 refine mj_T.pl rfl rfl rfl rfl ?_
    refine mT_get (v := .int (jn ((p : Nat) : Int))) m 10 ko (by decide) rfl (congrArg (fun z : Int => some (Value.int (jn z))) (hp)) ?_
    refine mj_T.icmp (a := ((i : Nat) : Int)) (b := ((p : Nat) : Int)) rfl ⟨by omega, by omega⟩ ⟨by omega, by omega⟩ (fun c1 => ?_) (fun c1 => ?_)
    · simp only [jc, Bool.not_eq_true', Bool.not_eq_false', decide_eq_true_eq, decide_eq_false_iff_not] at c1
      refine mj_T.pl rfl rfl rfl rfl ?_
      exact mj_T.ret rfl rfl rfl (Or.inr ⟨fun e he => hn e (by omega), rfl⟩)
    · exfalso
      simp only [jc, Bool.not_eq_true', Bool.not_eq_false', decide_eq_true_eq, decide_eq_false_iff_not] at c1
      omega
  | k + 1, i, hi, hn => by
    have hji := hj i (by omega)
    iterate 2 refine mj_T.pl rfl rfl rfl rfl ?_
    refine mT_get (v := .int (jn ((p : Nat) : Int))) m 10 ko (by decide) rfl (congrArg (fun z : Int => some (Value.int (jn z))) (hp)) ?_
    refine mj_T.icmp (a := ((i : Nat) : Int)) (b := ((p : Nat) : Int)) rfl ⟨by omega, by omega⟩ ⟨by omega, by omega⟩ (fun c1 => ?_) (fun c1 => ?_)
    · exfalso
      simp only [jc, Bool.not_eq_true', Bool.not_eq_false', decide_eq_true_eq, decide_eq_false_iff_not] at c1
      omega
    · simp only [jc, Bool.not_eq_true', Bool.not_eq_false', decide_eq_true_eq, decide_eq_false_iff_not] at c1
      iterate 2 refine mj_T.pl rfl rfl rfl rfl ?_
      refine mj_T.call rfl rfl (Nat.le_of_ble_eq_true rfl) (Nat.le_of_ble_eq_true rfl) (mV_of m 10 ko (by decide) rfl (by decide) rfl _) rfl (mj_Ok.up (by omega) (mB_place (D := 0) (i := i) m ko (by omega))) (fun v g2 hq => ?_) (fun i g2 hq => ?_)
      rotate_left
      · cases hq
      cases hq
      refine mj_T.eq (pc2 := 15) (st2 := [.int (jn (X (o + 8) i))]) ?_ rfl rfl rfl rfl
      refine mj_T.pl rfl rfl rfl rfl ?_
      refine mj_T.icmp (a := (X (o + 8) i)) (b := x) rfl ⟨by omega, by omega⟩ ⟨by omega, by omega⟩ (fun c3 => ?_) (fun c3 => ?_)
      · simp only [jc, Bool.not_eq_true', Bool.not_eq_false', decide_eq_true_eq, decide_eq_false_iff_not] at c3
        refine mj_T.iinc rfl rfl ?_
        rw [show ((i : Nat) : Int) + 1 = ((i + 1 : Nat) : Int) by omega]
        refine mj_T.eq (loc2 := [some (.ref o), some (.int (jn x)), some (.int (jn (((i + 1) : Nat) : Int)))]) ?_ rfl rfl rfl rfl
        refine mj_T.pl rfl rfl rfl rfl ?_
        refine mB_has_loop m ko hp hp6 hx hj k (i + 1) (by omega) (fun e he => ?_)
        by_cases q : e = i
        · subst q
          omega
        · exact hn e (by omega)
      · simp only [jc, Bool.not_eq_true', Bool.not_eq_false', decide_eq_true_eq, decide_eq_false_iff_not] at c3
        refine mj_T.pl rfl rfl rfl rfl ?_
        exact mj_T.ret rfl rfl rfl (Or.inl ⟨⟨i, by omega, by omega⟩, rfl⟩)
theorem mB_has (m : jM g n V X h) (ko : cK o = 10) {p : Nat} {x : Int} (hp : X o 3 = (p : Int)) (hp6 : p ≤ 6) (hx : -2147483648 ≤ x ∧ x ≤ 2147483647) (hj : ∀ i, i < p → -9 ≤ X (o + 8) i ∧ X (o + 8) i ≤ 9) : mj_Ok (D + 2) 4 [.ref o, .int (jn x)] h (fun z => ((∃ i, i < p ∧ X (o + 8) i = x) ∧ z = (.inl (some (.int (jn 1))), h)) ∨ ((∀ i, i < p → X (o + 8) i ≠ x) ∧ z = (.inl (some (.int (jn 0))), h))) := by
  refine mj_Ok.of (M := mj_m4) rfl rfl rfl ?_
  refine mj_T.pl rfl rfl rfl rfl ?_
  refine mj_T.pl (loc' := [some (.ref o), some (.int (jn x)), some (.int (jn 0))]) rfl rfl rfl rfl ?_
  exact mB_has_loop m ko hp hp6 hx hj p 0 (by omega) (fun e he => absurd he (Nat.not_lt_zero e))
theorem mB_cp2 {p : Nat} (ka : cK a = 10) (ko : cK o = 10) (hao : a ≠ o) (hp : X o 3 = (p : Int)) (hp6 : p ≤ 6) : ∀ k i, i + k = p → ∀ (X1 : Nat → Nat → Int) (h1 : mj_H), jM g n V X1 h1 → (∀ i, i < 6 → ∀ j, j < 13 → X1 (a + 2 + i) j = X (o + 2 + i) j) → X1 a 3 = (i : Int) → (∀ k, k < i → X1 (a + 8) k = X (o + 8) k ∧ X1 (a + 9) k = X (o + 9) k) → (∀ c, (c < a ∨ a + 10 ≤ c) → X1 c = X c) → mj_T (D + 2) mj_m2 48 [some (.ref a), some (.ref o), some (.int (jn (i : Int)))] [] h1 (fun z => ∃ (X2 : Nat → Nat → Int) (h2 : mj_H), jM g n V X2 h2 ∧ (∀ i, i < 6 → ∀ j, j < 13 → X2 (a + 2 + i) j = X (o + 2 + i) j) ∧ X2 a 3 = (p : Int) ∧ (∀ k, k < p → X2 (a + 8) k = X (o + 8) k ∧ X2 (a + 9) k = X (o + 9) k) ∧ (∀ c, (c < a ∨ a + 10 ≤ c) → X2 c = X c) ∧ z = (.inl none, h2))
  | 0, i, hi, X1, h1, m, e1, e2, e3, e4 => by
    have hfar := bns_far ka ko hao
    have hpo : X1 o 3 = (p : Int) := (congrFun (e4 o (by omega)) 3).trans hp
    iterate 2 refine mj_T.pl rfl rfl rfl rfl ?_
    refine mT_get (v := .int (jn ((p : Nat) : Int))) m 10 ko (by decide) rfl (congrArg (fun z : Int => some (Value.int (jn z))) (hpo)) ?_
    refine mj_T.icmp (a := ((i : Nat) : Int)) (b := ((p : Nat) : Int)) rfl ⟨by omega, by omega⟩ ⟨by omega, by omega⟩ (fun c1 => ?_) (fun c1 => ?_)
    · simp only [jc, Bool.not_eq_true', Bool.not_eq_false', decide_eq_true_eq, decide_eq_false_iff_not] at c1
      have hip : i = p := by omega
      subst hip
      exact mj_T.ret rfl rfl rfl ⟨_, _, m, e1, e2, e3, e4, rfl⟩
    · exfalso
      simp only [jc, Bool.not_eq_true', Bool.not_eq_false', decide_eq_true_eq, decide_eq_false_iff_not] at c1
      omega
  | k + 1, i, hi, X1, h1, m, e1, e2, e3, e4 => by
    have hfar := bns_far ka ko hao
    have hpo : X1 o 3 = (p : Int) := (congrFun (e4 o (by omega)) 3).trans hp
    iterate 2 refine mj_T.pl rfl rfl rfl rfl ?_
    refine mT_get (v := .int (jn ((p : Nat) : Int))) m 10 ko (by decide) rfl (congrArg (fun z : Int => some (Value.int (jn z))) (hpo)) ?_
    refine mj_T.icmp (a := ((i : Nat) : Int)) (b := ((p : Nat) : Int)) rfl ⟨by omega, by omega⟩ ⟨by omega, by omega⟩ (fun c1 => ?_) (fun c1 => ?_)
    · exfalso
      simp only [jc, Bool.not_eq_true', Bool.not_eq_false', decide_eq_true_eq, decide_eq_false_iff_not] at c1
      omega
    · simp only [jc, Bool.not_eq_true', Bool.not_eq_false', decide_eq_true_eq, decide_eq_false_iff_not] at c1
      iterate 3 refine mj_T.pl rfl rfl rfl rfl ?_
      refine mj_T.call rfl rfl (Nat.le_of_ble_eq_true rfl) (Nat.le_of_ble_eq_true rfl) (mV_of m 10 ko (by decide) rfl (by decide) rfl _) rfl (mj_Ok.up (by omega) (mB_place (D := 0) (i := i) m ko (by omega))) (fun v g2 hq => ?_) (fun i g2 hq => ?_)
      rotate_left
      · cases hq
      cases hq
      refine mj_T.eq (pc2 := 62) (st2 := [.int (jn (X1 (o + 8) i)), .ref a]) ?_ rfl rfl rfl rfl
      iterate 2 refine mj_T.pl rfl rfl rfl rfl ?_
      refine mj_T.call rfl rfl (Nat.le_of_ble_eq_true rfl) (Nat.le_of_ble_eq_true rfl) (mV_of m 10 ko (by decide) rfl (by decide) rfl _) rfl (mj_Ok.up (by omega) (mB_height (D := 0) (i := i) m ko (by omega))) (fun v g3 hq => ?_) (fun i g3 hq => ?_)
      rotate_left
      · cases hq
      cases hq
      refine mj_T.eq (pc2 := 67) (st2 := [.int (jn (X1 (o + 9) i)), .int (jn (X1 (o + 8) i)), .ref a]) ?_ rfl rfl rfl rfl
      refine mj_T.call rfl rfl (Nat.le_of_ble_eq_true rfl) (Nat.le_of_ble_eq_true rfl) (mV_of m 10 ka (by decide) rfl (by decide) rfl _) rfl (mj_Ok.up (by omega) (mB_put (D := 0) m ka e2 (by omega))) (fun v g4 hq => ?_) (fun i g4 hq => ?_)
      rotate_left
      · obtain ⟨_, _, hq⟩ := hq; cases hq
      obtain ⟨_, m5, hq⟩ := hq
      cases hq
      refine mj_T.eq (pc2 := 70) (st2 := []) ?_ rfl rfl rfl rfl
      refine mj_T.iinc rfl rfl ?_
      rw [show ((i : Nat) : Int) + 1 = ((i + 1 : Nat) : Int) by omega]
      refine mj_T.eq (loc2 := [some (.ref a), some (.ref o), some (.int (jn (((i + 1) : Nat) : Int)))]) ?_ rfl rfl rfl rfl
      refine mj_T.pl rfl rfl rfl rfl ?_
      refine mB_cp2 ka ko hao hp hp6 k (i + 1) (by omega) _ _ m5 (fun c hc j hj => ?_) (xup_at _ _ _ _) (fun c hc => ?_) (fun c hc => ?_)
      · rw [xup_oth (by omega), xup_oth (by omega), xup_oth (by omega)]
        exact e1 c hc j hj
      · by_cases q : c = i
        · subst q
          refine ⟨?_, ?_⟩
          · rw [xup_oth (by omega), xup_oth (by omega), xup_at, e4 (o + 8) (by omega)]
          · rw [xup_oth (by omega), xup_at, e4 (o + 9) (by omega)]
        · have y := e3 c (by omega)
          refine ⟨?_, ?_⟩
          · rw [xup_oth (by omega), xup_oth (by omega), xup_ne _ _ (Or.inr q)]
            exact y.1
          · rw [xup_oth (by omega), xup_ne _ _ (Or.inr q), xup_oth (by omega)]
            exact y.2
      · rw [xup_oth (by omega), xup_oth (by omega), xup_oth (by omega)]
        exact e4 c hc
theorem mB_cp1 {p : Nat} (ka : cK a = 10) (ko : cK o = 10) (hao : a ≠ o) (hp : X o 3 = (p : Int)) (hp6 : p ≤ 6) : ∀ k i, i + k = 6 → ∀ (X1 : Nat → Nat → Int) (h1 : mj_H), jM g n V X1 h1 → (∀ e, e < i → ∀ j, j < 13 → X1 (a + 2 + e) j = X (o + 2 + e) j) → (∀ c, (c < a + 2 ∨ a + 8 ≤ c) → X1 c = X c) → mj_T (D + 2) mj_m2 2 [some (.ref a), some (.ref o), some (.int (jn (i : Int)))] [] h1 (fun z => ∃ (X2 : Nat → Nat → Int) (h2 : mj_H), jM g n V X2 h2 ∧ (∀ i, i < 6 → ∀ j, j < 13 → X2 (a + 2 + i) j = X (o + 2 + i) j) ∧ X2 a 3 = (p : Int) ∧ (∀ k, k < p → X2 (a + 8) k = X (o + 8) k ∧ X2 (a + 9) k = X (o + 9) k) ∧ (∀ c, (c < a ∨ a + 10 ≤ c) → X2 c = X c) ∧ z = (.inl none, h2))
  | 0, i, hi, X1, h1, m, e1, e2 => by
    have hfar := bns_far ka ko hao
    have lka := (mK_b ka).2.1
    have lko := (mK_b ko).2.1
    iterate 2 refine mj_T.pl rfl rfl rfl rfl ?_
    refine mT_get m 10 ka (by decide) rfl rfl ?_
    refine mT_alen m 6 (mK_b ka).1 (by decide) rfl ?_
    rw [(mK_b ka).2.1]
    refine mj_T.icmp (a := ((i : Nat) : Int)) (b := ((6 : Nat) : Int)) rfl ⟨by omega, by omega⟩ ⟨by omega, by omega⟩ (fun c1 => ?_) (fun c1 => ?_)
    · simp only [jc, Bool.not_eq_true', Bool.not_eq_false', decide_eq_true_eq, decide_eq_false_iff_not] at c1
      iterate 2 refine mj_T.pl rfl rfl rfl rfl ?_
      refine mT_put (v := 0) m 10 ka (by decide) rfl (by simp [jMf, xup]) (by simp [jMf]) rfl (fun h2 m3 => ?_)
      refine mj_T.pl rfl rfl rfl rfl ?_
      refine mj_T.pl (loc' := [some (.ref a), some (.ref o), some (.int (jn 0))]) rfl rfl rfl rfl ?_
      have hi6 : i = 6 := by omega
      subst hi6
      refine mj_T.eq (loc2 := [some (.ref a), some (.ref o), some (.int (jn ((0 : Nat) : Int)))]) ?_ rfl rfl rfl rfl
      refine mB_cp2 ka ko hao hp hp6 p 0 (by omega) _ _ m3 (fun c hc j hj => ?_) (xup_at _ _ _ _) (fun c hc => absurd hc (Nat.not_lt_zero c)) (fun c hc => ?_)
      · rw [xup_oth (by omega)]
        exact e1 c hc j hj
      · rw [xup_oth (by omega)]
        exact e2 c (by omega)
    · exfalso
      simp only [jc, Bool.not_eq_true', Bool.not_eq_false', decide_eq_true_eq, decide_eq_false_iff_not] at c1
      omega
  | k + 1, i, hi, X1, h1, m, e1, e2 => by
    have hfar := bns_far ka ko hao
    have lka := (mK_b ka).2.1
    have lko := (mK_b ko).2.1
    iterate 2 refine mj_T.pl rfl rfl rfl rfl ?_
    refine mT_get m 10 ka (by decide) rfl rfl ?_
    refine mT_alen m 6 (mK_b ka).1 (by decide) rfl ?_
    rw [(mK_b ka).2.1]
    refine mj_T.icmp (a := ((i : Nat) : Int)) (b := ((6 : Nat) : Int)) rfl ⟨by omega, by omega⟩ ⟨by omega, by omega⟩ (fun c1 => ?_) (fun c1 => ?_)
    · exfalso
      simp only [jc, Bool.not_eq_true', Bool.not_eq_false', decide_eq_true_eq, decide_eq_false_iff_not] at c1
      omega
    · simp only [jc, Bool.not_eq_true', Bool.not_eq_false', decide_eq_true_eq, decide_eq_false_iff_not] at c1
      iterate 2 refine mj_T.pl rfl rfl rfl rfl ?_
      refine mT_get m 10 ko (by decide) rfl rfl ?_
      refine mT_alen m 6 (mK_b ko).1 (by decide) rfl ?_
      rw [(mK_b ko).2.1]
      refine mj_T.icmp (a := ((i : Nat) : Int)) (b := ((6 : Nat) : Int)) rfl ⟨by omega, by omega⟩ ⟨by omega, by omega⟩ (fun c2 => ?_) (fun c2 => ?_)
      · exfalso
        simp only [jc, Bool.not_eq_true', Bool.not_eq_false', decide_eq_true_eq, decide_eq_false_iff_not] at c2
        omega
      · simp only [jc, Bool.not_eq_true', Bool.not_eq_false', decide_eq_true_eq, decide_eq_false_iff_not] at c2
        refine mj_T.pl rfl rfl rfl rfl ?_
        refine mT_get m 10 ko (by decide) rfl rfl ?_
        refine mj_T.pl rfl rfl rfl rfl ?_
        refine mT_aald m 6 (mK_b ko).1 (by decide) rfl rfl (by omega) ⟨by omega, by omega⟩ ?_
        refine mj_T.eq (st2 := [.ref (o + 2 + i)]) ?_ rfl rfl rfl rfl
        refine mj_T.pl rfl rfl rfl rfl ?_
        refine mT_get m 10 ka (by decide) rfl rfl ?_
        refine mj_T.pl rfl rfl rfl rfl ?_
        refine mT_aald m 6 (mK_b ka).1 (by decide) rfl rfl (by omega) ⟨by omega, by omega⟩ ?_
        refine mj_T.eq (st2 := [.ref (a + 2 + i), .ref (o + 2 + i)]) ?_ rfl rfl rfl rfl
        refine mj_T.call rfl rfl (Nat.le_of_ble_eq_true rfl) (Nat.le_of_ble_eq_true rfl) rfl rfl (mj_Ok.up (by omega) (mS_copy (D := 0) m ((mK_b ko).2.2 i (by omega)) ((mK_b ka).2.2 i (by omega)))) (fun v g3 hq => ?_) (fun i g3 hq => ?_)
        rotate_left
        · obtain ⟨_, _, hq⟩ := hq; cases hq
        obtain ⟨_, m4, hq⟩ := hq
        cases hq
        refine mj_T.eq (pc2 := 35) (st2 := []) ?_ rfl rfl rfl rfl
        refine mj_T.iinc rfl rfl ?_
        rw [show ((i : Nat) : Int) + 1 = ((i + 1 : Nat) : Int) by omega]
        refine mj_T.eq (loc2 := [some (.ref a), some (.ref o), some (.int (jn (((i + 1) : Nat) : Int)))]) ?_ rfl rfl rfl rfl
        refine mj_T.pl rfl rfl rfl rfl ?_
        refine mB_cp1 ka ko hao hp hp6 k (i + 1) (by omega) _ _ m4 (fun e he j hj => ?_) (fun c hc => ?_)
        · by_cases q : e = i
          · subst q
            rw [xfl_at _ _ _ hj, e2 (o + 2 + e) (by omega)]
          · rw [xfl_off _ _ _ (by omega)]
            exact e1 e (by omega) j hj
        · rw [xfl_off _ _ _ (by omega)]
          exact e2 c hc
theorem mB_copy (m : jM g n V X h) {p : Nat} (ka : cK a = 10) (ko : cK o = 10) (hao : a ≠ o) (hp : X o 3 = (p : Int)) (hp6 : p ≤ 6) : mj_Ok (D + 3) 2 [.ref a, .ref o] h (fun z => ∃ (X2 : Nat → Nat → Int) (h2 : mj_H), jM g n V X2 h2 ∧ (∀ i, i < 6 → ∀ j, j < 13 → X2 (a + 2 + i) j = X (o + 2 + i) j) ∧ X2 a 3 = (p : Int) ∧ (∀ k, k < p → X2 (a + 8) k = X (o + 8) k ∧ X2 (a + 9) k = X (o + 9) k) ∧ (∀ c, (c < a ∨ a + 10 ≤ c) → X2 c = X c) ∧ z = (.inl none, h2)) := by
  refine mj_Ok.of (M := mj_m2) rfl rfl rfl ?_
  refine mj_T.pl rfl rfl rfl rfl ?_
  refine mj_T.pl (loc' := [some (.ref a), some (.ref o), some (.int (jn 0))]) rfl rfl rfl rfl ?_
  exact mB_cp1 ka ko hao hp hp6 6 0 (by omega) X _ m (fun e he => absurd he (Nat.not_lt_zero e)) (fun _ _ => rfl)
end MBE
/-! The benches of the class: weights, bases of interpolation. -/
theorem rdf_18g {P : Nat → Int} {n : Nat} (g3 : ∀ i, i < n → -9 ≤ P i ∧ P i ≤ 9) (g4 : ∀ a b, a < b → b < n → P a ≠ P b) {i : Nat} (hi : i < n) : rdf (P i) P i n ∣ 6402373705728000 := by
  have hp := g3 i hi
  obtain ⟨x, hx⟩ : ∃ x : Nat, P i = (x : Int) - 9 := ⟨(P i + 9).toNat, by omega⟩
  have h1 := rpl_dvd x (by omega)
  rw [← hx] at h1
  refine Int.dvd_trans (rdf_dvd _ _ i n (rpl x) (fun j hj hne => ?_) (fun a b hab hb => g4 a b hab (by omega))) h1
  have hq := g3 j (by omega)
  refine List.mem_map.mpr ⟨(P j + 9).toNat, List.mem_filter.mpr ⟨List.mem_range.mpr (by omega), ?_⟩, by omega⟩
  have hd : P j ≠ P i := by
    rcases Nat.lt_or_gt_of_ne hne with c | c
    · exact g4 j i c (by omega)
    · exact fun e => g4 i j c (by omega) e.symm
  have : (P j + 9).toNat ≠ x := by omega
  simp [this]
/-- the points of a bench -/
def PT (X : Nat → Nat → Int) (o p : Nat) : Prop := X o 3 = (p : Int) ∧ p ≤ 6 ∧ (∀ i, i < p → (-9 ≤ X (o + 8) i ∧ X (o + 8) i ≤ 9) ∧ (-999 ≤ X (o + 9) i ∧ X (o + 9) i ≤ 999)) ∧ (∀ a b, a < b → b < p → X (o + 8) a ≠ X (o + 8) b)
/-- the weight of a point -/
def wgt (P : Nat → Int) (p i : Nat) : Int := rdf (P i) P i p
theorem PT.w {X : Nat → Nat → Int} {o p : Nat} (q : PT X o p) {i : Nat} (hi : i < p) : wgt (X (o + 8)) p i ≠ 0 ∧ (wgt (X (o + 8)) p i).natAbs ∣ 6402373705728000 ∧ (wgt (X (o + 8)) p i).natAbs ≤ 6402373705728000 := r18_bd (rdf_18g (fun j hj => (q.2.2.1 j hj).1) q.2.2.2 hi)
/-- the weights' common multiple, with a sign -/
def lcw (w : Nat → Int) : Nat → Int
  | 0 => 1
  | k + 1 => lcw w k * (w k).tdiv ((Nat.gcd (lcw w k).natAbs (w k).natAbs : Nat) : Int)
theorem lcw_lcm (w : Nat → Int) (k : Nat) : (lcw w (k + 1)).natAbs = Nat.lcm (lcw w k).natAbs (w k).natAbs := by
  show (lcw w k * (w k).tdiv ((Nat.gcd (lcw w k).natAbs (w k).natAbs : Nat) : Int)).natAbs = _
  rw [Int.natAbs_mul, Int.natAbs_tdiv, Int.natAbs_natCast]
  show _ = (lcw w k).natAbs * (w k).natAbs / Nat.gcd (lcw w k).natAbs (w k).natAbs
  rw [Nat.mul_div_assoc _ (Nat.gcd_dvd_right _ _)]
  rfl
theorem lcw_dvd {w : Nat → Int} {F : Nat} : ∀ k, (∀ i, i < k → (w i).natAbs ∣ F) → (lcw w k).natAbs ∣ F
  | 0, _ => by
    show (1 : Int).natAbs ∣ F
    exact Nat.one_dvd F
  | k + 1, h => by
    rw [lcw_lcm]
    exact Nat.lcm_dvd (lcw_dvd k (fun i hi => h i (by omega))) (h k (by omega))
theorem lcw_of (w : Nat → Int) : ∀ k i, i < k → (w i).natAbs ∣ (lcw w k).natAbs
  | 0, i, h => absurd h (Nat.not_lt_zero i)
  | k + 1, i, h => by
    rw [lcw_lcm]
    by_cases c : i = k
    · rw [c]
      exact Nat.dvd_lcm_right _ _
    · exact Nat.dvd_trans (lcw_of w k i (by omega)) (Nat.dvd_lcm_left _ _)
theorem dvd_18 {a : Nat} (h : a ∣ 6402373705728000) : 0 < a ∧ a ≤ 6402373705728000 := by
  refine ⟨Nat.pos_of_ne_zero (fun e => ?_), Nat.le_of_dvd (by decide) h⟩
  rw [e] at h
  exact absurd (Nat.eq_zero_of_zero_dvd h) (by decide)
theorem PT.l {X : Nat → Nat → Int} {o p : Nat} (q : PT X o p) {k : Nat} (hk : k ≤ p) : 0 < (lcw (wgt (X (o + 8)) p) k).natAbs ∧ (lcw (wgt (X (o + 8)) p) k).natAbs ≤ 6402373705728000 := dvd_18 (lcw_dvd k (fun i hi => (q.w (i := i) (by omega)).2.1))
/-- the product of the lines through the other places -/
def bsf (P : Nat → Int) (i : Nat) : Nat → Nat → Int
  | 0 => fun j => if j = 0 then 1 else 0
  | k + 1 => if k = i then bsf P i k else fun j => (if j = 0 then 0 else bsf P i k (j - 1)) - P k * bsf P i k j
section MBW
variable {g h : mj_H} {n D o r : Nat} {V : Nat → Int} {X : Nat → Nat → Int}
theorem mB_weight_loop (m : jM g n V X h) (ko : cK o = 10) {p i : Nat} (hp : PT X o p) (hi : i < p) : ∀ k c, c + k = p → mj_T (D + 1) mj_m7 5 [some (.ref o), some (.int (jn (i : Int))), some (.long (jl (rdf (X (o + 8) i) (X (o + 8)) i c))), none, some (.int (jn (((c : Nat)) : Int)))] [] h (fun z => z = (.inl (some (.long (jl (wgt (X (o + 8)) p i)))), h))
  | 0, c, hc => by
    have hp6 := hp.2.1
    have hpi := (hp.2.2.1 i hi).1
    iterate 2 refine mj_T.pl rfl rfl rfl rfl ?_
    refine mT_get (v := .int (jn ((p : Nat) : Int))) m 10 ko (by decide) rfl (congrArg (fun z : Int => some (Value.int (jn z))) (hp.1)) ?_
    refine mj_T.icmp (a := ((c : Nat) : Int)) (b := ((p : Nat) : Int)) rfl ⟨by omega, by omega⟩ ⟨by omega, by omega⟩ (fun c1 => ?_) (fun c1 => ?_)
    · simp only [jc, Bool.not_eq_true', Bool.not_eq_false', decide_eq_true_eq, decide_eq_false_iff_not] at c1
      refine mj_T.pl rfl rfl rfl rfl ?_
      have hcp : c = p := by omega
      subst hcp
      exact mj_T.ret rfl rfl rfl rfl
    · exfalso
      simp only [jc, Bool.not_eq_true', Bool.not_eq_false', decide_eq_true_eq, decide_eq_false_iff_not] at c1
      omega
  | k + 1, c, hc => by
    have hp6 := hp.2.1
    have hpi := (hp.2.2.1 i hi).1
    have hpc := (hp.2.2.1 c (by omega)).1
    iterate 2 refine mj_T.pl rfl rfl rfl rfl ?_
    refine mT_get (v := .int (jn ((p : Nat) : Int))) m 10 ko (by decide) rfl (congrArg (fun z : Int => some (Value.int (jn z))) (hp.1)) ?_
    refine mj_T.icmp (a := ((c : Nat) : Int)) (b := ((p : Nat) : Int)) rfl ⟨by omega, by omega⟩ ⟨by omega, by omega⟩ (fun c1 => ?_) (fun c1 => ?_)
    · exfalso
      simp only [jc, Bool.not_eq_true', Bool.not_eq_false', decide_eq_true_eq, decide_eq_false_iff_not] at c1
      omega
    · simp only [jc, Bool.not_eq_true', Bool.not_eq_false', decide_eq_true_eq, decide_eq_false_iff_not] at c1
      iterate 2 refine mj_T.pl rfl rfl rfl rfl ?_
      refine mj_T.icmp (a := ((c : Nat) : Int)) (b := ((i : Nat) : Int)) rfl ⟨by omega, by omega⟩ ⟨by omega, by omega⟩ (fun c2 => ?_) (fun c2 => ?_)
      · simp only [jc, Bool.not_eq_true', Bool.not_eq_false', decide_eq_true_eq, decide_eq_false_iff_not] at c2
        refine mj_T.iinc rfl rfl ?_
        rw [show ((c : Nat) : Int) + 1 = ((c + 1 : Nat) : Int) by omega]
        refine mj_T.eq (loc2 := [some (.ref o), some (.int (jn ((i : Nat) : Int))), some (.long (jl (rdf (X (o + 8) i) (X (o + 8)) i c))), none, some (.int (jn (((c + 1) : Nat) : Int)))]) ?_ rfl rfl rfl rfl
        refine mj_T.pl rfl rfl rfl rfl ?_
        refine mj_T.eq (loc2 := [some (.ref o), some (.int (jn (i : Int))), some (.long (jl (rdf (X (o + 8) i) (X (o + 8)) i (c + 1)))), none, some (.int (jn ((((c + 1) : Nat)) : Int)))]) ?_ rfl (by rw [show (rdf (X (o + 8) i) (X (o + 8)) i (c + 1)) = (rdf (X (o + 8) i) (X (o + 8)) i c) from if_pos (by omega)]) rfl rfl
        exact mB_weight_loop m ko hp hi k (c + 1) (by omega)
      · simp only [jc, Bool.not_eq_true', Bool.not_eq_false', decide_eq_true_eq, decide_eq_false_iff_not] at c2
        iterate 3 refine mj_T.pl rfl rfl rfl rfl ?_
        refine mj_T.call rfl rfl (Nat.le_of_ble_eq_true rfl) (Nat.le_of_ble_eq_true rfl) (mV_of m 10 ko (by decide) rfl (by decide) rfl _) rfl (mj_Ok.up (by omega) (mB_place (D := 0) (i := i) m ko (by omega))) (fun v g3 hq => ?_) (fun i g3 hq => ?_)
        rotate_left
        · cases hq
        cases hq
        refine mj_T.eq (pc2 := 26) (st2 := [.int (jn (X (o + 8) i)), .long (jl (rdf (X (o + 8) i) (X (o + 8)) i c))]) ?_ rfl rfl rfl rfl
        iterate 2 refine mj_T.pl rfl rfl rfl rfl ?_
        refine mj_T.call rfl rfl (Nat.le_of_ble_eq_true rfl) (Nat.le_of_ble_eq_true rfl) (mV_of m 10 ko (by decide) rfl (by decide) rfl _) rfl (mj_Ok.up (by omega) (mB_place (D := 0) (i := c) m ko (by omega))) (fun v g4 hq => ?_) (fun i g4 hq => ?_)
        rotate_left
        · cases hq
        cases hq
        refine mj_T.eq (pc2 := 32) (st2 := [.int (jn (X (o + 8) c)), .int (jn (X (o + 8) i)), .long (jl (rdf (X (o + 8) i) (X (o + 8)) i c))]) ?_ rfl rfl rfl rfl
        refine mj_T.isub (a := (X (o + 8) i)) (b := (X (o + 8) c)) rfl ?_
        refine mj_T.i2l rfl ⟨by omega, by omega⟩ ?_
        refine mj_T.lmul (a := (rdf (X (o + 8) i) (X (o + 8)) i c)) (b := ((X (o + 8) i) - (X (o + 8) c))) rfl ?_
        refine mj_T.pl (loc' := [some (.ref o), some (.int (jn ((i : Nat) : Int))), some (.long (jl ((rdf (X (o + 8) i) (X (o + 8)) i c) * ((X (o + 8) i) - (X (o + 8) c))))), none, some (.int (jn ((c : Nat) : Int)))]) rfl rfl rfl rfl ?_
        refine mj_T.iinc rfl rfl ?_
        rw [show ((c : Nat) : Int) + 1 = ((c + 1 : Nat) : Int) by omega]
        refine mj_T.eq (loc2 := [some (.ref o), some (.int (jn ((i : Nat) : Int))), some (.long (jl ((rdf (X (o + 8) i) (X (o + 8)) i c) * ((X (o + 8) i) - (X (o + 8) c))))), none, some (.int (jn (((c + 1) : Nat) : Int)))]) ?_ rfl rfl rfl rfl
        refine mj_T.pl rfl rfl rfl rfl ?_
        refine mj_T.eq (loc2 := [some (.ref o), some (.int (jn (i : Int))), some (.long (jl (rdf (X (o + 8) i) (X (o + 8)) i (c + 1)))), none, some (.int (jn ((((c + 1) : Nat)) : Int)))]) ?_ rfl (by rw [show (rdf (X (o + 8) i) (X (o + 8)) i (c + 1)) = ((rdf (X (o + 8) i) (X (o + 8)) i c) * ((X (o + 8) i) - (X (o + 8) c))) from if_neg (by omega)]) rfl rfl
        exact mB_weight_loop m ko hp hi k (c + 1) (by omega)
theorem mB_weight (m : jM g n V X h) (ko : cK o = 10) {p i : Nat} (hp : PT X o p) (hi : i < p) : mj_Ok (D + 2) 7 [.ref o, .int (jn (i : Int))] h (fun z => z = (.inl (some (.long (jl (wgt (X (o + 8)) p i)))), h)) := by
  refine mj_Ok.of (M := mj_m7) rfl rfl rfl ?_
  refine jT.lc 1 rfl rfl ?_
  refine mj_T.pl (loc' := [some (.ref o), some (.int (jn ((i : Nat) : Int))), some (.long (jl ((1 : Nat) : Int))), none, none]) rfl rfl rfl rfl ?_
  refine mj_T.pl rfl rfl rfl rfl ?_
  refine mj_T.pl (loc' := [some (.ref o), some (.int (jn ((i : Nat) : Int))), some (.long (jl ((1 : Nat) : Int))), none, some (.int (jn 0))]) rfl rfl rfl rfl ?_
  exact mB_weight_loop m ko hp hi p 0 (by omega)
theorem mB_common_loop (m : jM g n V X h) (ko : cK o = 10) {p : Nat} (hp : PT X o p) : ∀ k i, i + k = p → ∀ l4 l6, mj_T (D + 2) mj_m8 4 [some (.ref o), some (.long (jl (lcw (wgt (X (o + 8)) p) i))), none, some (.int (jn (((i : Nat)) : Int))), l4, none, l6, none] [] h (fun z => z = (.inl (some (.long (jl (((lcw (wgt (X (o + 8)) p) p).natAbs : Nat) : Int)))), h))
  | 0, i, hi, l4, l6 => by
    have hip : i = p := by omega
    rw [← hip] at hp ⊢
    have hp6 := hp.2.1
    have hl := hp.l (k := i) (by omega)
    iterate 2 refine mj_T.pl rfl rfl rfl rfl ?_
    refine mT_get (v := .int (jn ((i : Nat) : Int))) m 10 ko (by decide) rfl (congrArg (fun z : Int => some (Value.int (jn z))) (hp.1)) ?_
    refine mj_T.icmp (a := ((i : Nat) : Int)) (b := ((i : Nat) : Int)) rfl ⟨by omega, by omega⟩ ⟨by omega, by omega⟩ (fun c1 => ?_) (fun c1 => ?_)
    · simp only [jc, Bool.not_eq_true', Bool.not_eq_false', decide_eq_true_eq, decide_eq_false_iff_not] at c1
      refine mj_T.pl rfl rfl rfl rfl ?_
      refine jT.lc 0 rfl rfl ?_
      refine mj_T.lif (a := (lcw (wgt (X (o + 8)) i) i)) (b := ((0 : Nat) : Int)) rfl rfl ⟨by omega, by omega⟩ ⟨by omega, by omega⟩ (fun c2 => ?_) (fun c2 => ?_)
      · simp only [jc, Bool.not_eq_true', Bool.not_eq_false', decide_eq_true_eq, decide_eq_false_iff_not] at c2
        refine mj_T.pl rfl rfl rfl rfl ?_
        exact mj_T.ret rfl rfl rfl (congrArg (fun z : Int => ((.inl (some (Value.long (jl z))), h) : mj_R)) (show (lcw (wgt (X (o + 8)) i) i) = (((lcw (wgt (X (o + 8)) i) i).natAbs : Nat) : Int) by omega))
      · simp only [jc, Bool.not_eq_true', Bool.not_eq_false', decide_eq_true_eq, decide_eq_false_iff_not] at c2
        refine mj_T.pl rfl rfl rfl rfl ?_
        refine mj_T.lneg rfl ?_
        refine mj_T.pl rfl rfl rfl rfl ?_
        exact mj_T.ret rfl rfl rfl (congrArg (fun z : Int => ((.inl (some (Value.long (jl z))), h) : mj_R)) (show (-(lcw (wgt (X (o + 8)) i) i)) = (((lcw (wgt (X (o + 8)) i) i).natAbs : Nat) : Int) by omega))
    · exfalso
      simp only [jc, Bool.not_eq_true', Bool.not_eq_false', decide_eq_true_eq, decide_eq_false_iff_not] at c1
      omega
  | k + 1, i, hi, l4, l6 => by
    have hp6 := hp.2.1
    have hl := hp.l (k := i) (by omega)
    have hw := hp.w (i := i) (by omega)
    have hg0 : 0 < (Nat.gcd (lcw (wgt (X (o + 8)) p) i).natAbs (wgt (X (o + 8)) p i).natAbs) := Nat.gcd_pos_of_pos_left _ hl.1
    have hg1 : (Nat.gcd (lcw (wgt (X (o + 8)) p) i).natAbs (wgt (X (o + 8)) p i).natAbs) ≤ (lcw (wgt (X (o + 8)) p) i).natAbs := Nat.le_of_dvd hl.1 (Nat.gcd_dvd_left _ _)
    iterate 2 refine mj_T.pl rfl rfl rfl rfl ?_
    refine mT_get (v := .int (jn ((p : Nat) : Int))) m 10 ko (by decide) rfl (congrArg (fun z : Int => some (Value.int (jn z))) (hp.1)) ?_
    refine mj_T.icmp (a := ((i : Nat) : Int)) (b := ((p : Nat) : Int)) rfl ⟨by omega, by omega⟩ ⟨by omega, by omega⟩ (fun c1 => ?_) (fun c1 => ?_)
    · exfalso
      simp only [jc, Bool.not_eq_true', Bool.not_eq_false', decide_eq_true_eq, decide_eq_false_iff_not] at c1
      omega
    · simp only [jc, Bool.not_eq_true', Bool.not_eq_false', decide_eq_true_eq, decide_eq_false_iff_not] at c1
      iterate 2 refine mj_T.pl rfl rfl rfl rfl ?_
      refine mj_T.call rfl rfl (Nat.le_of_ble_eq_true rfl) (Nat.le_of_ble_eq_true rfl) (mV_of m 10 ko (by decide) rfl (by decide) rfl _) rfl (mj_Ok.up (by omega) (mB_weight (D := 0) m ko hp (i := i) (by omega))) (fun v g2 hq => ?_) (fun i g2 hq => ?_)
      rotate_left
      · cases hq
      cases hq
      refine mj_T.eq (pc2 := 17) (st2 := [.long (jl (wgt (X (o + 8)) p i))]) ?_ rfl rfl rfl rfl
      refine mj_T.pl (loc' := [some (.ref o), some (.long (jl (lcw (wgt (X (o + 8)) p) i))), none, some (.int (jn ((i : Nat) : Int))), some (.long (jl (wgt (X (o + 8)) p i))), none, l6, none]) rfl rfl rfl rfl ?_
      iterate 2 refine mj_T.pl rfl rfl rfl rfl ?_
      refine mj_T.call rfl rfl (Nat.le_of_ble_eq_true rfl) (Nat.le_of_ble_eq_true rfl) rfl rfl (mj_Ok.up (by omega) (mS_common (D := 0) (by omega) (by omega))) (fun v g3 hq => ?_) (fun i g3 hq => ?_)
      rotate_left
      · cases hq
      cases hq
      refine mj_T.eq (pc2 := 25) (st2 := [.long (jl (((Nat.gcd (lcw (wgt (X (o + 8)) p) i).natAbs (wgt (X (o + 8)) p i).natAbs) : Nat) : Int))]) ?_ rfl rfl rfl rfl
      refine mj_T.pl (loc' := [some (.ref o), some (.long (jl (lcw (wgt (X (o + 8)) p) i))), none, some (.int (jn ((i : Nat) : Int))), some (.long (jl (wgt (X (o + 8)) p i))), none, some (.long (jl (((Nat.gcd (lcw (wgt (X (o + 8)) p) i).natAbs (wgt (X (o + 8)) p i).natAbs) : Nat) : Int))), none]) rfl rfl rfl rfl ?_
      iterate 2 refine mj_T.pl rfl rfl rfl rfl ?_
      refine jT.lc 0 rfl rfl ?_
      refine mj_T.lif (a := (((Nat.gcd (lcw (wgt (X (o + 8)) p) i).natAbs (wgt (X (o + 8)) p i).natAbs) : Nat) : Int)) (b := ((0 : Nat) : Int)) rfl rfl ⟨by omega, by omega⟩ ⟨by omega, by omega⟩ (fun c4 => ?_) (fun c4 => ?_)
      · simp only [jc, Bool.not_eq_true', Bool.not_eq_false', decide_eq_true_eq, decide_eq_false_iff_not] at c4
        iterate 2 refine mj_T.pl rfl rfl rfl rfl ?_
        refine mj_T.ldiv rfl ⟨by omega, by omega⟩ ⟨by omega, by omega⟩ (by omega) ?_
        refine mj_T.lmul (a := (lcw (wgt (X (o + 8)) p) i)) (b := ((wgt (X (o + 8)) p i).tdiv (((Nat.gcd (lcw (wgt (X (o + 8)) p) i).natAbs (wgt (X (o + 8)) p i).natAbs) : Nat) : Int))) rfl ?_
        refine mj_T.pl (loc' := [some (.ref o), some (.long (jl ((lcw (wgt (X (o + 8)) p) i) * ((wgt (X (o + 8)) p i).tdiv (((Nat.gcd (lcw (wgt (X (o + 8)) p) i).natAbs (wgt (X (o + 8)) p i).natAbs) : Nat) : Int))))), none, some (.int (jn ((i : Nat) : Int))), some (.long (jl (wgt (X (o + 8)) p i))), none, some (.long (jl (((Nat.gcd (lcw (wgt (X (o + 8)) p) i).natAbs (wgt (X (o + 8)) p i).natAbs) : Nat) : Int))), none]) rfl rfl rfl rfl ?_
        refine mj_T.iinc rfl rfl ?_
        rw [show ((i : Nat) : Int) + 1 = ((i + 1 : Nat) : Int) by omega]
        refine mj_T.eq (loc2 := [some (.ref o), some (.long (jl ((lcw (wgt (X (o + 8)) p) i) * ((wgt (X (o + 8)) p i).tdiv (((Nat.gcd (lcw (wgt (X (o + 8)) p) i).natAbs (wgt (X (o + 8)) p i).natAbs) : Nat) : Int))))), none, some (.int (jn (((i + 1) : Nat) : Int))), some (.long (jl (wgt (X (o + 8)) p i))), none, some (.long (jl (((Nat.gcd (lcw (wgt (X (o + 8)) p) i).natAbs (wgt (X (o + 8)) p i).natAbs) : Nat) : Int))), none]) ?_ rfl rfl rfl rfl
        refine mj_T.pl rfl rfl rfl rfl ?_
        exact mB_common_loop m ko hp k (i + 1) (by omega) _ _
      · exfalso
        simp only [jc, Bool.not_eq_true', Bool.not_eq_false', decide_eq_true_eq, decide_eq_false_iff_not] at c4
        omega
theorem mB_common (m : jM g n V X h) (ko : cK o = 10) {p : Nat} (hp : PT X o p) : mj_Ok (D + 3) 8 [.ref o] h (fun z => z = (.inl (some (.long (jl (((lcw (wgt (X (o + 8)) p) p).natAbs : Nat) : Int)))), h)) := by
  refine mj_Ok.of (M := mj_m8) rfl rfl rfl ?_
  refine jT.lc 1 rfl rfl ?_
  refine mj_T.pl (loc' := [some (.ref o), some (.long (jl ((1 : Nat) : Int))), none, none, none, none, none, none]) rfl rfl rfl rfl ?_
  refine mj_T.pl rfl rfl rfl rfl ?_
  refine mj_T.pl (loc' := [some (.ref o), some (.long (jl ((1 : Nat) : Int))), none, some (.int (jn 0)), none, none, none, none]) rfl rfl rfl rfl ?_
  exact mB_common_loop m ko hp p 0 (by omega) _ _
theorem mB_basis_in (ko : cK o = 10) (kr : cK r = 2) {p i : Nat} (hp : PT X o p) (hi : i < p) {c : Nat} (hc : c < p) (hci : c ≠ i) (hro : o ≠ r) (hrp : o + 8 ≠ r) {Q : mj_R → Prop} (hend : ∀ (X2 : Nat → Nat → Int) (h2 : mj_H) (l4 : Option Value), jM g n V X2 h2 → (∀ j, j < 13 → X2 r j = bsf (X (o + 8)) i (c + 1) j) → (∀ c, c ≠ r → X2 c = X c) → mj_T (D + 1) mj_m9 71 [some (.ref o), some (.int (jn (i : Int))), some (.ref r), some (.int (jn (((c : Nat)) : Int))), l4] [] h2 Q) : ∀ k, k ≤ 13 → ∀ (X1 : Nat → Nat → Int) (h1 : mj_H), jM g n V X1 h1 → (∀ j, j < 13 → X1 r j = if k ≤ j then bsf (X (o + 8)) i (c + 1) j else bsf (X (o + 8)) i c j) → (∀ c, c ≠ r → X1 c = X c) → mj_T (D + 1) mj_m9 29 [some (.ref o), some (.int (jn (i : Int))), some (.ref r), some (.int (jn (((c : Nat)) : Int))), some (.int (jn ((((k : Nat)) : Int) - 1)))] [] h1 Q
  | 0, hk, X1, h1, m, e1, e2 => by
    refine mj_T.pl rfl rfl rfl rfl ?_
    refine mj_T.if0 (a := (((0 : Nat) : Int) - 1)) rfl ⟨by omega, by omega⟩ (fun c1 => ?_) (fun c1 => ?_)
    · simp only [jc, Bool.not_eq_true', Bool.not_eq_false', decide_eq_true_eq, decide_eq_false_iff_not] at c1
      exact hend _ _ _ m (fun j hj => (e1 j hj).trans (if_pos (by omega))) e2
    · exfalso
      simp only [jc, Bool.not_eq_true', Bool.not_eq_false', decide_eq_true_eq, decide_eq_false_iff_not] at c1
      omega
  | k + 1, hk, X1, h1, m, e1, e2 => by
    have hp6 := hp.2.1
    have hpc : -9 ≤ X1 (o + 8) c ∧ X1 (o + 8) c ≤ 9 := by
      rw [congrFun (e2 (o + 8) hrp) c]
      exact (hp.2.2.1 c (by omega)).1
    rw [show (((k + 1 : Nat)) : Int) - 1 = ((k : Nat) : Int) by omega]
    refine mj_T.pl rfl rfl rfl rfl ?_
    refine mj_T.if0 (a := ((k : Nat) : Int)) rfl ⟨by omega, by omega⟩ (fun c1 => ?_) (fun c1 => ?_)
    · exfalso
      simp only [jc, Bool.not_eq_true', Bool.not_eq_false', decide_eq_true_eq, decide_eq_false_iff_not] at c1
      omega
    · simp only [jc, Bool.not_eq_true', Bool.not_eq_false', decide_eq_true_eq, decide_eq_false_iff_not] at c1
      iterate 3 refine mj_T.pl rfl rfl rfl rfl ?_
      refine mj_T.if0 (a := ((k : Nat) : Int)) rfl ⟨by omega, by omega⟩ (fun c2 => ?_) (fun c2 => ?_)
      · simp only [jc, Bool.not_eq_true', Bool.not_eq_false', decide_eq_true_eq, decide_eq_false_iff_not] at c2
        refine jT.lc 0 rfl rfl ?_
        iterate 2 refine mj_T.pl rfl rfl rfl rfl ?_
        refine mj_T.call rfl rfl (Nat.le_of_ble_eq_true rfl) (Nat.le_of_ble_eq_true rfl) (mV_of m 10 ko (by decide) rfl (by decide) rfl _) rfl (mj_Ok.up (by omega) (mB_place (D := 0) (i := c) m ko (by omega))) (fun v g3 hq => ?_) (fun i g3 hq => ?_)
        rotate_left
        · cases hq
        cases hq
        refine mj_T.eq (pc2 := 57) (st2 := [.int (jn (X1 (o + 8) c)), .long (jl ((0 : Nat) : Int)), .int (jn ((k : Nat) : Int)), .ref r]) ?_ rfl rfl rfl rfl
        refine mj_T.i2l rfl ⟨by omega, by omega⟩ ?_
        iterate 2 refine mj_T.pl rfl rfl rfl rfl ?_
        refine mT_lald m kr rfl ⟨by omega, by omega⟩ ?_
        refine mj_T.eq (st2 := [.long (jl (X1 r k)), .long (jl (X1 (o + 8) c)), .long (jl ((0 : Nat) : Int)), .int (jn ((k : Nat) : Int)), .ref r]) ?_ rfl rfl rfl rfl
        refine mj_T.lmul (a := (X1 (o + 8) c)) (b := (X1 r k)) rfl ?_
        refine mj_T.lsub (a := ((0 : Nat) : Int)) (b := ((X1 (o + 8) c) * (X1 r k))) rfl ?_
        refine mT_last (v := (((0 : Nat) : Int) - ((X1 (o + 8) c) * (X1 r k)))) m kr rfl ⟨by omega, by omega⟩ (fun h4 m5 => ?_)
        refine mj_T.iinc rfl rfl ?_
        refine mj_T.eq (loc2 := [some (.ref o), some (.int (jn ((i : Nat) : Int))), some (.ref r), some (.int (jn ((c : Nat) : Int))), some (.int (jn (((k : Nat) : Int) + (-1))))]) ?_ rfl rfl rfl rfl
        refine mj_T.pl rfl rfl rfl rfl ?_
        rw [show ((k : Nat) : Int) + (-1) = ((k : Nat) : Int) - 1 by omega]
        refine mB_basis_in ko kr hp hi hc hci hro hrp hend k (by omega) (xup X1 r k (((0 : Nat) : Int) - ((X1 (o + 8) c) * (X1 r k)))) _ m5 (fun j hj => ?_) (fun c hcr => (xup_oth hcr).trans (e2 c hcr))
        by_cases q : j = k
        · subst q
          rw [xup_at, if_pos (Nat.le_refl _), show bsf (X (o + 8)) i (c + 1) j = (if j = 0 then 0 else bsf (X (o + 8)) i c (j - 1)) - X (o + 8) c * bsf (X (o + 8)) i c j from congrFun (if_neg hci) j, congrFun (e2 (o + 8) hrp) c]
          have y1 := (e1 j hj).trans (if_neg (by omega))
          rw [y1, if_pos (by omega)]
          omega
        · rw [xup_ne _ _ (Or.inr q), e1 j hj]
          by_cases y : k + 1 ≤ j
          · rw [if_pos y, if_pos (by omega)]
          · rw [if_neg y, if_neg (by omega)]
      · simp only [jc, Bool.not_eq_true', Bool.not_eq_false', decide_eq_true_eq, decide_eq_false_iff_not] at c2
        iterate 3 refine mj_T.pl rfl rfl rfl rfl ?_
        refine mj_T.isub (a := ((k : Nat) : Int)) (b := 1) rfl ?_
        refine mT_lald m kr rfl ⟨by omega, by omega⟩ ?_
        iterate 3 refine mj_T.pl rfl rfl rfl rfl ?_
        refine mj_T.call rfl rfl (Nat.le_of_ble_eq_true rfl) (Nat.le_of_ble_eq_true rfl) (mV_of m 10 ko (by decide) rfl (by decide) rfl _) rfl (mj_Ok.up (by omega) (mB_place (D := 0) (i := c) m ko (by omega))) (fun v g6 hq => ?_) (fun i g6 hq => ?_)
        rotate_left
        · cases hq
        cases hq
        refine mj_T.eq (pc2 := 57) (st2 := [.int (jn (X1 (o + 8) c)), .long (jl (X1 r (((((k : Nat) : Int) - 1) : Int).toNat))), .int (jn ((k : Nat) : Int)), .ref r]) ?_ rfl rfl rfl rfl
        refine mj_T.i2l rfl ⟨by omega, by omega⟩ ?_
        iterate 2 refine mj_T.pl rfl rfl rfl rfl ?_
        refine mT_lald m kr rfl ⟨by omega, by omega⟩ ?_
        refine mj_T.eq (st2 := [.long (jl (X1 r k)), .long (jl (X1 (o + 8) c)), .long (jl (X1 r (((((k : Nat) : Int) - 1) : Int).toNat))), .int (jn ((k : Nat) : Int)), .ref r]) ?_ rfl rfl rfl rfl
        refine mj_T.lmul (a := (X1 (o + 8) c)) (b := (X1 r k)) rfl ?_
        refine mj_T.lsub (a := (X1 r (((((k : Nat) : Int) - 1) : Int).toNat))) (b := ((X1 (o + 8) c) * (X1 r k))) rfl ?_
        refine mT_last (v := ((X1 r (((((k : Nat) : Int) - 1) : Int).toNat)) - ((X1 (o + 8) c) * (X1 r k)))) m kr rfl ⟨by omega, by omega⟩ (fun h7 m8 => ?_)
        refine mj_T.iinc rfl rfl ?_
        refine mj_T.eq (loc2 := [some (.ref o), some (.int (jn ((i : Nat) : Int))), some (.ref r), some (.int (jn ((c : Nat) : Int))), some (.int (jn (((k : Nat) : Int) + (-1))))]) ?_ rfl rfl rfl rfl
        refine mj_T.pl rfl rfl rfl rfl ?_
        rw [show ((k : Nat) : Int) + (-1) = ((k : Nat) : Int) - 1 by omega]
        refine mB_basis_in ko kr hp hi hc hci hro hrp hend k (by omega) (xup X1 r k ((X1 r (((((k : Nat) : Int) - 1) : Int).toNat)) - ((X1 (o + 8) c) * (X1 r k)))) _ m8 (fun j hj => ?_) (fun c hcr => (xup_oth hcr).trans (e2 c hcr))
        by_cases q : j = k
        · subst q
          rw [xup_at, if_pos (Nat.le_refl _), show bsf (X (o + 8)) i (c + 1) j = (if j = 0 then 0 else bsf (X (o + 8)) i c (j - 1)) - X (o + 8) c * bsf (X (o + 8)) i c j from congrFun (if_neg hci) j, congrFun (e2 (o + 8) hrp) c]
          have y1 := (e1 j hj).trans (if_neg (by omega))
          have y2 := (e1 (j - 1) (by omega)).trans (if_neg (by omega))
          rw [y1, if_neg (by omega), show (((j : Nat) : Int) - 1).toNat = j - 1 by omega, y2]
        · rw [xup_ne _ _ (Or.inr q), e1 j hj]
          by_cases y : k + 1 ≤ j
          · rw [if_pos y, if_pos (by omega)]
          · rw [if_neg y, if_neg (by omega)]
theorem mB_basis_out (ko : cK o = 10) (kr : cK r = 2) {p i : Nat} (hp : PT X o p) (hi : i < p) (hro : o ≠ r) (hrp : o + 8 ≠ r) : ∀ k c, c + k = p → ∀ (X1 : Nat → Nat → Int) (h1 : mj_H) (l4 : Option Value), jM g n V X1 h1 → (∀ j, j < 13 → X1 r j = bsf (X (o + 8)) i c j) → (∀ c, c ≠ r → X1 c = X c) → mj_T (D + 1) mj_m9 10 [some (.ref o), some (.int (jn (i : Int))), some (.ref r), some (.int (jn (((c : Nat)) : Int))), l4] [] h1 (fun z => ∃ (X2 : Nat → Nat → Int) (h2 : mj_H), jM g n V X2 h2 ∧ (∀ j, j < 13 → X2 r j = bsf (X (o + 8)) i p j) ∧ (∀ c, c ≠ r → X2 c = X c) ∧ z = (.inl none, h2))
  | 0, c, hc, X1, h1, l4, m, e1, e2 => by
    have hp6 := hp.2.1
    iterate 2 refine mj_T.pl rfl rfl rfl rfl ?_
    refine mT_get (v := .int (jn ((p : Nat) : Int))) m 10 ko (by decide) rfl (congrArg (fun z : Int => some (Value.int (jn z))) ((congrFun (e2 o hro) 3).trans hp.1)) ?_
    refine mj_T.icmp (a := ((c : Nat) : Int)) (b := ((p : Nat) : Int)) rfl ⟨by omega, by omega⟩ ⟨by omega, by omega⟩ (fun c1 => ?_) (fun c1 => ?_)
    · simp only [jc, Bool.not_eq_true', Bool.not_eq_false', decide_eq_true_eq, decide_eq_false_iff_not] at c1
      have hcp : c = p := by omega
      subst hcp
      exact mj_T.ret rfl rfl rfl ⟨_, _, m, e1, e2, rfl⟩
    · exfalso
      simp only [jc, Bool.not_eq_true', Bool.not_eq_false', decide_eq_true_eq, decide_eq_false_iff_not] at c1
      omega
  | k + 1, c, hc, X1, h1, l4, m, e1, e2 => by
    have hp6 := hp.2.1
    iterate 2 refine mj_T.pl rfl rfl rfl rfl ?_
    refine mT_get (v := .int (jn ((p : Nat) : Int))) m 10 ko (by decide) rfl (congrArg (fun z : Int => some (Value.int (jn z))) ((congrFun (e2 o hro) 3).trans hp.1)) ?_
    refine mj_T.icmp (a := ((c : Nat) : Int)) (b := ((p : Nat) : Int)) rfl ⟨by omega, by omega⟩ ⟨by omega, by omega⟩ (fun c1 => ?_) (fun c1 => ?_)
    · exfalso
      simp only [jc, Bool.not_eq_true', Bool.not_eq_false', decide_eq_true_eq, decide_eq_false_iff_not] at c1
      omega
    · simp only [jc, Bool.not_eq_true', Bool.not_eq_false', decide_eq_true_eq, decide_eq_false_iff_not] at c1
      iterate 2 refine mj_T.pl rfl rfl rfl rfl ?_
      refine mj_T.icmp (a := ((c : Nat) : Int)) (b := ((i : Nat) : Int)) rfl ⟨by omega, by omega⟩ ⟨by omega, by omega⟩ (fun c2 => ?_) (fun c2 => ?_)
      · simp only [jc, Bool.not_eq_true', Bool.not_eq_false', decide_eq_true_eq, decide_eq_false_iff_not] at c2
        refine mj_T.iinc rfl rfl ?_
        rw [show ((c : Nat) : Int) + 1 = ((c + 1 : Nat) : Int) by omega]
        refine mj_T.eq (loc2 := [some (.ref o), some (.int (jn ((i : Nat) : Int))), some (.ref r), some (.int (jn (((c + 1) : Nat) : Int))), l4]) ?_ rfl rfl rfl rfl
        refine mj_T.pl rfl rfl rfl rfl ?_
        exact mB_basis_out ko kr hp hi hro hrp k (c + 1) (by omega) _ _ _ m (fun j hj => (e1 j hj).trans (congrFun (if_pos (by omega)) j).symm) e2
      · simp only [jc, Bool.not_eq_true', Bool.not_eq_false', decide_eq_true_eq, decide_eq_false_iff_not] at c2
        refine mj_T.pl rfl rfl rfl rfl ?_
        refine mT_llen m kr rfl ?_
        refine mj_T.pl rfl rfl rfl rfl ?_
        refine mj_T.isub (a := ((13 : Nat) : Int)) (b := 1) rfl ?_
        refine mj_T.pl (loc' := [some (.ref o), some (.int (jn ((i : Nat) : Int))), some (.ref r), some (.int (jn ((c : Nat) : Int))), some (.int (jn (((13 : Nat) : Int) - 1)))]) rfl rfl rfl rfl ?_
        refine mB_basis_in ko kr hp hi (c := c) (by omega) (by omega) hro hrp (fun X2 h2 l4 m2 y1 y2 => ?_) 13 (by omega) _ _ m (fun j hj => (e1 j hj).trans (if_neg (by omega)).symm) e2
        refine mj_T.iinc rfl rfl ?_
        rw [show ((c : Nat) : Int) + 1 = ((c + 1 : Nat) : Int) by omega]
        refine mj_T.eq (loc2 := [some (.ref o), some (.int (jn ((i : Nat) : Int))), some (.ref r), some (.int (jn (((c + 1) : Nat) : Int))), l4]) ?_ rfl rfl rfl rfl
        refine mj_T.pl rfl rfl rfl rfl ?_
        exact mB_basis_out ko kr hp hi hro hrp k (c + 1) (by omega) _ _ _ m2 y1 y2
theorem mB_basis (m : jM g n V X h) (ko : cK o = 10) (kr : cK r = 2) {p i : Nat} (hp : PT X o p) (hi : i < p) (hro : o ≠ r) (hrp : o + 8 ≠ r) : mj_Ok (D + 2) 9 [.ref o, .int (jn (i : Int)), .ref r] h (fun z => ∃ (X2 : Nat → Nat → Int) (h2 : mj_H), jM g n V X2 h2 ∧ (∀ j, j < 13 → X2 r j = bsf (X (o + 8)) i p j) ∧ (∀ c, c ≠ r → X2 c = X c) ∧ z = (.inl none, h2)) := by
  refine mj_Ok.of (M := mj_m9) rfl rfl rfl ?_
  refine mj_T.pl rfl rfl rfl rfl ?_
  refine mj_T.call rfl rfl (Nat.le_of_ble_eq_true rfl) (Nat.le_of_ble_eq_true rfl) rfl rfl (mj_Ok.up (by omega) (mS_clear (D := 0) m kr)) (fun v g1 hq => ?_) (fun i g1 hq => ?_)
  rotate_left
  · obtain ⟨_, _, hq⟩ := hq; cases hq
  obtain ⟨_, m2, hq⟩ := hq
  cases hq
  refine mj_T.eq (pc2 := 4) (st2 := []) ?_ rfl rfl rfl rfl
  iterate 2 refine mj_T.pl rfl rfl rfl rfl ?_
  refine jT.lc 1 rfl rfl ?_
  refine mT_last (v := ((1 : Nat) : Int)) m2 kr rfl ⟨by omega, by omega⟩ (fun h3 m4 => ?_)
  refine mj_T.pl rfl rfl rfl rfl ?_
  refine mj_T.pl (loc' := [some (.ref o), some (.int (jn ((i : Nat) : Int))), some (.ref r), some (.int (jn 0)), none]) rfl rfl rfl rfl ?_
  refine mB_basis_out ko kr hp hi hro hrp p 0 (by omega) (xup (xfl X r (fun _ => 0) 13) r 0 ((1 : Nat) : Int)) _ _ m4 (fun j hj => ?_) (fun c hc => (xup_oth hc).trans (xfl_off _ _ _ hc))
  show _ = if j = 0 then 1 else 0
  by_cases q : j = 0
  · rw [q, xup_at, if_pos rfl]
    rfl
  · rw [xup_ne _ _ (Or.inr q), xfl_at _ _ _ hj, if_neg q]
end MBW
/-! The class: what is thrown, registers, checks. -/
/-- the cell of what was thrown -/
abbrev xE : mj_E := .inr (99, [.null, .null, .null, .null, .null, .null])
theorem cq_d1 : cK 1 = 19 := by decide +kernel
theorem cq_l12 : cL 12 = 8 := by decide +kernel
theorem cq_eb : ∀ e, e < 8 → cK (483 + 10 * e) = 10 := by decide +kernel
theorem jMk_mono {V : Nat → Int} {X : Nat → Nat → Int} {h h' : mj_H} {k a : Nat} (hm : ∀ (x : Nat) (e : mj_E), h[x]? = some e → h'[x]? = some e) (q : jMk V X h k a) : jMk V X h' k a := by
  unfold jMk at q ⊢
  by_cases k0 : k = 0
  · rw [if_pos k0]
    trivial
  rw [if_neg k0] at q ⊢
  by_cases k18 : k = 18
  · rw [if_pos k18] at q ⊢
    obtain ⟨⟨q1, s0, g0, hs, a1, a2⟩, q2⟩ := q
    refine ⟨⟨q1, s0, g0, hs, hm _ _ a1, hm _ _ a2⟩, fun y => ?_⟩
    obtain ⟨f, b1, b2, b3, b4⟩ := q2 y
    exact ⟨f, hm _ _ b1, hm _ _ b2, b3, b4⟩
  rw [if_neg k18] at q ⊢
  by_cases k12 : k = 12
  · rw [if_pos k12] at q ⊢
    obtain ⟨⟨q1, s0, g0, f0, hs, a1, a2⟩, q2⟩ := q
    refine ⟨⟨q1, s0, g0, f0, hs, hm _ _ a1, hm _ _ a2⟩, fun y => ?_⟩
    obtain ⟨f, b1, b2, b3, b4⟩ := q2 y
    exact ⟨f, hm _ _ b1, hm _ _ b2, b3, b4⟩
  rw [if_neg k12] at q ⊢
  by_cases k1 : k = 1
  · rw [if_pos k1] at q ⊢
    rcases q with q | q
    · exact Or.inl q
    · exact Or.inr (hm _ _ q)
  rw [if_neg k1] at q ⊢
  by_cases k2 : k = 2
  · rw [if_pos k2] at q ⊢
    exact hm _ _ q
  rw [if_neg k2] at q ⊢
  by_cases k3 : k = 3
  · rw [if_pos k3] at q ⊢
    exact hm _ _ q
  rw [if_neg k3] at q ⊢
  by_cases k7 : k ≤ 7
  · rw [if_pos k7] at q ⊢
    obtain ⟨f, a1, a2⟩ := q
    exact ⟨f, hm _ _ a1, a2⟩
  rw [if_neg k7] at q ⊢
  exact hm _ _ q
theorem jM.app {g h : mj_H} {n : Nat} {V : Nat → Int} {X : Nat → Nat → Int} (m : jM g n V X h) (hg : g.length ≤ n) : jM g (n + 1) V X (h ++ [xE]) := by
  have hm : ∀ (x : Nat) (e : mj_E), h[x]? = some e → (h ++ [xE])[x]? = some e := fun x e hx => by
    rw [List.getElem?_append_left (List.getElem?_eq_some_iff.mp hx).1]
    exact hx
  refine ⟨by rw [List.length_append, m.1]; rfl, fun b hb => ⟨fun hb2 => ?_, fun h1 h2 => ?_⟩, fun a => jMk_mono hm (m.2.2 a)⟩
  · rw [List.getElem?_append_left (by rw [m.1]; omega)]
    exact (m.2.1 b hb).1 hb2
  · by_cases c : b < n
    · rw [List.getElem?_append_left (by rw [m.1]; exact c)]
      exact (m.2.1 b hb).2 h1 c
    · have c2 : b = h.length := by rw [m.1]; omega
      subst c2
      rw [List.getElem?_append_right (Nat.le_refl _), Nat.sub_self]
      rfl
/-- a prime up to 97 -/
def prm (p : Int) : Prop := (2 ≤ p ∧ p ≤ 97) ∧ ∀ e : Nat, 2 ≤ e → e < 10 → p = e ∨ p.tmod e ≠ 0
section MCH
variable {g h : mj_H} {n D : Nat} {V : Nat → Int} {X : Nat → Nat → Int}
theorem mC_rowOf (m : jM g n V X h) {i : Int} (hi : -2147483648 ≤ i ∧ i ≤ 2147483647) : mj_Ok (D + 1) 149 [.ref 1, .int (jn i)] h (fun z => ((0 ≤ i ∧ i ≤ 5) ∧ z = (.inl (some (.ref (4 + i.toNat))), h)) ∨ (¬ (0 ≤ i ∧ i ≤ 5) ∧ z = (.inr 0, h ++ [xE]))) := by
  have l2 := (mK_b cq_d2).2.1
  refine mj_Ok.of (M := mj_m149) rfl rfl rfl ?_
  refine mj_T.pl rfl rfl rfl rfl ?_
  refine mj_T.if0 (a := i) rfl ⟨by omega, by omega⟩ (fun c1 => ?_) (fun c1 => ?_)
  · simp only [jc, Bool.not_eq_true', Bool.not_eq_false', decide_eq_true_eq, decide_eq_false_iff_not] at c1
    exact mj_T.throws rfl rfl rfl (Nat.le_of_ble_eq_true rfl) (Or.inr ⟨by omega, rfl⟩)
  · simp only [jc, Bool.not_eq_true', Bool.not_eq_false', decide_eq_true_eq, decide_eq_false_iff_not] at c1
    iterate 2 refine mj_T.pl rfl rfl rfl rfl ?_
    refine mT_get m 19 cq_d1 (by decide) rfl rfl ?_
    refine mT_get m 10 cq_d2 (by decide) rfl rfl ?_
    refine mT_alen m 6 (mK_b cq_d2).1 (by decide) rfl ?_
    rw [(mK_b cq_d2).2.1]
    refine mj_T.icmp (a := i) (b := ((6 : Nat) : Int)) rfl ⟨by omega, by omega⟩ ⟨by omega, by omega⟩ (fun c2 => ?_) (fun c2 => ?_)
    · simp only [jc, Bool.not_eq_true', Bool.not_eq_false', decide_eq_true_eq, decide_eq_false_iff_not] at c2
      refine mj_T.pl rfl rfl rfl rfl ?_
      refine mT_get m 19 cq_d1 (by decide) rfl rfl ?_
      refine mT_get m 10 cq_d2 (by decide) rfl rfl ?_
      refine mj_T.pl rfl rfl rfl rfl ?_
      refine mT_aald m 6 (mK_b cq_d2).1 (by decide) rfl rfl (by omega) ⟨by omega, by omega⟩ ?_
      refine mj_T.eq (st2 := [.ref (4 + i.toNat)]) ?_ rfl rfl rfl rfl
      exact mj_T.ret rfl rfl rfl (Or.inl ⟨⟨by omega, by omega⟩, rfl⟩)
    · simp only [jc, Bool.not_eq_true', Bool.not_eq_false', decide_eq_true_eq, decide_eq_false_iff_not] at c2
      exact mj_T.throws rfl rfl rfl (Nat.le_of_ble_eq_true rfl) (Or.inr ⟨by omega, rfl⟩)
theorem mC_exponent {i : Int} (hi : -2147483648 ≤ i ∧ i ≤ 2147483647) : mj_Ok (D + 1) 150 [.int (jn i)] h (fun z => ((0 ≤ i ∧ i ≤ 12) ∧ z = (.inl none, h)) ∨ (¬ (0 ≤ i ∧ i ≤ 12) ∧ z = (.inr 2, h ++ [xE]))) := by
  refine mj_Ok.of (M := mj_m150) rfl rfl rfl ?_
  refine mj_T.pl rfl rfl rfl rfl ?_
  refine mj_T.if0 (a := i) rfl ⟨by omega, by omega⟩ (fun c1 => ?_) (fun c1 => ?_)
  · simp only [jc, Bool.not_eq_true', Bool.not_eq_false', decide_eq_true_eq, decide_eq_false_iff_not] at c1
    exact mj_T.throws rfl rfl rfl (Nat.le_of_ble_eq_true rfl) (Or.inr ⟨by omega, rfl⟩)
  · simp only [jc, Bool.not_eq_true', Bool.not_eq_false', decide_eq_true_eq, decide_eq_false_iff_not] at c1
    iterate 2 refine mj_T.pl rfl rfl rfl rfl ?_
    refine mj_T.icmp (a := i) (b := 12) rfl ⟨by omega, by omega⟩ ⟨by omega, by omega⟩ (fun c2 => ?_) (fun c2 => ?_)
    · simp only [jc, Bool.not_eq_true', Bool.not_eq_false', decide_eq_true_eq, decide_eq_false_iff_not] at c2
      exact mj_T.ret rfl rfl rfl (Or.inl ⟨by omega, rfl⟩)
    · simp only [jc, Bool.not_eq_true', Bool.not_eq_false', decide_eq_true_eq, decide_eq_false_iff_not] at c2
      exact mj_T.throws rfl rfl rfl (Nat.le_of_ble_eq_true rfl) (Or.inr ⟨by omega, rfl⟩)
theorem mC_fraction {i j : Int} (hi : -2147483648 ≤ i ∧ i ≤ 2147483647) (hj : -2147483648 ≤ j ∧ j ≤ 2147483647) : mj_Ok (D + 1) 151 [.int (jn i), .int (jn j)] h (fun z => (((-1000 ≤ i ∧ i ≤ 1000) ∧ (1 ≤ j ∧ j ≤ 1000)) ∧ z = (.inl none, h)) ∨ (¬ ((-1000 ≤ i ∧ i ≤ 1000) ∧ (1 ≤ j ∧ j ≤ 1000)) ∧ z = (.inr 2, h ++ [xE]))) := by
  refine mj_Ok.of (M := mj_m151) rfl rfl rfl ?_
  iterate 2 refine mj_T.pl rfl rfl rfl rfl ?_
  refine mj_T.icmp (a := i) (b := (-1000)) rfl ⟨by omega, by omega⟩ ⟨by omega, by omega⟩ (fun c1 => ?_) (fun c1 => ?_)
  · simp only [jc, Bool.not_eq_true', Bool.not_eq_false', decide_eq_true_eq, decide_eq_false_iff_not] at c1
    exact mj_T.throws rfl rfl rfl (Nat.le_of_ble_eq_true rfl) (Or.inr ⟨by omega, rfl⟩)
  · simp only [jc, Bool.not_eq_true', Bool.not_eq_false', decide_eq_true_eq, decide_eq_false_iff_not] at c1
    iterate 2 refine mj_T.pl rfl rfl rfl rfl ?_
    refine mj_T.icmp (a := i) (b := 1000) rfl ⟨by omega, by omega⟩ ⟨by omega, by omega⟩ (fun c2 => ?_) (fun c2 => ?_)
    · simp only [jc, Bool.not_eq_true', Bool.not_eq_false', decide_eq_true_eq, decide_eq_false_iff_not] at c2
      exact mj_T.throws rfl rfl rfl (Nat.le_of_ble_eq_true rfl) (Or.inr ⟨by omega, rfl⟩)
    · simp only [jc, Bool.not_eq_true', Bool.not_eq_false', decide_eq_true_eq, decide_eq_false_iff_not] at c2
      iterate 2 refine mj_T.pl rfl rfl rfl rfl ?_
      refine mj_T.icmp (a := j) (b := 1) rfl ⟨by omega, by omega⟩ ⟨by omega, by omega⟩ (fun c3 => ?_) (fun c3 => ?_)
      · simp only [jc, Bool.not_eq_true', Bool.not_eq_false', decide_eq_true_eq, decide_eq_false_iff_not] at c3
        exact mj_T.throws rfl rfl rfl (Nat.le_of_ble_eq_true rfl) (Or.inr ⟨by omega, rfl⟩)
      · simp only [jc, Bool.not_eq_true', Bool.not_eq_false', decide_eq_true_eq, decide_eq_false_iff_not] at c3
        iterate 2 refine mj_T.pl rfl rfl rfl rfl ?_
        refine mj_T.icmp (a := j) (b := 1000) rfl ⟨by omega, by omega⟩ ⟨by omega, by omega⟩ (fun c4 => ?_) (fun c4 => ?_)
        · simp only [jc, Bool.not_eq_true', Bool.not_eq_false', decide_eq_true_eq, decide_eq_false_iff_not] at c4
          exact mj_T.ret rfl rfl rfl (Or.inl ⟨by omega, rfl⟩)
        · simp only [jc, Bool.not_eq_true', Bool.not_eq_false', decide_eq_true_eq, decide_eq_false_iff_not] at c4
          exact mj_T.throws rfl rfl rfl (Nat.le_of_ble_eq_true rfl) (Or.inr ⟨by omega, rfl⟩)
theorem mC_zero (m : jM g n V X h) {r : Nat} (kr : cK r = 2) (hr : sml (X r)) : mj_Ok (D + 2) 153 [.ref r] h (fun z => ((0 < fdg (X r) 13) ∧ z = (.inl none, h)) ∨ (¬ (0 < fdg (X r) 13) ∧ z = (.inr 3, h ++ [xE]))) := by
  have hf := fdg_le (X r) 13
  refine mj_Ok.of (M := mj_m153) rfl rfl rfl ?_
  refine mj_T.pl rfl rfl rfl rfl ?_
  refine mj_T.call rfl rfl (Nat.le_of_ble_eq_true rfl) (Nat.le_of_ble_eq_true rfl) rfl rfl (mj_Ok.up (by omega) (mS_deg (D := 0) m kr hr)) (fun v g1 hq => ?_) (fun i g1 hq => ?_)
  rotate_left
  · cases hq
  cases hq
  refine mj_T.eq (pc2 := 4) (st2 := [.int (jn ((fdg (X r) 13 : Int) - 1))]) ?_ rfl rfl rfl rfl
  refine mj_T.if0 (a := ((fdg (X r) 13 : Int) - 1)) rfl ⟨by omega, by omega⟩ (fun c2 => ?_) (fun c2 => ?_)
  · simp only [jc, Bool.not_eq_true', Bool.not_eq_false', decide_eq_true_eq, decide_eq_false_iff_not] at c2
    exact mj_T.ret rfl rfl rfl (Or.inl ⟨by omega, rfl⟩)
  · simp only [jc, Bool.not_eq_true', Bool.not_eq_false', decide_eq_true_eq, decide_eq_false_iff_not] at c2
    exact mj_T.throws rfl rfl rfl (Nat.le_of_ble_eq_true rfl) (Or.inr ⟨by omega, rfl⟩)
theorem mC_prime0 {p : Int} (hp : -2147483648 ≤ p ∧ p ≤ 2147483647) (hn : ¬ prm p) : ∀ k i : Nat, i + k = 10 → mj_T D mj_m152 19 [some (.int (jn p)), some (.int (jn 0)), some (.int (jn (i : Int)))] [] h (fun z => (prm p ∧ z = (.inl none, h)) ∨ (¬ prm p ∧ z = (.inr 2, h ++ [xE])))
  | 0, i, hi => by
    have h9 : i ≤ 9 → i * i ≤ 81 := fun q => Nat.mul_le_mul q q
    have h10 : 10 ≤ i → 100 ≤ i * i := fun q => Nat.mul_le_mul q q
    have h11 : i * i ≤ 10 * 10 := Nat.mul_le_mul (by omega) (by omega)
    iterate 2 refine mj_T.pl rfl rfl rfl rfl ?_
    refine mj_T.imul (a := ((i : Nat) : Int)) (b := ((i : Nat) : Int)) rfl ?_
    refine mj_T.pl rfl rfl rfl rfl ?_
    refine mj_T.icmp (a := (((i : Nat) : Int) * ((i : Nat) : Int))) (b := 97) rfl ⟨by omega, by omega⟩ ⟨by omega, by omega⟩ (fun c1 => ?_) (fun c1 => ?_)
    · simp only [jc, Bool.not_eq_true', Bool.not_eq_false', decide_eq_true_eq, decide_eq_false_iff_not] at c1
      refine mj_T.pl rfl rfl rfl rfl ?_
      refine mj_T.if0 (a := 0) rfl ⟨by omega, by omega⟩ (fun c2 => ?_) (fun c2 => ?_)
      · exfalso
        simp [jc] at c2
      · simp only [jc, Bool.not_eq_true', Bool.not_eq_false', decide_eq_true_eq, decide_eq_false_iff_not] at c2
        exact mj_T.throws rfl rfl rfl (Nat.le_of_ble_eq_true rfl) (Or.inr ⟨hn, rfl⟩)
    · exfalso
      simp only [jc, Bool.not_eq_true', Bool.not_eq_false', decide_eq_true_eq, decide_eq_false_iff_not] at c1
      omega
  | k + 1, i, hi => by
    have h9 : i ≤ 9 → i * i ≤ 81 := fun q => Nat.mul_le_mul q q
    have h10 : 10 ≤ i → 100 ≤ i * i := fun q => Nat.mul_le_mul q q
    have h11 : i * i ≤ 10 * 10 := Nat.mul_le_mul (by omega) (by omega)
    iterate 2 refine mj_T.pl rfl rfl rfl rfl ?_
    refine mj_T.imul (a := ((i : Nat) : Int)) (b := ((i : Nat) : Int)) rfl ?_
    refine mj_T.pl rfl rfl rfl rfl ?_
    refine mj_T.icmp (a := (((i : Nat) : Int) * ((i : Nat) : Int))) (b := 97) rfl ⟨by omega, by omega⟩ ⟨by omega, by omega⟩ (fun c1 => ?_) (fun c1 => ?_)
    · exfalso
      simp only [jc, Bool.not_eq_true', Bool.not_eq_false', decide_eq_true_eq, decide_eq_false_iff_not] at c1
      omega
    · simp only [jc, Bool.not_eq_true', Bool.not_eq_false', decide_eq_true_eq, decide_eq_false_iff_not] at c1
      refine mj_T.pl rfl rfl rfl rfl ?_
      refine mj_T.if0 (a := 0) rfl ⟨by omega, by omega⟩ (fun c2 => ?_) (fun c2 => ?_)
      · simp only [jc, Bool.not_eq_true', Bool.not_eq_false', decide_eq_true_eq, decide_eq_false_iff_not] at c2
        refine mj_T.pl rfl rfl rfl rfl ?_
        refine mj_T.pl (loc' := [some (.int (jn p)), some (.int (jn 0)), some (.int (jn ((i : Nat) : Int)))]) rfl rfl rfl rfl ?_
        refine mj_T.iinc rfl rfl ?_
        rw [show ((i : Nat) : Int) + 1 = ((i + 1 : Nat) : Int) by omega]
        refine mj_T.eq (loc2 := [some (.int (jn p)), some (.int (jn 0)), some (.int (jn (((i + 1) : Nat) : Int)))]) ?_ rfl rfl rfl rfl
        refine mj_T.pl rfl rfl rfl rfl ?_
        exact mC_prime0 hp hn k (i + 1) (by omega)
      · exfalso
        simp [jc] at c2
theorem mC_prime1 {p : Int} (hp : -2147483648 ≤ p ∧ p ≤ 2147483647) (h2 : 2 ≤ p ∧ p ≤ 97) : ∀ k i : Nat, i + k = 10 → 2 ≤ i → (∀ e : Nat, 2 ≤ e → e < i → p = e ∨ p.tmod e ≠ 0) → mj_T D mj_m152 19 [some (.int (jn p)), some (.int (jn 1)), some (.int (jn (i : Int)))] [] h (fun z => (prm p ∧ z = (.inl none, h)) ∨ (¬ prm p ∧ z = (.inr 2, h ++ [xE])))
  | 0, i, hi, hi2, hy => by
    have h9 : i ≤ 9 → i * i ≤ 81 := fun q => Nat.mul_le_mul q q
    have h10 : 10 ≤ i → 100 ≤ i * i := fun q => Nat.mul_le_mul q q
    have h11 : i * i ≤ 10 * 10 := Nat.mul_le_mul (by omega) (by omega)
    iterate 2 refine mj_T.pl rfl rfl rfl rfl ?_
    refine mj_T.imul (a := ((i : Nat) : Int)) (b := ((i : Nat) : Int)) rfl ?_
    refine mj_T.pl rfl rfl rfl rfl ?_
    refine mj_T.icmp (a := (((i : Nat) : Int) * ((i : Nat) : Int))) (b := 97) rfl ⟨by omega, by omega⟩ ⟨by omega, by omega⟩ (fun c1 => ?_) (fun c1 => ?_)
    · simp only [jc, Bool.not_eq_true', Bool.not_eq_false', decide_eq_true_eq, decide_eq_false_iff_not] at c1
      refine mj_T.pl rfl rfl rfl rfl ?_
      refine mj_T.if0 (a := 1) rfl ⟨by omega, by omega⟩ (fun c2 => ?_) (fun c2 => ?_)
      · simp only [jc, Bool.not_eq_true', Bool.not_eq_false', decide_eq_true_eq, decide_eq_false_iff_not] at c2
        exact mj_T.ret rfl rfl rfl (Or.inl ⟨⟨h2, fun e y1 y2 => hy e y1 (by omega)⟩, rfl⟩)
      · exfalso
        simp [jc] at c2
    · exfalso
      simp only [jc, Bool.not_eq_true', Bool.not_eq_false', decide_eq_true_eq, decide_eq_false_iff_not] at c1
      omega
  | k + 1, i, hi, hi2, hy => by
    have h9 : i ≤ 9 → i * i ≤ 81 := fun q => Nat.mul_le_mul q q
    have h10 : 10 ≤ i → 100 ≤ i * i := fun q => Nat.mul_le_mul q q
    have h11 : i * i ≤ 10 * 10 := Nat.mul_le_mul (by omega) (by omega)
    have t1 := Int.tmod_nonneg (i : Int) (show 0 ≤ p by omega)
    have t2 := Int.tmod_lt_of_pos p (show (0 : Int) < (i : Int) by omega)
    iterate 2 refine mj_T.pl rfl rfl rfl rfl ?_
    refine mj_T.imul (a := ((i : Nat) : Int)) (b := ((i : Nat) : Int)) rfl ?_
    refine mj_T.pl rfl rfl rfl rfl ?_
    refine mj_T.icmp (a := (((i : Nat) : Int) * ((i : Nat) : Int))) (b := 97) rfl ⟨by omega, by omega⟩ ⟨by omega, by omega⟩ (fun c1 => ?_) (fun c1 => ?_)
    · exfalso
      simp only [jc, Bool.not_eq_true', Bool.not_eq_false', decide_eq_true_eq, decide_eq_false_iff_not] at c1
      omega
    · simp only [jc, Bool.not_eq_true', Bool.not_eq_false', decide_eq_true_eq, decide_eq_false_iff_not] at c1
      refine mj_T.pl rfl rfl rfl rfl ?_
      refine mj_T.if0 (a := 1) rfl ⟨by omega, by omega⟩ (fun c2 => ?_) (fun c2 => ?_)
      · exfalso
        simp [jc] at c2
      · simp only [jc, Bool.not_eq_true', Bool.not_eq_false', decide_eq_true_eq, decide_eq_false_iff_not] at c2
        iterate 2 refine mj_T.pl rfl rfl rfl rfl ?_
        refine mj_T.icmp (a := p) (b := ((i : Nat) : Int)) rfl ⟨by omega, by omega⟩ ⟨by omega, by omega⟩ (fun c3 => ?_) (fun c3 => ?_)
        · simp only [jc, Bool.not_eq_true', Bool.not_eq_false', decide_eq_true_eq, decide_eq_false_iff_not] at c3
          iterate 2 refine mj_T.pl rfl rfl rfl rfl ?_
          refine mj_T.pl (loc' := [some (.int (jn p)), some (.int (jn 1)), some (.int (jn ((i : Nat) : Int)))]) rfl rfl rfl rfl ?_
          refine mj_T.iinc rfl rfl ?_
          rw [show ((i : Nat) : Int) + 1 = ((i + 1 : Nat) : Int) by omega]
          refine mj_T.eq (loc2 := [some (.int (jn p)), some (.int (jn 1)), some (.int (jn (((i + 1) : Nat) : Int)))]) ?_ rfl rfl rfl rfl
          refine mj_T.pl rfl rfl rfl rfl ?_
          refine mC_prime1 hp h2 k (i + 1) (by omega) (by omega) (fun e y1 y2 => ?_)
          by_cases q : e = i
          · subst q
            first
            | exact Or.inl (by omega)
            | exact Or.inr (by omega)
          · exact hy e y1 (by omega)
        · simp only [jc, Bool.not_eq_true', Bool.not_eq_false', decide_eq_true_eq, decide_eq_false_iff_not] at c3
          iterate 2 refine mj_T.pl rfl rfl rfl rfl ?_
          refine mj_T.irem rfl ⟨by omega, by omega⟩ ⟨by omega, by omega⟩ (by omega) ?_
          refine mj_T.if0 (a := (p.tmod ((i : Nat) : Int))) rfl ⟨by omega, by omega⟩ (fun c4 => ?_) (fun c4 => ?_)
          · simp only [jc, Bool.not_eq_true', Bool.not_eq_false', decide_eq_true_eq, decide_eq_false_iff_not] at c4
            refine mj_T.pl rfl rfl rfl rfl ?_
            refine mj_T.pl (loc' := [some (.int (jn p)), some (.int (jn 0)), some (.int (jn ((i : Nat) : Int)))]) rfl rfl rfl rfl ?_
            refine mj_T.iinc rfl rfl ?_
            rw [show ((i : Nat) : Int) + 1 = ((i + 1 : Nat) : Int) by omega]
            refine mj_T.eq (loc2 := [some (.int (jn p)), some (.int (jn 0)), some (.int (jn (((i + 1) : Nat) : Int)))]) ?_ rfl rfl rfl rfl
            refine mj_T.pl rfl rfl rfl rfl ?_
            refine mC_prime0 hp (fun y => ?_) k (i + 1) (by omega)
            rcases y.2 i (by omega) (by omega) with y | y
            · omega
            · exact y (by omega)
          · simp only [jc, Bool.not_eq_true', Bool.not_eq_false', decide_eq_true_eq, decide_eq_false_iff_not] at c4
            iterate 2 refine mj_T.pl rfl rfl rfl rfl ?_
            refine mj_T.pl (loc' := [some (.int (jn p)), some (.int (jn 1)), some (.int (jn ((i : Nat) : Int)))]) rfl rfl rfl rfl ?_
            refine mj_T.iinc rfl rfl ?_
            rw [show ((i : Nat) : Int) + 1 = ((i + 1 : Nat) : Int) by omega]
            refine mj_T.eq (loc2 := [some (.int (jn p)), some (.int (jn 1)), some (.int (jn (((i + 1) : Nat) : Int)))]) ?_ rfl rfl rfl rfl
            refine mj_T.pl rfl rfl rfl rfl ?_
            refine mC_prime1 hp h2 k (i + 1) (by omega) (by omega) (fun e y1 y2 => ?_)
            by_cases q : e = i
            · subst q
              first
              | exact Or.inl (by omega)
              | exact Or.inr (by omega)
            · exact hy e y1 (by omega)
theorem mC_prime {p : Int} (hp : -2147483648 ≤ p ∧ p ≤ 2147483647) : mj_Ok (D + 1) 152 [.int (jn p)] h (fun z => (prm p ∧ z = (.inl none, h)) ∨ (¬ prm p ∧ z = (.inr 2, h ++ [xE]))) := by
  refine mj_Ok.of (M := mj_m152) rfl rfl rfl ?_
  iterate 2 refine mj_T.pl rfl rfl rfl rfl ?_
  refine mj_T.icmp (a := p) (b := 2) rfl ⟨by omega, by omega⟩ ⟨by omega, by omega⟩ (fun c1 => ?_) (fun c1 => ?_)
  · simp only [jc, Bool.not_eq_true', Bool.not_eq_false', decide_eq_true_eq, decide_eq_false_iff_not] at c1
    refine mj_T.pl rfl rfl rfl rfl ?_
    refine mj_T.pl (loc' := [some (.int (jn p)), some (.int (jn 0)), none]) rfl rfl rfl rfl ?_
    refine mj_T.pl rfl rfl rfl rfl ?_
    refine mj_T.pl (loc' := [some (.int (jn p)), some (.int (jn 0)), some (.int (jn 2))]) rfl rfl rfl rfl ?_
    exact mC_prime0 hp (fun y => by have := y.1; omega) 8 2 rfl
  · simp only [jc, Bool.not_eq_true', Bool.not_eq_false', decide_eq_true_eq, decide_eq_false_iff_not] at c1
    iterate 2 refine mj_T.pl rfl rfl rfl rfl ?_
    refine mj_T.icmp (a := p) (b := 97) rfl ⟨by omega, by omega⟩ ⟨by omega, by omega⟩ (fun c2 => ?_) (fun c2 => ?_)
    · simp only [jc, Bool.not_eq_true', Bool.not_eq_false', decide_eq_true_eq, decide_eq_false_iff_not] at c2
      refine mj_T.pl rfl rfl rfl rfl ?_
      refine mj_T.pl (loc' := [some (.int (jn p)), some (.int (jn 0)), none]) rfl rfl rfl rfl ?_
      refine mj_T.pl rfl rfl rfl rfl ?_
      refine mj_T.pl (loc' := [some (.int (jn p)), some (.int (jn 0)), some (.int (jn 2))]) rfl rfl rfl rfl ?_
      exact mC_prime0 hp (fun y => by have := y.1; omega) 8 2 rfl
    · simp only [jc, Bool.not_eq_true', Bool.not_eq_false', decide_eq_true_eq, decide_eq_false_iff_not] at c2
      iterate 2 refine mj_T.pl rfl rfl rfl rfl ?_
      refine mj_T.pl (loc' := [some (.int (jn p)), some (.int (jn 1)), none]) rfl rfl rfl rfl ?_
      refine mj_T.pl rfl rfl rfl rfl ?_
      refine mj_T.pl (loc' := [some (.int (jn p)), some (.int (jn 1)), some (.int (jn 2))]) rfl rfl rfl rfl ?_
      exact mC_prime1 hp ⟨by omega, by omega⟩ 8 2 rfl (by decide) (fun e y1 y2 => absurd y1 (by omega))
theorem mC_earlier (m : jM g n V X h) {e : Nat} (he : e < 8) (h3 : X 1 3 = (e : Int)) : mj_Ok (D + 1) 155 [.ref 1] h (fun z => z = (.inl (some (.ref (483 + 10 * e))), h)) := by
  have l12 := cq_l12
  refine mj_Ok.of (M := mj_m155) rfl rfl rfl ?_
  refine mj_T.pl rfl rfl rfl rfl ?_
  refine mT_get m 19 cq_d1 (by decide) rfl rfl ?_
  refine mj_T.pl rfl rfl rfl rfl ?_
  refine mT_get (v := .int (jn ((e : Nat) : Int))) m 19 cq_d1 (by decide) rfl (congrArg (fun z : Int => some (Value.int (jn z))) (h3)) ?_
  refine mj_T.if0 (a := ((e : Nat) : Int)) rfl ⟨by omega, by omega⟩ (fun c1 => ?_) (fun c1 => ?_)
  · exfalso
    simp only [jc, Bool.not_eq_true', Bool.not_eq_false', decide_eq_true_eq, decide_eq_false_iff_not] at c1
    omega
  · simp only [jc, Bool.not_eq_true', Bool.not_eq_false', decide_eq_true_eq, decide_eq_false_iff_not] at c1
    refine mj_T.pl rfl rfl rfl rfl ?_
    refine mT_get (v := .int (jn ((e : Nat) : Int))) m 19 cq_d1 (by decide) rfl (congrArg (fun z : Int => some (Value.int (jn z))) (h3)) ?_
    refine mj_T.pl rfl rfl rfl rfl ?_
    refine mT_get m 19 cq_d1 (by decide) rfl rfl ?_
    refine mT_alen m 7 cq_d12 (by decide) rfl ?_
    rw [cq_l12]
    refine mj_T.icmp (a := ((e : Nat) : Int)) (b := ((8 : Nat) : Int)) rfl ⟨by omega, by omega⟩ ⟨by omega, by omega⟩ (fun c2 => ?_) (fun c2 => ?_)
    · exfalso
      simp only [jc, Bool.not_eq_true', Bool.not_eq_false', decide_eq_true_eq, decide_eq_false_iff_not] at c2
      omega
    · simp only [jc, Bool.not_eq_true', Bool.not_eq_false', decide_eq_true_eq, decide_eq_false_iff_not] at c2
      refine mj_T.pl rfl rfl rfl rfl ?_
      refine mT_get (v := .int (jn ((e : Nat) : Int))) m 19 cq_d1 (by decide) rfl (congrArg (fun z : Int => some (Value.int (jn z))) (h3)) ?_
      refine mj_T.pl rfl rfl rfl rfl ?_
      refine mT_aald m 7 cq_d12 (by decide) rfl rfl (by omega) ⟨by omega, by omega⟩ ?_
      refine mj_T.eq (st2 := [.ref (483 + 10 * e)]) ?_ rfl rfl rfl rfl
      exact mj_T.ret rfl rfl rfl rfl
/-- bench a holds what bench o held -/
def cpB (X : Nat → Nat → Int) (o : Nat) (X2 : Nat → Nat → Int) (a : Nat) : Prop := (∀ i, i < 6 → ∀ j, j < 13 → X2 (a + 2 + i) j = X (o + 2 + i) j) ∧ X2 a 3 = X o 3 ∧ (∀ k : Nat, (k : Int) < X o 3 → X2 (a + 8) k = X (o + 8) k ∧ X2 (a + 9) k = X (o + 9) k)
/-- what keepEarlier does: e the place of the next, u the undoable -/
def kpE (X X2 : Nat → Nat → Int) (e u : Nat) : Prop := cpB X 2 X2 (483 + 10 * e) ∧ (∀ c, (c < 483 + 10 * e ∨ 493 + 10 * e ≤ c) → c ≠ 1 → X2 c = X c) ∧ X2 1 3 = (((e + 1) % 8 : Nat) : Int) ∧ X2 1 2 = ((if u < 8 then u + 1 else 8 : Nat) : Int) ∧ X2 1 15 = X 1 15
theorem mC_keepE (m : jM g n V X h) {e u p : Nat} (he : e < 8) (hu : u ≤ 8) (h3 : X 1 3 = (e : Int)) (h2 : X 1 2 = (u : Int)) (hp : PT X 2 p) : mj_Ok (D + 4) 156 [.ref 1] h (fun z => ∃ (X2 : Nat → Nat → Int) (h2 : mj_H), jM g n V X2 h2 ∧ kpE X X2 e u ∧ z = (.inl none, h2)) := by
  refine mj_Ok.of (M := mj_m156) rfl rfl rfl ?_
  refine mj_T.pl rfl rfl rfl rfl ?_
  refine mj_T.call rfl rfl (Nat.le_of_ble_eq_true rfl) (Nat.le_of_ble_eq_true rfl) (mV_of m 19 cq_d1 (by decide) rfl (by decide) rfl _) rfl (mj_Ok.up (by omega) (mC_earlier (D := 0) m he h3)) (fun v g1 hq => ?_) (fun i g1 hq => ?_)
  rotate_left
  · cases hq
  cases hq
  refine mj_T.eq (pc2 := 4) (st2 := [.ref (483 + 10 * e)]) ?_ rfl rfl rfl rfl
  refine mj_T.pl rfl rfl rfl rfl ?_
  refine mT_get m 19 cq_d1 (by decide) rfl rfl ?_
  refine mj_T.call rfl rfl (Nat.le_of_ble_eq_true rfl) (Nat.le_of_ble_eq_true rfl) (mV_of m 10 (cq_eb e he) (by decide) rfl (by decide) rfl _) rfl (mj_Ok.up (by omega) (mB_copy (D := 0) m (p := p) (cq_eb e he) cq_d2 (by omega) hp.1 hp.2.1)) (fun v g2 hq => ?_) (fun i g2 hq => ?_)
  rotate_left
  · obtain ⟨_, _, _, _, _, _, _, hq⟩ := hq; cases hq
  obtain ⟨X5, _, m5, y1, y2, y3, y4, hq⟩ := hq
  cases hq
  refine mj_T.eq (pc2 := 11) (st2 := []) ?_ rfl rfl rfl rfl
  iterate 2 refine mj_T.pl rfl rfl rfl rfl ?_
  refine mT_get (v := .int (jn ((e : Nat) : Int))) m5 19 cq_d1 (by decide) rfl (congrArg (fun z : Int => some (Value.int (jn z))) ((congrFun (y4 1 (by omega)) 3).trans h3)) ?_
  refine mj_T.pl rfl rfl rfl rfl ?_
  refine mj_T.iadd (a := ((e : Nat) : Int)) (b := 1) rfl ?_
  refine mj_T.pl rfl rfl rfl rfl ?_
  refine mj_T.irem rfl ⟨by omega, by omega⟩ ⟨by omega, by omega⟩ (by omega) ?_
  refine mT_put (v := ((((e : Nat) : Int) + 1).tmod 8)) m5 19 cq_d1 (by decide) rfl (by simp [jMf, xup]) (by simp [jMf]) rfl (fun h3 m4 => ?_)
  iterate 2 refine mj_T.pl rfl rfl rfl rfl ?_
  refine mT_get (v := .int (jn ((u : Nat) : Int))) m4 19 cq_d1 (by decide) rfl (congrArg (fun z : Int => some (Value.int (jn z))) ((xup_ne _ _ (Or.inr (by decide))).trans ((congrFun (y4 1 (by omega)) 2).trans h2))) ?_
  refine mj_T.pl rfl rfl rfl rfl ?_
  refine mj_T.iadd (a := ((u : Nat) : Int)) (b := 1) rfl ?_
  refine mj_T.pl rfl rfl rfl rfl ?_
  refine mj_T.imin (a := (((u : Nat) : Int) + 1)) (b := 8) rfl rfl (Nat.le_of_ble_eq_true rfl) ⟨by omega, by omega⟩ ⟨by omega, by omega⟩ ?_
  refine mT_put (v := (min (((u : Nat) : Int) + 1) 8)) m4 19 cq_d1 (by decide) rfl (by simp [jMf, xup]) (by simp [jMf]) rfl (fun h5 m6 => ?_)
  refine mj_T.ret rfl rfl rfl ⟨(xup (xup X5 1 3 ((((e : Nat) : Int) + 1).tmod 8)) 1 2 (min (((u : Nat) : Int) + 1) 8)), _, m6, ⟨⟨fun i hi j hj => ?_, ?_, fun k hk => ?_⟩, fun c hc c1 => ?_, ?_, ?_, ?_⟩, rfl⟩
  · rw [xup_oth (by omega), xup_oth (by omega)]
    exact y1 i hi j hj
  · rw [xup_oth (by omega), xup_oth (by omega)]
    exact y2.trans hp.1.symm
  · rw [xup_oth (by omega), xup_oth (by omega), xup_oth (by omega), xup_oth (by omega)]
    exact y3 k (by have := hp.1; omega)
  · rw [xup_oth c1, xup_oth c1]
    exact y4 c (by omega)
  · rw [xup_ne _ _ (Or.inr (by decide)), xup_at, Int.tmod_eq_emod_of_nonneg (by omega)]
    omega
  · rw [xup_at]
    split <;> omega
  · rw [xup_ne _ _ (Or.inr (by decide)), xup_ne _ _ (Or.inr (by decide))]
    exact congrFun (y4 1 (by omega)) 15
theorem mK_rt (t : Nat) (h : t < 6) : cK (4 + t) = 2 := (mK_b cq_d2).2.2 t h
theorem mC_keep (m : jM g n V X h) {e u p : Nat} (he : e < 8) (hu : u ≤ 8) (h3 : X 1 3 = (e : Int)) (h2 : X 1 2 = (u : Int)) (hp : PT X 2 p) {to : Nat} (ht : to < 6) (hr : sml (X 481)) : mj_Ok (D + 5) 154 [.ref 1, .int (jn (to : Int))] h (fun z => ∃ (X2 : Nat → Nat → Int) (h2 : mj_H), jM g n V (xfl X2 (4 + to) (X 481) 13) h2 ∧ kpE X X2 e u ∧ z = (.inl (some (.int (jn ((fdg (X 481) 13 : Int) - 1)))), h2)) := by
  refine mj_Ok.of (M := mj_m154) rfl rfl rfl ?_
  refine mj_T.pl rfl rfl rfl rfl ?_
  refine mj_T.call rfl rfl (Nat.le_of_ble_eq_true rfl) (Nat.le_of_ble_eq_true rfl) (mV_of m 19 cq_d1 (by decide) rfl (by decide) rfl _) rfl (mj_Ok.up (by omega) (mC_keepE (D := 0) m he hu h3 h2 hp)) (fun v g1 hq => ?_) (fun i g1 hq => ?_)
  rotate_left
  · obtain ⟨_, _, _, _, hq⟩ := hq; cases hq
  obtain ⟨X3, _, m3, kk, hq⟩ := hq
  cases hq
  have h481 : X3 481 = X 481 := kk.2.1 481 (by omega) (by decide)
  refine mj_T.eq (pc2 := 4) (st2 := []) ?_ rfl rfl rfl rfl
  refine mj_T.pl rfl rfl rfl rfl ?_
  refine mT_get m3 19 cq_d1 (by decide) rfl rfl ?_
  iterate 2 refine mj_T.pl rfl rfl rfl rfl ?_
  refine mj_T.call rfl rfl (Nat.le_of_ble_eq_true rfl) (Nat.le_of_ble_eq_true rfl) (mV_of m3 19 cq_d1 (by decide) rfl (by decide) rfl _) rfl (mj_Ok.up (by omega) (mC_rowOf (D := 0) m3 (i := (to : Int)) (by omega))) (fun v g2 hq => ?_) (fun i g2 hq => ?_)
  rotate_left
  · rcases hq with ⟨_, hq⟩ | ⟨hn, _⟩
    · cases hq
    · omega
  rcases hq with ⟨_, hq⟩ | ⟨hn, _⟩
  rotate_left
  · omega
  cases hq
  refine mj_T.eq (pc2 := 13) (st2 := [.ref (4 + to), .ref 481]) ?_ rfl rfl rfl rfl
  refine mj_T.call rfl rfl (Nat.le_of_ble_eq_true rfl) (Nat.le_of_ble_eq_true rfl) rfl rfl (mj_Ok.up (by omega) (mS_copy (D := 0) m3 cq_d481 (mK_rt to (by omega)))) (fun v g3 hq => ?_) (fun i g3 hq => ?_)
  rotate_left
  · obtain ⟨_, _, hq⟩ := hq; cases hq
  obtain ⟨_, m6, hq⟩ := hq
  cases hq
  rw [h481] at m6
  refine mj_T.eq (pc2 := 16) (st2 := []) ?_ rfl rfl rfl rfl
  refine mj_T.pl rfl rfl rfl rfl ?_
  refine mT_get m6 19 cq_d1 (by decide) rfl rfl ?_
  refine mj_T.call rfl rfl (Nat.le_of_ble_eq_true rfl) (Nat.le_of_ble_eq_true rfl) rfl rfl (mj_Ok.up (by omega) (mS_deg (D := 0) m6 cq_d481 (by rw [xfl_off _ _ _ (by omega), h481]; exact hr))) (fun v g4 hq => ?_) (fun i g4 hq => ?_)
  rotate_left
  · cases hq
  rw [xfl_off _ _ _ (by omega), h481] at hq
  cases hq
  refine mj_T.eq (pc2 := 23) (st2 := [.int (jn ((fdg (X 481) 13 : Int) - 1))]) ?_ rfl rfl rfl rfl
  exact mj_T.ret rfl rfl rfl ⟨X3, _, m6, kk, rfl⟩
end MCH
/-! The class between two calls. -/
/-- a bench as the reference has it: rows, points -/
def BN (X : Nat → Nat → Int) (o : Nat) (N : Nat → Int) : Prop := (∀ r, r < 6 → ∀ j, j < 13 → X (o + 2 + r) j = N (r * 13 + j)) ∧ X o 3 = N 78 ∧ (∀ k : Nat, (k : Int) < N 78 → X (o + 8) k = N (79 + k) ∧ X (o + 9) k = N (85 + k))
/-- the texts' lengths -/
def TL (X : Nat → Nat → Int) : Prop := (0 ≤ X 15 1 ∧ X 15 1 ≤ 340) ∧ (0 ≤ X 17 1 ∧ X 17 1 ≤ 340)
theorem TL.to {X X1 : Nat → Nat → Int} (t : TL X) (h : ∀ c, c = 15 ∨ c = 17 → X1 c = X c) : TL X1 := by
  unfold TL at t ⊢
  rw [h 15 (Or.inl rfl), h 17 (Or.inr rfl)]
  exact t
/-- the class's benches: now N, earlier H 0, H 1 .. (u of them) -/
def CR (X : Nat → Nat → Int) (N : Nat → Int) (u : Nat) (H : Nat → Nat → Int) : Prop := ∃ e : Nat, e < 8 ∧ X 1 3 = (e : Int) ∧ X 1 2 = (u : Int) ∧ BN X 2 N ∧ (∀ k : Nat, k < u → BN X (483 + 10 * ((e + 7 - k) % 8)) (H k)) ∧ TL X
/-- the benches and texts stay -/
def sBn (X X1 : Nat → Nat → Int) : Prop := X1 1 2 = X 1 2 ∧ X1 1 3 = X 1 3 ∧ ∀ c, (2 ≤ c ∧ c < 19) ∨ 483 ≤ c → X1 c = X c
def pushH (N : Nat → Int) (H : Nat → Nat → Int) : Nat → Nat → Int
  | 0 => N
  | k + 1 => H k
def upu (u : Nat) : Nat := if u < 8 then u + 1 else 8
def AS (N : Nat → Int) (u : Nat) (H : Nat → Nat → Int) : Prop := gN N ∧ u ≤ 8 ∧ ∀ k, k < u → gN (H k)
/-- the class between two calls -/
def cS (g : mj_H) (n : Nat) (N : Nat → Int) (u : Nat) (H : Nat → Nat → Int) (h : mj_H) : Prop := ∃ (V : Nat → Int) (X : Nat → Nat → Int), jM g n V X h ∧ by0 V ∧ DG X ∧ CR X N u H
/-- a register's polynomial -/
def rwN (N : Nat → Int) (a : Int) : pz_P := fun j => if j < 13 then N (a.toNat * 13 + j) else 0
theorem sBn.rf (X : Nat → Nat → Int) : sBn X X := ⟨rfl, rfl, fun _ _ => rfl⟩
theorem sBn.tr {X X1 X2 : Nat → Nat → Int} (h : sBn X X1) (k : sBn X1 X2) : sBn X X2 := ⟨k.1.trans h.1, k.2.1.trans h.2.1, fun c hc => (k.2.2 c hc).trans (h.2.2 c hc)⟩
theorem cq_sb : ((List.range 563).all (fun c => !(decide ((2 ≤ c ∧ c < 19) ∨ 483 ≤ c)) || (decide (cK c ≠ 13) && decide (cK c ≠ 15) && decide (cK c ≠ 16)))) = true := by decide +kernel
theorem cK_sb {c : Nat} (hc : (2 ≤ c ∧ c < 19) ∨ 483 ≤ c) : cK c ≠ 13 ∧ cK c ≠ 15 ∧ cK c ≠ 16 := by
  by_cases q : cK c = 0
  · rw [q]
    decide
  · have h1 := jall cq_sb (cK_in (a := c) q)
    simp only [Bool.or_eq_true, Bool.not_eq_true', decide_eq_false_iff_not, Bool.and_eq_true, decide_eq_true_eq] at h1
    rcases h1 with h1 | h1
    · exact absurd hc h1
    · exact ⟨h1.1.1, h1.1.2, h1.2⟩
theorem sBn.fxu {X X1 : Nat → Nat → Int} (h : FXu 481 482 X X1) : sBn X X1 := by
  have e := h 1 (by decide) (by decide) (by decide +kernel) (by decide +kernel) (by decide +kernel) (Or.inl (by decide))
  exact ⟨congrFun e 2, congrFun e 3, fun c hc => h c (by omega) (by omega) (cK_sb hc).1 (cK_sb hc).2.1 (cK_sb hc).2.2 (by omega)⟩
theorem sBn.fxt {X X1 : Nat → Nat → Int} (h : FXt 481 X X1) : sBn X X1 := sBn.fxu (fun a a1 _ a3 a4 a5 a6 => h a a1 a3 a4 a5 a6)
theorem sBn.fx {X X1 : Nat → Nat → Int} (h : FX X X1) : sBn X X1 := sBn.fxt (fun a _ a3 a4 a5 a6 => h a a3 a4 a5 a6)
theorem sBn.xF {X X1 : Nat → Nat → Int} (h : xF (fun x => x = 481) X X1) : sBn X X1 := by
  have e := h.1 1 (by decide) (by decide) (by decide) (by decide) (by decide)
  exact ⟨congrFun e 2, congrFun e 3, fun c hc => h.1 c (by omega) (by omega) (by omega) (by omega) (show ¬ c = 481 by omega)⟩
theorem sBn.row {X : Nat → Nat → Int} {r k : Nat} {w : Nat → Int} (hr : r = 481 ∨ r = 482) : sBn X (xfl X r w k) := by
  have e : ∀ c, c ≠ r → xfl X r w k c = X c := fun c hc => xfl_off _ _ _ hc
  exact ⟨congrFun (e 1 (by omega)) 2, congrFun (e 1 (by omega)) 3, fun c hc => e c (by omega)⟩
theorem sBn.of {X X1 : Nat → Nat → Int} (h : ∀ a, a ≠ 481 → X1 a = X a) : sBn X X1 := ⟨congrFun (h 1 (by decide)) 2, congrFun (h 1 (by decide)) 3, fun c hc => h c (by omega)⟩
theorem cq_13 : ((List.range 563).all (fun c => !(decide (cK c = 13)) || (decide (20 ≤ c) && decide (c < 440)))) = true := by decide +kernel
theorem cK_13 {c : Nat} (h : cK c = 13) : 20 ≤ c ∧ c < 440 := by
  have h1 := jall cq_13 (cK_in (a := c) (by omega))
  simpa [h] using h1
theorem cq_bd : (bydl.all fun x => decide (172 ≤ x ∨ x = 21 ∨ x = 51 ∨ x = 81 ∨ x = 111)) = true := by decide +kernel
theorem by0.dF {V V1 : Nat → Int} (b : by0 V) (h : dF V V1) : by0 V1 := fun x hx => by
  have h1 := of_decide_eq_true (List.all_eq_true.mp cq_bd x hx)
  exact (h x (by omega)).trans (b x hx)
theorem DG.xF {X X1 : Nat → Nat → Int} (d : DG X) (h : xF (fun x => x = 481) X X1) : DG X1 := fun p kp => by
  have q := h.2 ⟨⟨(d 20 cq_d20).1, by have := (d 20 cq_d20).2; rw [mK_z.1] at this; omega⟩, ⟨(d 50 cq_d50).1, by have := (d 50 cq_d50).2; rw [mK_z.2.1] at this; omega⟩, ⟨(d 80 cq_d80).1, by have := (d 80 cq_d80).2; rw [mK_z.2.2.1] at this; omega⟩, ⟨(d 110 cq_d110).1, by have := (d 110 cq_d110).2; rw [mK_z.2.2.2.1] at this; omega⟩⟩
  obtain ⟨q1, q2, q3, q4⟩ := q
  by_cases c1 : p = 20
  · subst c1
    rw [mK_z.1]
    omega
  by_cases c2 : p = 50
  · subst c2
    rw [mK_z.2.1]
    omega
  by_cases c3 : p = 80
  · subst c3
    rw [mK_z.2.2.1]
    omega
  by_cases c4 : p = 110
  · subst c4
    rw [mK_z.2.2.2.1]
    omega
  have c5 : p ≠ 481 := fun e => by
    have := cK_13 kp
    omega
  rw [h.1 p c1 c2 c3 c4 c5]
  exact d p kp
theorem DG.of {X X1 : Nat → Nat → Int} (d : DG X) (h : ∀ p, cK p = 13 → X1 p = X p) : DG X1 := fun p kp => by
  rw [h p kp]
  exact d p kp
theorem BN.cg {X X1 : Nat → Nat → Int} {o : Nat} {N : Nat → Int} (h : ∀ c, o ≤ c → c < o + 10 → X1 c = X c) (q : BN X o N) : BN X1 o N := by
  refine ⟨fun r hr j hj => ?_, ?_, fun k hk => ?_⟩
  · rw [h _ (by omega) (by omega)]
    exact q.1 r hr j hj
  · rw [h _ (by omega) (by omega)]
    exact q.2.1
  · rw [h _ (by omega) (by omega), h _ (by omega) (by omega)]
    exact q.2.2 k hk
theorem CR.sb {X X1 : Nat → Nat → Int} {N : Nat → Int} {u : Nat} {H : Nat → Nat → Int} (s : sBn X X1) (c : CR X N u H) : CR X1 N u H := by
  obtain ⟨e, he, h3, h2, b, bh, tl⟩ := c
  exact ⟨e, he, s.2.1.trans h3, s.1.trans h2, b.cg (fun c c1 c2 => s.2.2 c (by omega)), fun k hk => (bh k hk).cg (fun c c1 c2 => s.2.2 c (by omega)), tl.to (fun c hc => s.2.2 c (by omega))⟩
theorem BN.pt {X : Nat → Nat → Int} {o : Nat} {N : Nat → Int} (g : gN N) (q : BN X o N) : PT X o (N 78).toNat := by
  obtain ⟨g1, g2, g3, g4⟩ := g
  refine ⟨by rw [q.2.1]; omega, by omega, fun i hi => ?_, fun a b hab hb => ?_⟩
  · rw [(q.2.2 i (by omega)).1, (q.2.2 i (by omega)).2]
    exact g3 i (by omega)
  · rw [(q.2.2 a (by omega)).1, (q.2.2 b (by omega)).1]
    exact g4 a b hab (by omega)
theorem BN.sm {X : Nat → Nat → Int} {o : Nat} {N : Nat → Int} (g : gN N) (q : BN X o N) {r : Nat} (hr : r < 6) : sml (X (o + 2 + r)) := fun j hj => by
  rw [q.1 r hr j hj]
  have := g.1 (r * 13 + j) (by omega)
  omega
theorem CR.sm {X : Nat → Nat → Int} {N : Nat → Int} {u : Nat} {H : Nat → Nat → Int} (g : gN N) (c : CR X N u H) {a : Int} (ha : 0 ≤ a ∧ a ≤ 5) : sml (X (4 + a.toNat)) := by
  obtain ⟨e, he, h3, h2, b, bh, tl⟩ := c
  have := b.sm g (r := a.toNat) (by omega)
  exact this
theorem CR.rw {X : Nat → Nat → Int} {N : Nat → Int} {u : Nat} {H : Nat → Nat → Int} (c : CR X N u H) {a : Int} (ha : 0 ≤ a ∧ a ≤ 5) : ∀ j, j < 13 → X (4 + a.toNat) j = rwN N a j := fun j hj => by
  obtain ⟨e, he, h3, h2, b, bh, tl⟩ := c
  have := b.1 a.toNat (by omega) j hj
  show _ = if j < 13 then N (a.toNat * 13 + j) else 0
  rw [if_pos hj]
  exact this
theorem CR.rw13 {X : Nat → Nat → Int} {N : Nat → Int} {u : Nat} {H : Nat → Nat → Int} (c : CR X N u H) {a : Int} (ha : 0 ≤ a ∧ a ≤ 5) : rw13 (X (4 + a.toNat)) = rwN N a := funext fun j => by
  show (if j < 13 then X (4 + a.toNat) j else 0) = _
  by_cases q : j < 13
  · rw [if_pos q]
    exact c.rw ha j q
  · rw [if_neg q]
    show _ = if j < 13 then N (a.toNat * 13 + j) else 0
    rw [if_neg q]
theorem CR.keep {X X2 : Nat → Nat → Int} {N : Nat → Int} {u : Nat} {H : Nat → Nat → Int} {e : Nat} (he : e < 8) (hu : u ≤ 8) (h3 : X 1 3 = (e : Int)) (b : BN X 2 N) (bh : ∀ k, k < u → BN X (483 + 10 * ((e + 7 - k) % 8)) (H k)) (tl : TL X) (kk : kpE X X2 e u) : CR X2 N (upu u) (pushH N H) := by
  obtain ⟨k1, k2, k3, k4, k5⟩ := kk
  refine ⟨(e + 1) % 8, by omega, k3, k4, b.cg (fun c c1 c2 => k2 c (by omega) (by omega)), fun k hk => ?_, tl.to (fun c hc => k2 c (by omega) (by omega))⟩
  have hu2 : upu u = if u < 8 then u + 1 else 8 := rfl
  cases k with
  | zero =>
    rw [show 483 + 10 * (((e + 1) % 8 + 7 - 0) % 8) = 483 + 10 * e by omega]
    show BN X2 (483 + 10 * e) N
    refine ⟨fun r hr j hj => ?_, ?_, fun k hk => ?_⟩
    · exact (k1.1 r hr j hj).trans (b.1 r hr j hj)
    · exact k1.2.1.trans b.2.1
    · have y := k1.2.2 k (by rw [b.2.1]; exact hk)
      exact ⟨y.1.trans (b.2.2 k hk).1, y.2.trans (b.2.2 k hk).2⟩
  | succ k =>
    have hk2 : k < u ∧ k < 7 := by
      rw [hu2] at hk
      split at hk <;> omega
    rw [show 483 + 10 * (((e + 1) % 8 + 7 - (k + 1)) % 8) = 483 + 10 * ((e + 7 - k) % 8) by omega]
    exact (bh k hk2.1).cg (fun c c1 c2 => k2 c (by omega) (by omega))
theorem CR.put {X : Nat → Nat → Int} {N : Nat → Int} {u : Nat} {H : Nat → Nat → Int} {t : Nat} (ht : t < 6) {w : Nat → Int} (c : CR X N u H) : CR (xfl X (4 + t) w 13) (jfl N t w 13) u H := by
  obtain ⟨e, he, h3, h2, b, bh, tl⟩ := c
  refine ⟨e, he, by rw [xfl_off _ _ _ (by omega)]; exact h3, by rw [xfl_off _ _ _ (by omega)]; exact h2, ⟨fun r hr j hj => ?_, ?_, fun k hk => ?_⟩, fun k hk => (bh k hk).cg (fun c c1 c2 => xfl_off _ _ _ (by omega)), tl.to (fun c hc => xfl_off _ _ _ (by omega))⟩
  · by_cases q : r = t
    · subst q
      rw [show 2 + 2 + r = 4 + r by omega, xfl_at _ _ _ hj, jfl_at _ _ _ hj]
    · rw [xfl_off _ _ _ (by omega), jfl_off _ _ _ (by omega)]
      exact b.1 r hr j hj
  · rw [xfl_off _ _ _ (by omega), jfl_off _ _ _ (by omega)]
    exact b.2.1
  · rw [jfl_off _ _ _ (by omega)] at hk
    rw [xfl_off _ _ _ (by omega), xfl_off _ _ _ (by omega), jfl_off _ _ _ (by omega), jfl_off _ _ _ (by omega)]
    exact b.2.2 k hk
theorem kpE.dg {X X2 : Nat → Nat → Int} {e u : Nat} (he : e < 8) (d : DG X) (kk : kpE X X2 e u) : DG X2 := d.of (fun p kp => kk.2.1 p (by have := cK_13 kp; omega) (by have := cK_13 kp; omega))
section MST
variable {g h : mj_H} {n D u : Nat} {V : Nat → Int} {X : Nat → Nat → Int} {N : Nat → Int} {H : Nat → Nat → Int}
/-- a call has thrown: the benches are as before -/
theorem cS.thr (hg : g.length ≤ n) (m : jM g n V X h) (b : by0 V) (d : DG X) (c : CR X N u H) : cS g (n + 1) N u H (h ++ [xE]) := ⟨V, X, m.app hg, b, d, c⟩
theorem mX_keepE (A : AS N u H) (m : jM g n V X h) (d : DG X) (c : CR X N u H) : mj_Ok (D + 4) 156 [.ref 1] h (fun z => ∃ (X2 : Nat → Nat → Int) (h2 : mj_H), jM g n V X2 h2 ∧ DG X2 ∧ CR X2 N (upu u) (pushH N H) ∧ (∀ a, (a < 483 ∨ 563 ≤ a) → a ≠ 1 → X2 a = X a) ∧ z = (.inl none, h2)) := by
  obtain ⟨e, he, h3, h2, b, bh, tl⟩ := c
  refine (mC_keepE (D := D) m he A.2.1 h3 h2 (b.pt A.1)).to (fun z hz => ?_)
  obtain ⟨X2, h2', m2, kk, rfl⟩ := hz
  exact ⟨X2, h2', m2, kk.dg he d, CR.keep he A.2.1 h3 b bh tl kk, fun a ha a1 => kk.2.1 a (by omega) a1, rfl⟩
theorem mX_keep (A : AS N u H) (m : jM g n V X h) (b0 : by0 V) (d : DG X) (c : CR X N u H) {to : Int} (ht : 0 ≤ to ∧ to ≤ 5) (hr : sml (X 481)) : mj_Ok (D + 5) 154 [.ref 1, .int (jn to)] h (fun z => ∃ h2, cS g n (jfl N to.toNat (X 481) 13) (upu u) (pushH N H) h2 ∧ z = (.inl (some (.int (jn ((fdg (X 481) 13 : Int) - 1)))), h2)) := by
  obtain ⟨e, he, h3, h2, b, bh, tl⟩ := c
  have k := mC_keep (D := D) m he A.2.1 h3 h2 (b.pt A.1) (to := to.toNat) (by omega) hr
  rw [Int.toNat_of_nonneg ht.1] at k
  refine k.to (fun z hz => ?_)
  obtain ⟨X2, h2', m2, kk, rfl⟩ := hz
  have c2 := CR.keep he A.2.1 h3 b bh tl kk
  refine ⟨h2', ⟨V, _, m2, b0, (kk.dg he d).of (fun p kp => xfl_off _ _ _ (by have := cK_13 kp; omega)), c2.put (by omega)⟩, rfl⟩
theorem gN_w {to : Int} {w : Nat → Int} (gn : gN N) (ht : 0 ≤ to ∧ to ≤ 5) (hw : sml w) : gN (jfl N to.toNat w 13) := by
  have h1 := gN_row (r := to.toNat) (p := 0) (V := w) gn (by omega) (fun e he => by have := hw e he; rw [Nat.zero_mul, Nat.zero_add]; omega)
  simp only [Nat.zero_mul, Nat.zero_add] at h1
  exact h1
theorem AS.push {to : Int} {w : Nat → Int} (A : AS N u H) (ht : 0 ≤ to ∧ to ≤ 5) (hw : sml w) : AS (jfl N to.toNat w 13) (upu u) (pushH N H) := by
  refine ⟨gN_w A.1 ht hw, by unfold upu; split <;> omega, fun k hk => ?_⟩
  cases k with
  | zero => exact A.1
  | succ k => exact A.2.2 k (by have := A.2.1; unfold upu at hk; split at hk <;> omega)
end MST
/-! The class, exactly: the calls that lay a polynomial into a register (add, subtract, multiply, power, derive, substitute). -/
/-- a call that lays a polynomial into a register: reg the registers are ones, fail what is thrown, res what is laid -/
def RO (g : mj_H) (n : Nat) (N : Nat → Int) (u : Nat) (H : Nat → Nat → Int) (reg : Prop) (fail : Nat → Prop) (res : (Nat → Int) → Prop) (to : Int) (z : mj_R) : Prop := (reg ∧ ∃ (w : Nat → Int) (h2 : mj_H), sml w ∧ res w ∧ cS g n (jfl N to.toNat w 13) (upu u) (pushH N H) h2 ∧ z = (.inl (some (.int (jn ((fdg w 13 : Int) - 1)))), h2)) ∨ (∃ (k : Nat) (h2 : mj_H), ((¬ reg ∧ k = 0) ∨ (reg ∧ fail k)) ∧ cS g (n + 1) N u H h2 ∧ z = (.inr k, h2))
/-- what makes a polynomial in the result -/
def oR (g : mj_H) (n : Nat) (X : Nat → Nat → Int) (res : (Nat → Int) → Prop) (bad : Prop) (z : mj_R) : Prop := ∃ (V2 : Nat → Int) (X2 : Nat → Nat → Int) (h2 : mj_H) (y : Int), jM g n V2 X2 h2 ∧ by0 V2 ∧ DG X2 ∧ sBn X X2 ∧ ((y = 1 ∧ sml (X2 481) ∧ res (X2 481)) ∨ (y = 0 ∧ bad)) ∧ z = (.inl (some (.int (jn y))), h2)
theorem sml_cg {f f' : Nat → Int} (e : ∀ j, j < 13 → f j = f' j) (s : sml f) : sml f' := fun j hj => by
  rw [← e j hj]
  exact s j hj
/-- the sum, the difference -/
def sumN (N : Nat → Int) (f a b : Int) : Nat → Int := fun j => rwN N a j + f * rwN N b j
def drN (N : Nat → Int) (a : Int) : Nat → Int := dvr (rwN N a)
def isP (P : pz_P) (w : Nat → Int) : Prop := fit13 P ∧ ∀ j, j < 13 → w j = P j
theorem isP.s {P : pz_P} {w : Nat → Int} (h : isP P w) : sml w := sml_cg (fun j hj => (h.2 j hj).symm) h.1.1
section MP1
variable {g h : mj_H} {n D u : Nat} {V : Nat → Int} {X : Nat → Nat → Int} {N : Nat → Int} {H : Nat → Nat → Int}
theorem cR_ne {a : Int} (ha : 0 ≤ a ∧ a ≤ 5) : 4 + a.toNat ≠ 481 := by omega
theorem oX_sum (A : AS N u H) (m : jM g n V X h) (b0 : by0 V) (d : DG X) (c : CR X N u H) {a : Int} (ha : 0 ≤ a ∧ a ≤ 5) {b : Int} (hb : 0 ≤ b ∧ b ≤ 5) {f : Int} (hf : f = 1 ∨ f = -1) : mj_Ok (D + 2) 167 [.ref (4 + a.toNat), .ref (4 + b.toNat), .int (jn f), .ref 481] h (oR g n X (fun w => sml (sumN N f a b) ∧ ∀ j, j < 13 → w j = sumN N f a b j) (¬ sml (sumN N f a b))) := by
  have ea : ∀ j, j < 13 → (fun e => X (4 + a.toNat) e + f * X (4 + b.toNat) e) j = sumN N f a b j := fun j hj => by
    show X (4 + a.toNat) j + f * X (4 + b.toNat) j = rwN N a j + f * rwN N b j
    rw [c.rw ha j hj, c.rw hb j hj]
  refine (mS_sum (D := D) m (mK_rt a.toNat (by omega)) (mK_rt b.toNat (by omega)) cq_d481 (c.sm A.1 ha) (c.sm A.1 hb) hf).to (fun z hz => ?_)
  obtain ⟨h2, m2, hz⟩ := hz
  have d2 : DG (xfl X 481 (fun e => X (4 + a.toNat) e + f * X (4 + b.toNat) e) 13) := d.of (fun p kp => xfl_off _ _ _ (by have := cK_13 kp; omega))
  rcases hz with ⟨hs, rfl⟩ | ⟨hs, rfl⟩
  · refine ⟨V, _, h2, 1, m2, b0, d2, sBn.row (Or.inl rfl), Or.inl ⟨rfl, sml_cg (fun j hj => (xfl_at _ _ _ hj).symm) hs, sml_cg ea hs, fun j hj => (xfl_at _ _ _ hj).trans (ea j hj)⟩, rfl⟩
  · exact ⟨V, _, h2, 0, m2, b0, d2, sBn.row (Or.inl rfl), Or.inr ⟨rfl, fun q => hs (sml_cg (fun j hj => (ea j hj).symm) q)⟩, rfl⟩
theorem oX_mul (A : AS N u H) (m : jM g n V X h) (b0 : by0 V) (d : DG X) (c : CR X N u H) {a : Int} (ha : 0 ≤ a ∧ a ≤ 5) {b : Int} (hb : 0 ≤ b ∧ b ≤ 5) : mj_Ok (D + 4) 11 [.ref 19, .ref (4 + a.toNat), .ref (4 + b.toNat), .ref 481] h (oR g n X (isP (pz_mul (rwN N a) (rwN N b))) (¬ fit13 (pz_mul (rwN N a) (rwN N b)))) := by
  refine (mD_mulRows (D := D) m (mK_rt a.toNat (by omega)) (mK_rt b.toNat (by omega)) (c.sm A.1 ha) (c.sm A.1 hb) cq_d481).to (fun z hz => ?_)
  obtain ⟨V2, X2, h2, m2, df, xf, hz⟩ := hz
  rw [c.rw13 ha, c.rw13 hb] at hz
  rcases hz with ⟨hf, rfl, hx⟩ | ⟨hf, rfl⟩
  · exact ⟨V2, X2, h2, 1, m2, b0.dF df, d.xF xf, sBn.xF xf, Or.inl ⟨rfl, isP.s ⟨hf, hx⟩, hf, hx⟩, rfl⟩
  · exact ⟨V2, X2, h2, 0, m2, b0.dF df, d.xF xf, sBn.xF xf, Or.inr ⟨rfl, hf⟩, rfl⟩
theorem oX_put (A : AS N u H) (m : jM g n V X h) (b0 : by0 V) (d : DG X) (c : CR X N u H) {a : Int} (ha : 0 ≤ a ∧ a ≤ 5) {b : Int} (hb : 0 ≤ b ∧ b ≤ 5) : mj_Ok (D + 4) 13 [.ref 19, .ref (4 + a.toNat), .ref (4 + b.toNat), .ref 481] h (oR g n X (isP (hw (rwN N a) (rwN N b) 13)) (¬ fit13 (hw (rwN N a) (rwN N b) 13))) := by
  refine (mD_putIn (D := D) m (mK_rt a.toNat (by omega)) (mK_rt b.toNat (by omega)) cq_d481 (c.sm A.1 ha) (c.sm A.1 hb) (b0.p cq_d80)).to (fun z hz => ?_)
  obtain ⟨V2, X2, h2, m2, df, xf, hz⟩ := hz
  rw [c.rw13 ha, c.rw13 hb] at hz
  rcases hz with ⟨hf, rfl, hx⟩ | ⟨hf, rfl⟩
  · exact ⟨V2, X2, h2, 1, m2, b0.dF df, d.xF xf, sBn.xF xf, Or.inl ⟨rfl, isP.s ⟨hf, hx⟩, hf, hx⟩, rfl⟩
  · exact ⟨V2, X2, h2, 0, m2, b0.dF df, d.xF xf, sBn.xF xf, Or.inr ⟨rfl, hf⟩, rfl⟩
theorem oX_pow (A : AS N u H) (m : jM g n V X h) (b0 : by0 V) (d : DG X) (c : CR X N u H) {a : Int} (ha : 0 ≤ a ∧ a ≤ 5) {e : Int} (he : 0 ≤ e ∧ e ≤ 12) : mj_Ok (D + 4) 12 [.ref 19, .ref (4 + a.toNat), .int (jn e), .ref 481] h (oR g n X (isP (pw (rwN N a) e.toNat)) (¬ fit13 (pw (rwN N a) e.toNat))) := by
  have k := mD_raise (D := D) m (mK_rt a.toNat (by omega)) cq_d481 (c.sm A.1 ha) (e := e.toNat) (by omega) (b0.p cq_d80)
  rw [Int.toNat_of_nonneg he.1] at k
  refine k.to (fun z hz => ?_)
  obtain ⟨V2, X2, h2, m2, df, xf, hz⟩ := hz
  rw [c.rw13 ha] at hz
  rcases hz with ⟨hf, rfl, hx⟩ | ⟨hf, rfl⟩
  · exact ⟨V2, X2, h2, 1, m2, b0.dF df, d.xF xf, sBn.xF xf, Or.inl ⟨rfl, isP.s ⟨hf, hx⟩, hf, hx⟩, rfl⟩
  · exact ⟨V2, X2, h2, 0, m2, b0.dF df, d.xF xf, sBn.xF xf, Or.inr ⟨rfl, hf⟩, rfl⟩
theorem oX_der (A : AS N u H) (m : jM g n V X h) (b0 : by0 V) (d : DG X) (c : CR X N u H) {a : Int} (ha : 0 ≤ a ∧ a ≤ 5) : mj_Ok (D + 2) 168 [.ref (4 + a.toNat), .ref 481] h (oR g n X (fun w => sml (drN N a) ∧ ∀ j, j < 13 → w j = drN N a j) (¬ sml (drN N a))) := by
  have ea : ∀ j, j < 13 → dvr (X (4 + a.toNat)) j = drN N a j := fun j hj => by
    show dvr (X (4 + a.toNat)) j = dvr (rwN N a) j
    unfold dvr
    split
    · rw [c.rw ha _ (by omega)]
    · rfl
  refine (mS_derive (D := D) m (mK_rt a.toNat (by omega)) cq_d481 (cR_ne ha) (c.sm A.1 ha)).to (fun z hz => ?_)
  obtain ⟨X2, h2, m2, ho, hz⟩ := hz
  have d2 : DG X2 := d.of (fun p kp => ho p (by have := cK_13 kp; omega))
  rcases hz with ⟨hs, rfl, hx⟩ | ⟨hs, rfl⟩
  · exact ⟨V, X2, h2, 1, m2, b0, d2, sBn.of ho, Or.inl ⟨rfl, sml_cg (fun j hj => (hx j hj).symm) hs, sml_cg ea hs, fun j hj => (hx j hj).trans (ea j hj)⟩, rfl⟩
  · exact ⟨V, X2, h2, 0, m2, b0, d2, sBn.of ho, Or.inr ⟨rfl, fun q => hs (sml_cg (fun j hj => (ea j hj).symm) q)⟩, rfl⟩
end MP1
section MP2
variable {g h : mj_H} {n D u : Nat} {N : Nat → Int} {H : Nat → Nat → Int}
theorem pX_add (hg : g.length ≤ n) (A : AS N u H) (s : cS g n N u H h) {to : Int} (rto : -2147483648 ≤ to ∧ to ≤ 2147483647) {a : Int} (ra : -2147483648 ≤ a ∧ a ≤ 2147483647) {b : Int} (rb : -2147483648 ≤ b ∧ b ≤ 2147483647) : mj_Ok (D + 6) 102 [.ref 1, .int (jn to), .int (jn a), .int (jn b)] h (RO g n N u H ((0 ≤ to ∧ to ≤ 5) ∧ (0 ≤ a ∧ a ≤ 5) ∧ (0 ≤ b ∧ b ≤ 5)) (fun k => ¬ sml (sumN N 1 a b) ∧ k = 1) (fun w => sml (sumN N 1 a b) ∧ ∀ j, j < 13 → w j = sumN N 1 a b j) to) := by
  obtain ⟨V, X, m, b0, d, c⟩ := s
  refine mj_Ok.of (M := mj_m102) rfl rfl rfl ?_
  iterate 2 refine mj_T.pl rfl rfl rfl rfl ?_
  refine mj_T.call rfl rfl (Nat.le_of_ble_eq_true rfl) (Nat.le_of_ble_eq_true rfl) (mV_of m 19 cq_d1 (by decide) rfl (by decide) rfl _) rfl (mj_Ok.up (by omega) (mC_rowOf (D := 0) m (i := to) (by omega))) (fun v g1 hq => ?_) (fun i g1 hq => ?_)
  rotate_left
  · rcases hq with ⟨_, hq⟩ | ⟨hn, hq⟩
    · cases hq
    · cases hq
      exact Or.inl ⟨rfl, Or.inr ⟨_, _, Or.inl ⟨by omega, rfl⟩, cS.thr hg m b0 d c, rfl⟩⟩
  rcases hq with ⟨kto, hq⟩ | ⟨_, hq⟩
  rotate_left
  · cases hq
  cases hq
  refine mj_T.eq (pc2 := 5) (st2 := [.ref (4 + to.toNat)]) ?_ rfl rfl rfl rfl
  iterate 3 refine mj_T.pl rfl rfl rfl rfl ?_
  refine mj_T.call rfl rfl (Nat.le_of_ble_eq_true rfl) (Nat.le_of_ble_eq_true rfl) (mV_of m 19 cq_d1 (by decide) rfl (by decide) rfl _) rfl (mj_Ok.up (by omega) (mC_rowOf (D := 0) m (i := a) (by omega))) (fun v g2 hq => ?_) (fun i g2 hq => ?_)
  rotate_left
  · rcases hq with ⟨_, hq⟩ | ⟨hn, hq⟩
    · cases hq
    · cases hq
      exact Or.inl ⟨rfl, Or.inr ⟨_, _, Or.inl ⟨by omega, rfl⟩, cS.thr hg m b0 d c, rfl⟩⟩
  rcases hq with ⟨ka, hq⟩ | ⟨_, hq⟩
  rotate_left
  · cases hq
  cases hq
  refine mj_T.eq (pc2 := 11) (st2 := [.ref (4 + a.toNat)]) ?_ rfl rfl rfl rfl
  iterate 2 refine mj_T.pl rfl rfl rfl rfl ?_
  refine mj_T.call rfl rfl (Nat.le_of_ble_eq_true rfl) (Nat.le_of_ble_eq_true rfl) (mV_of m 19 cq_d1 (by decide) rfl (by decide) rfl _) rfl (mj_Ok.up (by omega) (mC_rowOf (D := 0) m (i := b) (by omega))) (fun v g3 hq => ?_) (fun i g3 hq => ?_)
  rotate_left
  · rcases hq with ⟨_, hq⟩ | ⟨hn, hq⟩
    · cases hq
    · cases hq
      exact Or.inl ⟨rfl, Or.inr ⟨_, _, Or.inl ⟨by omega, rfl⟩, cS.thr hg m b0 d c, rfl⟩⟩
  rcases hq with ⟨kb, hq⟩ | ⟨_, hq⟩
  rotate_left
  · cases hq
  cases hq
  refine mj_T.eq (pc2 := 16) (st2 := [.ref (4 + b.toNat), .ref (4 + a.toNat)]) ?_ rfl rfl rfl rfl
  iterate 2 refine mj_T.pl rfl rfl rfl rfl ?_
  refine mT_get m 19 cq_d1 (by decide) rfl rfl ?_
  refine mj_T.call rfl rfl (Nat.le_of_ble_eq_true rfl) (Nat.le_of_ble_eq_true rfl) rfl rfl (mj_Ok.up (by omega) (oX_sum (D := 0) A m b0 d c ka kb (f := 1) (Or.inl rfl))) (fun v g4 hq => ?_) (fun i g4 hq => ?_)
  rotate_left
  · obtain ⟨_, _, _, _, _, _, _, _, _, hq⟩ := hq; cases hq
  obtain ⟨V5, X5, _, y, m5, b5, d5, s5, hy, hq⟩ := hq
  cases hq
  have hy2 : y = 0 ∨ y = 1 := by
    rcases hy with ⟨e, _⟩ | ⟨e, _⟩
    · exact Or.inr e
    · exact Or.inl e
  refine mj_T.eq (pc2 := 24) (st2 := [.int (jn y)]) ?_ rfl rfl rfl rfl
  refine mj_T.if0 (a := y) rfl ⟨by omega, by omega⟩ (fun c5 => ?_) (fun c5 => ?_)
  · simp only [jc, Bool.not_eq_true', Bool.not_eq_false', decide_eq_true_eq, decide_eq_false_iff_not] at c5
    have hok := hy.resolve_right (fun q => absurd q.1 (by omega))
    iterate 2 refine mj_T.pl rfl rfl rfl rfl ?_
    refine mj_T.call rfl rfl (Nat.le_of_ble_eq_true rfl) (Nat.le_of_ble_eq_true rfl) (mV_of m5 19 cq_d1 (by decide) rfl (by decide) rfl _) rfl (mj_Ok.up (by omega) (mX_keep (D := 0) A m5 b5 d5 (c.sb s5) kto hok.2.1)) (fun v g6 hq => ?_) (fun i g6 hq => ?_)
    rotate_left
    · obtain ⟨_, _, hq⟩ := hq; cases hq
    obtain ⟨_, cs, hq⟩ := hq
    cases hq
    refine mj_T.eq (pc2 := 40) (st2 := [.int (jn ((fdg (X5 481) 13 : Int) - 1))]) ?_ rfl rfl rfl rfl
    exact mj_T.ret rfl rfl rfl (Or.inl ⟨⟨kto, ka, kb⟩, _, _, hok.2.1, hok.2.2, cs, rfl⟩)
  · simp only [jc, Bool.not_eq_true', Bool.not_eq_false', decide_eq_true_eq, decide_eq_false_iff_not] at c5
    have hbad := hy.resolve_left (fun q => absurd q.1 (by omega))
    exact mj_T.throws rfl rfl rfl (Nat.le_of_ble_eq_true rfl) (Or.inr ⟨_, _, Or.inr ⟨⟨kto, ka, kb⟩, ⟨hbad.2, rfl⟩⟩, cS.thr hg m5 b5 d5 (c.sb s5), rfl⟩)
theorem pX_subtract (hg : g.length ≤ n) (A : AS N u H) (s : cS g n N u H h) {to : Int} (rto : -2147483648 ≤ to ∧ to ≤ 2147483647) {a : Int} (ra : -2147483648 ≤ a ∧ a ≤ 2147483647) {b : Int} (rb : -2147483648 ≤ b ∧ b ≤ 2147483647) : mj_Ok (D + 6) 103 [.ref 1, .int (jn to), .int (jn a), .int (jn b)] h (RO g n N u H ((0 ≤ to ∧ to ≤ 5) ∧ (0 ≤ a ∧ a ≤ 5) ∧ (0 ≤ b ∧ b ≤ 5)) (fun k => ¬ sml (sumN N (-1) a b) ∧ k = 1) (fun w => sml (sumN N (-1) a b) ∧ ∀ j, j < 13 → w j = sumN N (-1) a b j) to) := by
  obtain ⟨V, X, m, b0, d, c⟩ := s
  refine mj_Ok.of (M := mj_m103) rfl rfl rfl ?_
  iterate 2 refine mj_T.pl rfl rfl rfl rfl ?_
  refine mj_T.call rfl rfl (Nat.le_of_ble_eq_true rfl) (Nat.le_of_ble_eq_true rfl) (mV_of m 19 cq_d1 (by decide) rfl (by decide) rfl _) rfl (mj_Ok.up (by omega) (mC_rowOf (D := 0) m (i := to) (by omega))) (fun v g1 hq => ?_) (fun i g1 hq => ?_)
  rotate_left
  · rcases hq with ⟨_, hq⟩ | ⟨hn, hq⟩
    · cases hq
    · cases hq
      exact Or.inl ⟨rfl, Or.inr ⟨_, _, Or.inl ⟨by omega, rfl⟩, cS.thr hg m b0 d c, rfl⟩⟩
  rcases hq with ⟨kto, hq⟩ | ⟨_, hq⟩
  rotate_left
  · cases hq
  cases hq
  refine mj_T.eq (pc2 := 5) (st2 := [.ref (4 + to.toNat)]) ?_ rfl rfl rfl rfl
  iterate 3 refine mj_T.pl rfl rfl rfl rfl ?_
  refine mj_T.call rfl rfl (Nat.le_of_ble_eq_true rfl) (Nat.le_of_ble_eq_true rfl) (mV_of m 19 cq_d1 (by decide) rfl (by decide) rfl _) rfl (mj_Ok.up (by omega) (mC_rowOf (D := 0) m (i := a) (by omega))) (fun v g2 hq => ?_) (fun i g2 hq => ?_)
  rotate_left
  · rcases hq with ⟨_, hq⟩ | ⟨hn, hq⟩
    · cases hq
    · cases hq
      exact Or.inl ⟨rfl, Or.inr ⟨_, _, Or.inl ⟨by omega, rfl⟩, cS.thr hg m b0 d c, rfl⟩⟩
  rcases hq with ⟨ka, hq⟩ | ⟨_, hq⟩
  rotate_left
  · cases hq
  cases hq
  refine mj_T.eq (pc2 := 11) (st2 := [.ref (4 + a.toNat)]) ?_ rfl rfl rfl rfl
  iterate 2 refine mj_T.pl rfl rfl rfl rfl ?_
  refine mj_T.call rfl rfl (Nat.le_of_ble_eq_true rfl) (Nat.le_of_ble_eq_true rfl) (mV_of m 19 cq_d1 (by decide) rfl (by decide) rfl _) rfl (mj_Ok.up (by omega) (mC_rowOf (D := 0) m (i := b) (by omega))) (fun v g3 hq => ?_) (fun i g3 hq => ?_)
  rotate_left
  · rcases hq with ⟨_, hq⟩ | ⟨hn, hq⟩
    · cases hq
    · cases hq
      exact Or.inl ⟨rfl, Or.inr ⟨_, _, Or.inl ⟨by omega, rfl⟩, cS.thr hg m b0 d c, rfl⟩⟩
  rcases hq with ⟨kb, hq⟩ | ⟨_, hq⟩
  rotate_left
  · cases hq
  cases hq
  refine mj_T.eq (pc2 := 16) (st2 := [.ref (4 + b.toNat), .ref (4 + a.toNat)]) ?_ rfl rfl rfl rfl
  iterate 2 refine mj_T.pl rfl rfl rfl rfl ?_
  refine mT_get m 19 cq_d1 (by decide) rfl rfl ?_
  refine mj_T.call rfl rfl (Nat.le_of_ble_eq_true rfl) (Nat.le_of_ble_eq_true rfl) rfl rfl (mj_Ok.up (by omega) (oX_sum (D := 0) A m b0 d c ka kb (f := -1) (Or.inr rfl))) (fun v g4 hq => ?_) (fun i g4 hq => ?_)
  rotate_left
  · obtain ⟨_, _, _, _, _, _, _, _, _, hq⟩ := hq; cases hq
  obtain ⟨V5, X5, _, y, m5, b5, d5, s5, hy, hq⟩ := hq
  cases hq
  have hy2 : y = 0 ∨ y = 1 := by
    rcases hy with ⟨e, _⟩ | ⟨e, _⟩
    · exact Or.inr e
    · exact Or.inl e
  refine mj_T.eq (pc2 := 24) (st2 := [.int (jn y)]) ?_ rfl rfl rfl rfl
  refine mj_T.if0 (a := y) rfl ⟨by omega, by omega⟩ (fun c5 => ?_) (fun c5 => ?_)
  · simp only [jc, Bool.not_eq_true', Bool.not_eq_false', decide_eq_true_eq, decide_eq_false_iff_not] at c5
    have hok := hy.resolve_right (fun q => absurd q.1 (by omega))
    iterate 2 refine mj_T.pl rfl rfl rfl rfl ?_
    refine mj_T.call rfl rfl (Nat.le_of_ble_eq_true rfl) (Nat.le_of_ble_eq_true rfl) (mV_of m5 19 cq_d1 (by decide) rfl (by decide) rfl _) rfl (mj_Ok.up (by omega) (mX_keep (D := 0) A m5 b5 d5 (c.sb s5) kto hok.2.1)) (fun v g6 hq => ?_) (fun i g6 hq => ?_)
    rotate_left
    · obtain ⟨_, _, hq⟩ := hq; cases hq
    obtain ⟨_, cs, hq⟩ := hq
    cases hq
    refine mj_T.eq (pc2 := 40) (st2 := [.int (jn ((fdg (X5 481) 13 : Int) - 1))]) ?_ rfl rfl rfl rfl
    exact mj_T.ret rfl rfl rfl (Or.inl ⟨⟨kto, ka, kb⟩, _, _, hok.2.1, hok.2.2, cs, rfl⟩)
  · simp only [jc, Bool.not_eq_true', Bool.not_eq_false', decide_eq_true_eq, decide_eq_false_iff_not] at c5
    have hbad := hy.resolve_left (fun q => absurd q.1 (by omega))
    exact mj_T.throws rfl rfl rfl (Nat.le_of_ble_eq_true rfl) (Or.inr ⟨_, _, Or.inr ⟨⟨kto, ka, kb⟩, ⟨hbad.2, rfl⟩⟩, cS.thr hg m5 b5 d5 (c.sb s5), rfl⟩)
theorem pX_multiply (hg : g.length ≤ n) (A : AS N u H) (s : cS g n N u H h) {to : Int} (rto : -2147483648 ≤ to ∧ to ≤ 2147483647) {a : Int} (ra : -2147483648 ≤ a ∧ a ≤ 2147483647) {b : Int} (rb : -2147483648 ≤ b ∧ b ≤ 2147483647) : mj_Ok (D + 6) 104 [.ref 1, .int (jn to), .int (jn a), .int (jn b)] h (RO g n N u H ((0 ≤ to ∧ to ≤ 5) ∧ (0 ≤ a ∧ a ≤ 5) ∧ (0 ≤ b ∧ b ≤ 5)) (fun k => ¬ fit13 (pz_mul (rwN N a) (rwN N b)) ∧ k = 1) (isP (pz_mul (rwN N a) (rwN N b))) to) := by
  obtain ⟨V, X, m, b0, d, c⟩ := s
  refine mj_Ok.of (M := mj_m104) rfl rfl rfl ?_
  iterate 2 refine mj_T.pl rfl rfl rfl rfl ?_
  refine mj_T.call rfl rfl (Nat.le_of_ble_eq_true rfl) (Nat.le_of_ble_eq_true rfl) (mV_of m 19 cq_d1 (by decide) rfl (by decide) rfl _) rfl (mj_Ok.up (by omega) (mC_rowOf (D := 0) m (i := to) (by omega))) (fun v g1 hq => ?_) (fun i g1 hq => ?_)
  rotate_left
  · rcases hq with ⟨_, hq⟩ | ⟨hn, hq⟩
    · cases hq
    · cases hq
      exact Or.inl ⟨rfl, Or.inr ⟨_, _, Or.inl ⟨by omega, rfl⟩, cS.thr hg m b0 d c, rfl⟩⟩
  rcases hq with ⟨kto, hq⟩ | ⟨_, hq⟩
  rotate_left
  · cases hq
  cases hq
  refine mj_T.eq (pc2 := 5) (st2 := [.ref (4 + to.toNat)]) ?_ rfl rfl rfl rfl
  iterate 2 refine mj_T.pl rfl rfl rfl rfl ?_
  refine mT_get m 19 cq_d1 (by decide) rfl rfl ?_
  iterate 2 refine mj_T.pl rfl rfl rfl rfl ?_
  refine mj_T.call rfl rfl (Nat.le_of_ble_eq_true rfl) (Nat.le_of_ble_eq_true rfl) (mV_of m 19 cq_d1 (by decide) rfl (by decide) rfl _) rfl (mj_Ok.up (by omega) (mC_rowOf (D := 0) m (i := a) (by omega))) (fun v g2 hq => ?_) (fun i g2 hq => ?_)
  rotate_left
  · rcases hq with ⟨_, hq⟩ | ⟨hn, hq⟩
    · cases hq
    · cases hq
      exact Or.inl ⟨rfl, Or.inr ⟨_, _, Or.inl ⟨by omega, rfl⟩, cS.thr hg m b0 d c, rfl⟩⟩
  rcases hq with ⟨ka, hq⟩ | ⟨_, hq⟩
  rotate_left
  · cases hq
  cases hq
  refine mj_T.eq (pc2 := 15) (st2 := [.ref (4 + a.toNat), .ref 19]) ?_ rfl rfl rfl rfl
  iterate 2 refine mj_T.pl rfl rfl rfl rfl ?_
  refine mj_T.call rfl rfl (Nat.le_of_ble_eq_true rfl) (Nat.le_of_ble_eq_true rfl) (mV_of m 19 cq_d1 (by decide) rfl (by decide) rfl _) rfl (mj_Ok.up (by omega) (mC_rowOf (D := 0) m (i := b) (by omega))) (fun v g3 hq => ?_) (fun i g3 hq => ?_)
  rotate_left
  · rcases hq with ⟨_, hq⟩ | ⟨hn, hq⟩
    · cases hq
    · cases hq
      exact Or.inl ⟨rfl, Or.inr ⟨_, _, Or.inl ⟨by omega, rfl⟩, cS.thr hg m b0 d c, rfl⟩⟩
  rcases hq with ⟨kb, hq⟩ | ⟨_, hq⟩
  rotate_left
  · cases hq
  cases hq
  refine mj_T.eq (pc2 := 20) (st2 := [.ref (4 + b.toNat), .ref (4 + a.toNat), .ref 19]) ?_ rfl rfl rfl rfl
  refine mj_T.pl rfl rfl rfl rfl ?_
  refine mT_get m 19 cq_d1 (by decide) rfl rfl ?_
  refine mj_T.call rfl rfl (Nat.le_of_ble_eq_true rfl) (Nat.le_of_ble_eq_true rfl) (mV_of m 11 cq_d19 (by decide) rfl (by decide) rfl _) rfl (mj_Ok.up (by omega) (oX_mul (D := 0) A m b0 d c ka kb)) (fun v g4 hq => ?_) (fun i g4 hq => ?_)
  rotate_left
  · obtain ⟨_, _, _, _, _, _, _, _, _, hq⟩ := hq; cases hq
  obtain ⟨V5, X5, _, y, m5, b5, d5, s5, hy, hq⟩ := hq
  cases hq
  have hy2 : y = 0 ∨ y = 1 := by
    rcases hy with ⟨e, _⟩ | ⟨e, _⟩
    · exact Or.inr e
    · exact Or.inl e
  refine mj_T.eq (pc2 := 27) (st2 := [.int (jn y)]) ?_ rfl rfl rfl rfl
  refine mj_T.if0 (a := y) rfl ⟨by omega, by omega⟩ (fun c5 => ?_) (fun c5 => ?_)
  · simp only [jc, Bool.not_eq_true', Bool.not_eq_false', decide_eq_true_eq, decide_eq_false_iff_not] at c5
    have hok := hy.resolve_right (fun q => absurd q.1 (by omega))
    iterate 2 refine mj_T.pl rfl rfl rfl rfl ?_
    refine mj_T.call rfl rfl (Nat.le_of_ble_eq_true rfl) (Nat.le_of_ble_eq_true rfl) (mV_of m5 19 cq_d1 (by decide) rfl (by decide) rfl _) rfl (mj_Ok.up (by omega) (mX_keep (D := 0) A m5 b5 d5 (c.sb s5) kto hok.2.1)) (fun v g6 hq => ?_) (fun i g6 hq => ?_)
    rotate_left
    · obtain ⟨_, _, hq⟩ := hq; cases hq
    obtain ⟨_, cs, hq⟩ := hq
    cases hq
    refine mj_T.eq (pc2 := 43) (st2 := [.int (jn ((fdg (X5 481) 13 : Int) - 1))]) ?_ rfl rfl rfl rfl
    exact mj_T.ret rfl rfl rfl (Or.inl ⟨⟨kto, ka, kb⟩, _, _, hok.2.1, hok.2.2, cs, rfl⟩)
  · simp only [jc, Bool.not_eq_true', Bool.not_eq_false', decide_eq_true_eq, decide_eq_false_iff_not] at c5
    have hbad := hy.resolve_left (fun q => absurd q.1 (by omega))
    exact mj_T.throws rfl rfl rfl (Nat.le_of_ble_eq_true rfl) (Or.inr ⟨_, _, Or.inr ⟨⟨kto, ka, kb⟩, ⟨hbad.2, rfl⟩⟩, cS.thr hg m5 b5 d5 (c.sb s5), rfl⟩)
theorem pX_power (hg : g.length ≤ n) (A : AS N u H) (s : cS g n N u H h) {to : Int} (rto : -2147483648 ≤ to ∧ to ≤ 2147483647) {a : Int} (ra : -2147483648 ≤ a ∧ a ≤ 2147483647) {e : Int} (re : -2147483648 ≤ e ∧ e ≤ 2147483647) : mj_Ok (D + 6) 105 [.ref 1, .int (jn to), .int (jn a), .int (jn e)] h (RO g n N u H ((0 ≤ to ∧ to ≤ 5) ∧ (0 ≤ a ∧ a ≤ 5)) (fun k => (¬ (0 ≤ e ∧ e ≤ 12) ∧ k = 2) ∨ ((0 ≤ e ∧ e ≤ 12) ∧ ¬ fit13 (pw (rwN N a) e.toNat) ∧ k = 1)) (isP (pw (rwN N a) e.toNat)) to) := by
  obtain ⟨V, X, m, b0, d, c⟩ := s
  refine mj_Ok.of (M := mj_m105) rfl rfl rfl ?_
  iterate 2 refine mj_T.pl rfl rfl rfl rfl ?_
  refine mj_T.call rfl rfl (Nat.le_of_ble_eq_true rfl) (Nat.le_of_ble_eq_true rfl) (mV_of m 19 cq_d1 (by decide) rfl (by decide) rfl _) rfl (mj_Ok.up (by omega) (mC_rowOf (D := 0) m (i := to) (by omega))) (fun v g1 hq => ?_) (fun i g1 hq => ?_)
  rotate_left
  · rcases hq with ⟨_, hq⟩ | ⟨hn, hq⟩
    · cases hq
    · cases hq
      exact Or.inl ⟨rfl, Or.inr ⟨_, _, Or.inl ⟨by omega, rfl⟩, cS.thr hg m b0 d c, rfl⟩⟩
  rcases hq with ⟨kto, hq⟩ | ⟨_, hq⟩
  rotate_left
  · cases hq
  cases hq
  refine mj_T.eq (pc2 := 5) (st2 := [.ref (4 + to.toNat)]) ?_ rfl rfl rfl rfl
  iterate 3 refine mj_T.pl rfl rfl rfl rfl ?_
  refine mj_T.call rfl rfl (Nat.le_of_ble_eq_true rfl) (Nat.le_of_ble_eq_true rfl) (mV_of m 19 cq_d1 (by decide) rfl (by decide) rfl _) rfl (mj_Ok.up (by omega) (mC_rowOf (D := 0) m (i := a) (by omega))) (fun v g2 hq => ?_) (fun i g2 hq => ?_)
  rotate_left
  · rcases hq with ⟨_, hq⟩ | ⟨hn, hq⟩
    · cases hq
    · cases hq
      exact Or.inl ⟨rfl, Or.inr ⟨_, _, Or.inl ⟨by omega, rfl⟩, cS.thr hg m b0 d c, rfl⟩⟩
  rcases hq with ⟨ka, hq⟩ | ⟨_, hq⟩
  rotate_left
  · cases hq
  cases hq
  refine mj_T.eq (pc2 := 11) (st2 := [.ref (4 + a.toNat)]) ?_ rfl rfl rfl rfl
  refine mj_T.pl (loc' := [some (.ref 1), some (.int (jn to)), some (.int (jn a)), some (.int (jn e)), some (.ref (4 + a.toNat))]) rfl rfl rfl rfl ?_
  refine mj_T.pl rfl rfl rfl rfl ?_
  refine mj_T.call rfl rfl (Nat.le_of_ble_eq_true rfl) (Nat.le_of_ble_eq_true rfl) rfl rfl (mj_Ok.up (by omega) (mC_exponent (D := 0) (i := e) (by omega))) (fun v g3 hq => ?_) (fun i g3 hq => ?_)
  rotate_left
  · rcases hq with ⟨_, hq⟩ | ⟨hn, hq⟩
    · cases hq
    · cases hq
      exact Or.inl ⟨rfl, Or.inr ⟨_, _, Or.inr ⟨⟨kto, ka⟩, Or.inl ⟨hn, rfl⟩⟩, cS.thr hg m b0 d c, rfl⟩⟩
  rcases hq with ⟨ke, hq⟩ | ⟨_, hq⟩
  rotate_left
  · cases hq
  cases hq
  refine mj_T.eq (pc2 := 17) (st2 := []) ?_ rfl rfl rfl rfl
  refine mj_T.pl rfl rfl rfl rfl ?_
  refine mT_get m 19 cq_d1 (by decide) rfl rfl ?_
  iterate 3 refine mj_T.pl rfl rfl rfl rfl ?_
  refine mT_get m 19 cq_d1 (by decide) rfl rfl ?_
  refine mj_T.call rfl rfl (Nat.le_of_ble_eq_true rfl) (Nat.le_of_ble_eq_true rfl) (mV_of m 11 cq_d19 (by decide) rfl (by decide) rfl _) rfl (mj_Ok.up (by omega) (oX_pow (D := 0) A m b0 d c ka ke)) (fun v g4 hq => ?_) (fun i g4 hq => ?_)
  rotate_left
  · obtain ⟨_, _, _, _, _, _, _, _, _, hq⟩ := hq; cases hq
  obtain ⟨V5, X5, _, y, m5, b5, d5, s5, hy, hq⟩ := hq
  cases hq
  have hy2 : y = 0 ∨ y = 1 := by
    rcases hy with ⟨e, _⟩ | ⟨e, _⟩
    · exact Or.inr e
    · exact Or.inl e
  refine mj_T.eq (pc2 := 31) (st2 := [.int (jn y)]) ?_ rfl rfl rfl rfl
  refine mj_T.if0 (a := y) rfl ⟨by omega, by omega⟩ (fun c5 => ?_) (fun c5 => ?_)
  · simp only [jc, Bool.not_eq_true', Bool.not_eq_false', decide_eq_true_eq, decide_eq_false_iff_not] at c5
    have hok := hy.resolve_right (fun q => absurd q.1 (by omega))
    iterate 2 refine mj_T.pl rfl rfl rfl rfl ?_
    refine mj_T.call rfl rfl (Nat.le_of_ble_eq_true rfl) (Nat.le_of_ble_eq_true rfl) (mV_of m5 19 cq_d1 (by decide) rfl (by decide) rfl _) rfl (mj_Ok.up (by omega) (mX_keep (D := 0) A m5 b5 d5 (c.sb s5) kto hok.2.1)) (fun v g6 hq => ?_) (fun i g6 hq => ?_)
    rotate_left
    · obtain ⟨_, _, hq⟩ := hq; cases hq
    obtain ⟨_, cs, hq⟩ := hq
    cases hq
    refine mj_T.eq (pc2 := 47) (st2 := [.int (jn ((fdg (X5 481) 13 : Int) - 1))]) ?_ rfl rfl rfl rfl
    exact mj_T.ret rfl rfl rfl (Or.inl ⟨⟨kto, ka⟩, _, _, hok.2.1, hok.2.2, cs, rfl⟩)
  · simp only [jc, Bool.not_eq_true', Bool.not_eq_false', decide_eq_true_eq, decide_eq_false_iff_not] at c5
    have hbad := hy.resolve_left (fun q => absurd q.1 (by omega))
    exact mj_T.throws rfl rfl rfl (Nat.le_of_ble_eq_true rfl) (Or.inr ⟨_, _, Or.inr ⟨⟨kto, ka⟩, Or.inr ⟨ke, hbad.2, rfl⟩⟩, cS.thr hg m5 b5 d5 (c.sb s5), rfl⟩)
theorem pX_derive (hg : g.length ≤ n) (A : AS N u H) (s : cS g n N u H h) {to : Int} (rto : -2147483648 ≤ to ∧ to ≤ 2147483647) {a : Int} (ra : -2147483648 ≤ a ∧ a ≤ 2147483647) : mj_Ok (D + 6) 106 [.ref 1, .int (jn to), .int (jn a)] h (RO g n N u H ((0 ≤ to ∧ to ≤ 5) ∧ (0 ≤ a ∧ a ≤ 5)) (fun k => ¬ sml (drN N a) ∧ k = 1) (fun w => sml (drN N a) ∧ ∀ j, j < 13 → w j = drN N a j) to) := by
  obtain ⟨V, X, m, b0, d, c⟩ := s
  refine mj_Ok.of (M := mj_m106) rfl rfl rfl ?_
  iterate 2 refine mj_T.pl rfl rfl rfl rfl ?_
  refine mj_T.call rfl rfl (Nat.le_of_ble_eq_true rfl) (Nat.le_of_ble_eq_true rfl) (mV_of m 19 cq_d1 (by decide) rfl (by decide) rfl _) rfl (mj_Ok.up (by omega) (mC_rowOf (D := 0) m (i := to) (by omega))) (fun v g1 hq => ?_) (fun i g1 hq => ?_)
  rotate_left
  · rcases hq with ⟨_, hq⟩ | ⟨hn, hq⟩
    · cases hq
    · cases hq
      exact Or.inl ⟨rfl, Or.inr ⟨_, _, Or.inl ⟨by omega, rfl⟩, cS.thr hg m b0 d c, rfl⟩⟩
  rcases hq with ⟨kto, hq⟩ | ⟨_, hq⟩
  rotate_left
  · cases hq
  cases hq
  refine mj_T.eq (pc2 := 5) (st2 := [.ref (4 + to.toNat)]) ?_ rfl rfl rfl rfl
  iterate 3 refine mj_T.pl rfl rfl rfl rfl ?_
  refine mj_T.call rfl rfl (Nat.le_of_ble_eq_true rfl) (Nat.le_of_ble_eq_true rfl) (mV_of m 19 cq_d1 (by decide) rfl (by decide) rfl _) rfl (mj_Ok.up (by omega) (mC_rowOf (D := 0) m (i := a) (by omega))) (fun v g2 hq => ?_) (fun i g2 hq => ?_)
  rotate_left
  · rcases hq with ⟨_, hq⟩ | ⟨hn, hq⟩
    · cases hq
    · cases hq
      exact Or.inl ⟨rfl, Or.inr ⟨_, _, Or.inl ⟨by omega, rfl⟩, cS.thr hg m b0 d c, rfl⟩⟩
  rcases hq with ⟨ka, hq⟩ | ⟨_, hq⟩
  rotate_left
  · cases hq
  cases hq
  refine mj_T.eq (pc2 := 11) (st2 := [.ref (4 + a.toNat)]) ?_ rfl rfl rfl rfl
  refine mj_T.pl rfl rfl rfl rfl ?_
  refine mT_get m 19 cq_d1 (by decide) rfl rfl ?_
  refine mj_T.call rfl rfl (Nat.le_of_ble_eq_true rfl) (Nat.le_of_ble_eq_true rfl) rfl rfl (mj_Ok.up (by omega) (oX_der (D := 0) A m b0 d c ka)) (fun v g3 hq => ?_) (fun i g3 hq => ?_)
  rotate_left
  · obtain ⟨_, _, _, _, _, _, _, _, _, hq⟩ := hq; cases hq
  obtain ⟨V5, X5, _, y, m5, b5, d5, s5, hy, hq⟩ := hq
  cases hq
  have hy2 : y = 0 ∨ y = 1 := by
    rcases hy with ⟨e, _⟩ | ⟨e, _⟩
    · exact Or.inr e
    · exact Or.inl e
  refine mj_T.eq (pc2 := 18) (st2 := [.int (jn y)]) ?_ rfl rfl rfl rfl
  refine mj_T.if0 (a := y) rfl ⟨by omega, by omega⟩ (fun c4 => ?_) (fun c4 => ?_)
  · simp only [jc, Bool.not_eq_true', Bool.not_eq_false', decide_eq_true_eq, decide_eq_false_iff_not] at c4
    have hok := hy.resolve_right (fun q => absurd q.1 (by omega))
    iterate 2 refine mj_T.pl rfl rfl rfl rfl ?_
    refine mj_T.call rfl rfl (Nat.le_of_ble_eq_true rfl) (Nat.le_of_ble_eq_true rfl) (mV_of m5 19 cq_d1 (by decide) rfl (by decide) rfl _) rfl (mj_Ok.up (by omega) (mX_keep (D := 0) A m5 b5 d5 (c.sb s5) kto hok.2.1)) (fun v g5 hq => ?_) (fun i g5 hq => ?_)
    rotate_left
    · obtain ⟨_, _, hq⟩ := hq; cases hq
    obtain ⟨_, cs, hq⟩ := hq
    cases hq
    refine mj_T.eq (pc2 := 34) (st2 := [.int (jn ((fdg (X5 481) 13 : Int) - 1))]) ?_ rfl rfl rfl rfl
    exact mj_T.ret rfl rfl rfl (Or.inl ⟨⟨kto, ka⟩, _, _, hok.2.1, hok.2.2, cs, rfl⟩)
  · simp only [jc, Bool.not_eq_true', Bool.not_eq_false', decide_eq_true_eq, decide_eq_false_iff_not] at c4
    have hbad := hy.resolve_left (fun q => absurd q.1 (by omega))
    exact mj_T.throws rfl rfl rfl (Nat.le_of_ble_eq_true rfl) (Or.inr ⟨_, _, Or.inr ⟨⟨kto, ka⟩, ⟨hbad.2, rfl⟩⟩, cS.thr hg m5 b5 d5 (c.sb s5), rfl⟩)
theorem pX_substitute (hg : g.length ≤ n) (A : AS N u H) (s : cS g n N u H h) {to : Int} (rto : -2147483648 ≤ to ∧ to ≤ 2147483647) {a : Int} (ra : -2147483648 ≤ a ∧ a ≤ 2147483647) {b : Int} (rb : -2147483648 ≤ b ∧ b ≤ 2147483647) : mj_Ok (D + 6) 107 [.ref 1, .int (jn to), .int (jn a), .int (jn b)] h (RO g n N u H ((0 ≤ to ∧ to ≤ 5) ∧ (0 ≤ a ∧ a ≤ 5) ∧ (0 ≤ b ∧ b ≤ 5)) (fun k => ¬ fit13 (hw (rwN N a) (rwN N b) 13) ∧ k = 1) (isP (hw (rwN N a) (rwN N b) 13)) to) := by
  obtain ⟨V, X, m, b0, d, c⟩ := s
  refine mj_Ok.of (M := mj_m107) rfl rfl rfl ?_
  iterate 2 refine mj_T.pl rfl rfl rfl rfl ?_
  refine mj_T.call rfl rfl (Nat.le_of_ble_eq_true rfl) (Nat.le_of_ble_eq_true rfl) (mV_of m 19 cq_d1 (by decide) rfl (by decide) rfl _) rfl (mj_Ok.up (by omega) (mC_rowOf (D := 0) m (i := to) (by omega))) (fun v g1 hq => ?_) (fun i g1 hq => ?_)
  rotate_left
  · rcases hq with ⟨_, hq⟩ | ⟨hn, hq⟩
    · cases hq
    · cases hq
      exact Or.inl ⟨rfl, Or.inr ⟨_, _, Or.inl ⟨by omega, rfl⟩, cS.thr hg m b0 d c, rfl⟩⟩
  rcases hq with ⟨kto, hq⟩ | ⟨_, hq⟩
  rotate_left
  · cases hq
  cases hq
  refine mj_T.eq (pc2 := 5) (st2 := [.ref (4 + to.toNat)]) ?_ rfl rfl rfl rfl
  iterate 2 refine mj_T.pl rfl rfl rfl rfl ?_
  refine mT_get m 19 cq_d1 (by decide) rfl rfl ?_
  iterate 2 refine mj_T.pl rfl rfl rfl rfl ?_
  refine mj_T.call rfl rfl (Nat.le_of_ble_eq_true rfl) (Nat.le_of_ble_eq_true rfl) (mV_of m 19 cq_d1 (by decide) rfl (by decide) rfl _) rfl (mj_Ok.up (by omega) (mC_rowOf (D := 0) m (i := a) (by omega))) (fun v g2 hq => ?_) (fun i g2 hq => ?_)
  rotate_left
  · rcases hq with ⟨_, hq⟩ | ⟨hn, hq⟩
    · cases hq
    · cases hq
      exact Or.inl ⟨rfl, Or.inr ⟨_, _, Or.inl ⟨by omega, rfl⟩, cS.thr hg m b0 d c, rfl⟩⟩
  rcases hq with ⟨ka, hq⟩ | ⟨_, hq⟩
  rotate_left
  · cases hq
  cases hq
  refine mj_T.eq (pc2 := 15) (st2 := [.ref (4 + a.toNat), .ref 19]) ?_ rfl rfl rfl rfl
  iterate 2 refine mj_T.pl rfl rfl rfl rfl ?_
  refine mj_T.call rfl rfl (Nat.le_of_ble_eq_true rfl) (Nat.le_of_ble_eq_true rfl) (mV_of m 19 cq_d1 (by decide) rfl (by decide) rfl _) rfl (mj_Ok.up (by omega) (mC_rowOf (D := 0) m (i := b) (by omega))) (fun v g3 hq => ?_) (fun i g3 hq => ?_)
  rotate_left
  · rcases hq with ⟨_, hq⟩ | ⟨hn, hq⟩
    · cases hq
    · cases hq
      exact Or.inl ⟨rfl, Or.inr ⟨_, _, Or.inl ⟨by omega, rfl⟩, cS.thr hg m b0 d c, rfl⟩⟩
  rcases hq with ⟨kb, hq⟩ | ⟨_, hq⟩
  rotate_left
  · cases hq
  cases hq
  refine mj_T.eq (pc2 := 20) (st2 := [.ref (4 + b.toNat), .ref (4 + a.toNat), .ref 19]) ?_ rfl rfl rfl rfl
  refine mj_T.pl rfl rfl rfl rfl ?_
  refine mT_get m 19 cq_d1 (by decide) rfl rfl ?_
  refine mj_T.call rfl rfl (Nat.le_of_ble_eq_true rfl) (Nat.le_of_ble_eq_true rfl) (mV_of m 11 cq_d19 (by decide) rfl (by decide) rfl _) rfl (mj_Ok.up (by omega) (oX_put (D := 0) A m b0 d c ka kb)) (fun v g4 hq => ?_) (fun i g4 hq => ?_)
  rotate_left
  · obtain ⟨_, _, _, _, _, _, _, _, _, hq⟩ := hq; cases hq
  obtain ⟨V5, X5, _, y, m5, b5, d5, s5, hy, hq⟩ := hq
  cases hq
  have hy2 : y = 0 ∨ y = 1 := by
    rcases hy with ⟨e, _⟩ | ⟨e, _⟩
    · exact Or.inr e
    · exact Or.inl e
  refine mj_T.eq (pc2 := 27) (st2 := [.int (jn y)]) ?_ rfl rfl rfl rfl
  refine mj_T.if0 (a := y) rfl ⟨by omega, by omega⟩ (fun c5 => ?_) (fun c5 => ?_)
  · simp only [jc, Bool.not_eq_true', Bool.not_eq_false', decide_eq_true_eq, decide_eq_false_iff_not] at c5
    have hok := hy.resolve_right (fun q => absurd q.1 (by omega))
    iterate 2 refine mj_T.pl rfl rfl rfl rfl ?_
    refine mj_T.call rfl rfl (Nat.le_of_ble_eq_true rfl) (Nat.le_of_ble_eq_true rfl) (mV_of m5 19 cq_d1 (by decide) rfl (by decide) rfl _) rfl (mj_Ok.up (by omega) (mX_keep (D := 0) A m5 b5 d5 (c.sb s5) kto hok.2.1)) (fun v g6 hq => ?_) (fun i g6 hq => ?_)
    rotate_left
    · obtain ⟨_, _, hq⟩ := hq; cases hq
    obtain ⟨_, cs, hq⟩ := hq
    cases hq
    refine mj_T.eq (pc2 := 43) (st2 := [.int (jn ((fdg (X5 481) 13 : Int) - 1))]) ?_ rfl rfl rfl rfl
    exact mj_T.ret rfl rfl rfl (Or.inl ⟨⟨kto, ka, kb⟩, _, _, hok.2.1, hok.2.2, cs, rfl⟩)
  · simp only [jc, Bool.not_eq_true', Bool.not_eq_false', decide_eq_true_eq, decide_eq_false_iff_not] at c5
    have hbad := hy.resolve_left (fun q => absurd q.1 (by omega))
    exact mj_T.throws rfl rfl rfl (Nat.le_of_ble_eq_true rfl) (Or.inr ⟨_, _, Or.inr ⟨⟨kto, ka, kb⟩, ⟨hbad.2, rfl⟩⟩, cS.thr hg m5 b5 d5 (c.sb s5), rfl⟩)
end MP2
