/-! The roots of the class, exactly: shareRows. -/
theorem ppr_z {f : Nat → Int} (hf : sml f) (h : fdg f 13 = 0) : ppr f = pz_0 := funext fun i => by
  unfold ppr
  split
  · rename_i c
    rw [fdg_zero f 13 i (by omega) c]
    exact Int.zero_tdiv _
  · rfl
/-- the greatest common divisor of two rows, with what their coefficients share -/
def gcR (f1 f2 : Nat → Int) (R : pz_P) : Prop := (fdg f1 13 = 0 ∧ fdg f2 13 = 0 ∧ R = pz_0) ∨ ((1 ≤ fdg f1 13 ∨ 1 ≤ fdg f2 13) ∧ ∃ (G : pz_P) (d : Nat), d < 13 ∧ GP (ppr f1) (ppr f2) G d ∧ R = pz_sc ((Nat.gcd (cgd f1 13) (cgd f2 13) : Nat) : Int) G)
theorem gcR.sy {f1 f2 : Nat → Int} {R : pz_P} (h : gcR f1 f2 R) : gcR f2 f1 R := by
  rcases h with ⟨h1, h2, h3⟩ | ⟨h0, G, d, h1, h2, h3⟩
  · exact Or.inl ⟨h2, h1, h3⟩
  · exact Or.inr ⟨h0.symm, G, d, h1, h2.sy, by rw [h3, Nat.gcd_comm]⟩
/-- and the row t -/
def FXt (t : Nat) (X X1 : Nat → Nat → Int) : Prop := ∀ a, a ≠ t → cK a ≠ 13 → cK a ≠ 15 → cK a ≠ 16 → (a < 180 ∨ 444 ≤ a) → X1 a = X a
theorem FX.t {X X1 : Nat → Nat → Int} (h : FX X X1) (t : Nat) : FXt t X X1 := fun a _ a1 a2 a3 a4 => h a a1 a2 a3 a4
theorem FX.row {X X1 : Nat → Nat → Int} (h : FX X X1) {t : Nat} {w : Nat → Int} {k : Nat} : FXt t X (xfl X1 t w k) := fun a a0 a1 a2 a3 a4 => (xfl_off _ _ _ a0).trans (h a a1 a2 a3 a4)
theorem DG.row {X : Nat → Nat → Int} (h : DG X) {t : Nat} (kt : cK t = 2) {w : Nat → Int} {k : Nat} : DG (xfl X t w k) := fun p kp => by
  rw [xfl_off _ _ _ (fun e => by subst e; omega)]
  exact h p kp
section MSR
variable {g h : mj_H} {n D p q t : Nat} {V : Nat → Int} {X : Nat → Nat → Int}
theorem mR_sh_loop {l1 l2 l4 l5 l9 : Option Value} {d s : Nat} {G : pz_P} {X1 : Nat → Nat → Int} (kt : cK t = 2) (hX : X1 20 2 = (d : Int) - 1) (hd : d ≤ 13) (hGz : ∀ i, d ≤ i → G i = 0) (hs : s ≤ 999999999999999999) (hGM : ∀ i, (G i).natAbs ≤ kM) (dg1 : DG X1) (fx1 : FX X X1) (hR : gcR (X p) (X q) (pz_sc (s : Int) G)) : ∀ k i, i + k = d → ∀ (V1 : Nat → Int) (h1 : mj_H), jM g n V1 X1 h1 → (∀ e, e < 13 → V1 (20 + 4 + 2 * e) = if e < i then G e * (s : Int) else G e) → by0 V1 → mj_T (D + 4) mj_m59 175 [some (.ref 444), l1, l2, some (.ref t), l4, l5, some (.long (jl (s : Int))), none, some (.int (jn (i : Int))), l9] [] h1 (fun z => ∃ (V2 : Nat → Int) (X2 : Nat → Nat → Int) (h2 : mj_H) (R : pz_P), jM g n V2 X2 h2 ∧ by0 V2 ∧ DG X2 ∧ FXt t X X2 ∧ gcR (X p) (X q) R ∧ ((fit13 R ∧ z = (.inl (some (.int (jn 1))), h2) ∧ ∀ i, i < 13 → X2 t i = R i) ∨ (¬ fit13 R ∧ z = (.inl (some (.int (jn 0))), h2))))
  | 0, i, hi, V1, h1, m, e1, b1 => by
    have p20 : cL (20 + 3) = 13 := mK_z.1
    have hsz : ∀ e, jnl (pz_sc (s : Int) G e).natAbs ≤ 29 := fun e => by
      show jnl ((s : Int) * G e).natAbs ≤ 29
      refine jnl_B (al := 9223372036854775807 * kM) ?_ kM_1.2.2
      rw [Int.natAbs_mul, Int.natAbs_natCast]
      exact Nat.mul_le_mul (by omega) (hGM e)
    iterate 2 refine mj_T.pl rfl rfl rfl rfl ?_
    refine mT_get m 15 cq_d444 (by decide) rfl rfl ?_
    refine mT_get m 11 cq_d19 (by decide) rfl rfl ?_
    refine mT_get (v := .int (jn ((d : Int) - 1))) m 13 cq_d20 (by decide) rfl (congrArg (fun z : Int => some (Value.int (jn z))) (hX)) ?_
    refine mj_T.icmp (a := ((i : Nat) : Int)) (b := ((d : Int) - 1)) rfl ⟨by omega, by omega⟩ ⟨by omega, by omega⟩ (fun c1 => ?_) (fun c1 => ?_)
    · simp only [jc, Bool.not_eq_true', Bool.not_eq_false', decide_eq_true_eq, decide_eq_false_iff_not] at c1
      have hid : i = d := by omega
      subst hid
      have eV : ∀ e, e < 13 → V1 (20 + 4 + 2 * e) = pz_sc (s : Int) G e := fun e he => by
        rw [e1 e he]
        show _ = (s : Int) * G e
        by_cases c : e < i
        · rw [if_pos c, Int.mul_comm]
        · rw [if_neg c, hGz e (by omega), Int.mul_zero]
      have hfi := pok_fit (V := V1) (p := 20) (m := 13) p20.symm (by decide) (pz_sc (s : Int) G) eV (fun j hj => by show (s : Int) * G j = 0; rw [hGz j (by omega), Int.mul_zero])
      refine mj_T.pl rfl rfl rfl rfl ?_
      refine mT_get m 15 cq_d444 (by decide) rfl rfl ?_
      refine mT_get m 11 cq_d19 (by decide) rfl rfl ?_
      refine mj_T.pl rfl rfl rfl rfl ?_
      refine mj_T.call rfl rfl (Nat.le_of_ble_eq_true rfl) (Nat.le_of_ble_eq_true rfl) (mV_of m 13 cq_d20 (by decide) rfl (by decide) rfl _) rfl (mj_Ok.up (by omega) (mP_store (D := 0) m cq_d20 (fun e he => by rw [p20] at he; rw [eV e he]; exact Nat.le_trans (hsz e) (by decide)) kt (by omega))) (fun v g1 hq => ?_) (fun i g1 hq => ?_)
      rotate_left
      · rcases hq with ⟨_, _, _, hq⟩ | ⟨_, hq⟩ <;> cases hq
      rcases hq with ⟨ho, _, m8, hq⟩ | ⟨ho, hq⟩
      · cases hq
        refine mj_T.ret rfl rfl rfl ⟨V1, _, _, _, m8, b1, dg1.row kt, fx1.row, hR, Or.inl ⟨hfi.mp ho, rfl, fun i hi => ?_⟩⟩
        rw [xfl_at _ _ _ hi]
        exact eV i hi
      · cases hq
        exact mj_T.ret rfl rfl rfl ⟨V1, _, _, _, m, b1, dg1, fx1.t t, hR, Or.inr ⟨fun y => ho (hfi.mpr y), rfl⟩⟩
    · exfalso
      simp only [jc, Bool.not_eq_true', Bool.not_eq_false', decide_eq_true_eq, decide_eq_false_iff_not] at c1
      omega
  | k + 1, i, hi, V1, h1, m, e1, b1 => by
    have p20 : cL (20 + 3) = 13 := mK_z.1
    have hsz : ∀ e, jnl (pz_sc (s : Int) G e).natAbs ≤ 29 := fun e => by
      show jnl ((s : Int) * G e).natAbs ≤ 29
      refine jnl_B (al := 9223372036854775807 * kM) ?_ kM_1.2.2
      rw [Int.natAbs_mul, Int.natAbs_natCast]
      exact Nat.mul_le_mul (by omega) (hGM e)
    iterate 2 refine mj_T.pl rfl rfl rfl rfl ?_
    refine mT_get m 15 cq_d444 (by decide) rfl rfl ?_
    refine mT_get m 11 cq_d19 (by decide) rfl rfl ?_
    refine mT_get (v := .int (jn ((d : Int) - 1))) m 13 cq_d20 (by decide) rfl (congrArg (fun z : Int => some (Value.int (jn z))) (hX)) ?_
    refine mj_T.icmp (a := ((i : Nat) : Int)) (b := ((d : Int) - 1)) rfl ⟨by omega, by omega⟩ ⟨by omega, by omega⟩ (fun c1 => ?_) (fun c1 => ?_)
    · exfalso
      simp only [jc, Bool.not_eq_true', Bool.not_eq_false', decide_eq_true_eq, decide_eq_false_iff_not] at c1
      omega
    · simp only [jc, Bool.not_eq_true', Bool.not_eq_false', decide_eq_true_eq, decide_eq_false_iff_not] at c1
      refine mj_T.pl rfl rfl rfl rfl ?_
      refine mT_get m 15 cq_d444 (by decide) rfl rfl ?_
      refine mj_T.pl rfl rfl rfl rfl ?_
      refine mT_get m 15 cq_d444 (by decide) rfl rfl ?_
      refine mT_get m 11 cq_d19 (by decide) rfl rfl ?_
      refine mj_T.pl rfl rfl rfl rfl ?_
      refine mj_T.call rfl rfl (Nat.le_of_ble_eq_true rfl) (Nat.le_of_ble_eq_true rfl) (mV_of m 13 cq_d20 (by decide) rfl (by decide) rfl _) rfl (mj_Ok.up (by omega) (mP_at (D := 0) m cq_d20 (e := i) (by omega))) (fun v g2 hq => ?_) (fun i g2 hq => ?_)
      rotate_left
      · cases hq
      cases hq
      refine mj_T.eq (pc2 := 206) (st2 := [.ref (20 + 4 + 2 * i), .ref 19]) ?_ rfl rfl rfl rfl
      refine mj_T.pl rfl rfl rfl rfl ?_
      have ei : V1 (20 + 4 + 2 * i) = G i := (e1 i (by omega)).trans (if_neg (Nat.lt_irrefl i))
      have hz1 := hsz i
      rw [show pz_sc (s : Int) G i = G i * (s : Int) from Int.mul_comm _ _] at hz1
      refine mj_T.call rfl rfl (Nat.le_of_ble_eq_true rfl) (Nat.le_of_ble_eq_true rfl) (mV_of m 11 cq_d19 (by decide) rfl (by decide) rfl _) rfl (mj_Ok.up (by omega) (mD_enlarge (D := 0) (f := (s : Int)) m ((mK_p cq_d20).2.2.2 _ (by omega)) (by omega) (by omega) (by rw [ei, (mK_z.2.2.2.2.1 i (by omega)).1]; omega) (by rw [ei]; omega) (hcl := by rw [ei]; exact Nat.le_trans (jnl_B (hGM i) kM_1.2.1) (by decide)))) (fun v g3 hq => ?_) (fun i g3 hq => ?_)
      rotate_left
      · obtain ⟨_, _, _, _, _, hq⟩ := hq; cases hq
      obtain ⟨V3, _, m3, f0, f1, hq⟩ := hq
      cases hq
      have b3 : by0 V3 := fun x hx => by
        have y := bydl_f hx
        rw [f1 x y.2.2.2.2.2.1 y.2.2.2.2.2.2.2.1 (by omega)]
        exact b1 x hx
      refine mj_T.eq (pc2 := 211) (st2 := []) ?_ rfl rfl rfl rfl
      refine mj_T.iinc rfl rfl ?_
      rw [show ((i : Nat) : Int) + 1 = ((i + 1 : Nat) : Int) by omega]
      refine mj_T.eq (loc2 := [some (.ref 444), l1, l2, some (.ref t), l4, l5, some (.long (jl (s : Int))), none, some (.int (jn (((i + 1) : Nat) : Int))), l9]) ?_ rfl rfl rfl rfl
      refine mj_T.pl rfl rfl rfl rfl ?_
      refine mR_sh_loop kt hX hd hGz hs hGM dg1 fx1 hR k (i + 1) (by omega) V3 _ m3 (fun e he => ?_) b3
      by_cases c : e = i
      · subst c
        rw [f0, ei, if_pos (Nat.lt_succ_self _)]
      · rw [f1 _ (by omega) (by omega) (by omega), e1 e he]
        by_cases y : e < i
        · rw [if_pos y, if_pos (by omega)]
        · rw [if_neg y, if_neg (by omega)]
theorem kR_n1 {r : Nat} (kr : cK r = 2) : r ≠ 180 := fun e => by
  subst e
  exact absurd (kr.symm.trans cq_d180) (by decide)
theorem sgc_r {f : Nat → Int} (hf : sml f) : jR (sgc f) := by
  have hcb : cgd f 13 ≤ 999999999999999999 := cgd_bd 13 (fun i hi => hf i hi)
  unfold sgc
  split
  · exact ⟨by omega, by omega⟩
  · exact ⟨by omega, by omega⟩
theorem ppr_sml {f : Nat → Int} (hf : sml f) (i : Nat) : (ppr f i).natAbs ≤ 999999999999999999 := by
  unfold ppr
  split
  · rename_i c
    exact Nat.le_trans (Int.natAbs_tdiv_le_natAbs _ _) (hf i c)
  · exact Nat.zero_le _
theorem ppr_fdg {f : Nat → Int} (hf : sml f) : fdg (ppr f) 13 = fdg f 13 := by
  rcases Nat.eq_zero_or_pos (fdg f 13) with z | z
  · rw [ppr_z hf z, z]
    rfl
  · obtain ⟨a0, a1, a2, a3, a4, a5, a6⟩ := ppr_ok hf (show fdg f 13 = fdg f 13 - 1 + 1 by omega)
    have hl := fdg_le f 13
    have := fdg_top (f := ppr f) (k := 13) (d := fdg f 13 - 1) (by omega) (fun i hi => a3 i (by omega)) (by omega)
    omega
theorem mR_share_t {l1 l2 l6 l7 l8 l9 : Option Value} (m : jM g n V X h) (b : by0 V) (dg : DG X) (kp : cK p = 2) (kq : cK q = 2) (kt : cK t = 2) (sp : sml (X p)) (sq : sml (X q)) (hd : fdg (X q) 13 ≤ fdg (X p) 13) : mj_T (D + 6) mj_m59 36 [some (.ref 444), l1, l2, some (.ref t), some (.ref p), some (.ref q), l6, l7, l8, l9] [] h (fun z => ∃ (V2 : Nat → Int) (X2 : Nat → Nat → Int) (h2 : mj_H) (R : pz_P), jM g n V2 X2 h2 ∧ by0 V2 ∧ DG X2 ∧ FXt t X X2 ∧ gcR (X p) (X q) R ∧ ((fit13 R ∧ z = (.inl (some (.int (jn 1))), h2) ∧ ∀ i, i < 13 → X2 t i = R i) ∨ (¬ fit13 R ∧ z = (.inl (some (.int (jn 0))), h2)))) := by
  have hL : cL 173 = 14 := mK_r.2.2.2.1
  have p20 : cL (20 + 3) = 13 := mK_z.1
  have p180 : cL (180 + 3) = 13 := (mK_r.2.2.2.2.2.1 0 (by decide)).2
  have p210 : cL (210 + 3) = 13 := (mK_r.2.2.2.2.2.1 1 (by decide)).2
  have hfp := fdg_le (X p) 13
  have hfq := fdg_le (X q) 13
  have hcp : cgd (X p) 13 ≤ 999999999999999999 := cgd_bd 13 (fun i hi => sp i hi)
  have hcq : cgd (X q) 13 ≤ 999999999999999999 := cgd_bd 13 (fun i hi => sq i hi)
  have hgp1 := ppr_fdg sp
  have hgq1 := ppr_fdg sq
  have hgcb : Nat.gcd (cgd (X p) 13) (cgd (X q) 13) ≤ 999999999999999999 := by
    rcases Nat.eq_zero_or_pos (cgd (X p) 13) with z | z
    · rw [z, Nat.gcd_zero_left]
      exact hcq
    · exact Nat.le_trans (Nat.le_of_dvd z (Nat.gcd_dvd_left _ _)) hcp
  refine mj_T.pl rfl rfl rfl rfl ?_
  refine mj_T.call rfl rfl (Nat.le_of_ble_eq_true rfl) (Nat.le_of_ble_eq_true rfl) rfl rfl (mj_Ok.up (by omega) (mS_cont (D := 0) m kp sp)) (fun v g1 hq => ?_) (fun i g1 hq => ?_)
  rotate_left
  · cases hq
  cases hq
  refine mj_T.eq (pc2 := 41) (st2 := [.long (jl ((cgd (X p) 13 : Nat) : Int))]) ?_ rfl rfl rfl rfl
  refine mj_T.pl rfl rfl rfl rfl ?_
  refine mj_T.call rfl rfl (Nat.le_of_ble_eq_true rfl) (Nat.le_of_ble_eq_true rfl) rfl rfl (mj_Ok.up (by omega) (mS_cont (D := 0) m kq sq)) (fun v g2 hq => ?_) (fun i g2 hq => ?_)
  rotate_left
  · cases hq
  cases hq
  refine mj_T.eq (pc2 := 46) (st2 := [.long (jl ((cgd (X q) 13 : Nat) : Int)), .long (jl ((cgd (X p) 13 : Nat) : Int))]) ?_ rfl rfl rfl rfl
  refine mj_T.call rfl rfl (Nat.le_of_ble_eq_true rfl) (Nat.le_of_ble_eq_true rfl) rfl rfl (mj_Ok.up (by omega) (mS_common (D := 0) (p := ((cgd (X p) 13 : Nat) : Int)) (q := ((cgd (X q) 13 : Nat) : Int)) (by rw [Int.natAbs_natCast]; omega) (by rw [Int.natAbs_natCast]; omega))) (fun v g3 hq => ?_) (fun i g3 hq => ?_)
  rotate_left
  · cases hq
  cases hq
  rw [Int.natAbs_natCast, Int.natAbs_natCast]
  refine mj_T.eq (pc2 := 49) (st2 := [.long (jl ((Nat.gcd (cgd (X p) 13) (cgd (X q) 13) : Nat) : Int))]) ?_ rfl rfl rfl rfl
  refine mj_T.pl (loc' := [some (.ref 444), l1, l2, some (.ref t), some (.ref p), some (.ref q), some (.long (jl ((Nat.gcd (cgd (X p) 13) (cgd (X q) 13) : Nat) : Int))), none, l8, l9]) rfl rfl rfl rfl ?_
  refine mj_T.pl rfl rfl rfl rfl ?_
  refine mj_T.call rfl rfl (Nat.le_of_ble_eq_true rfl) (Nat.le_of_ble_eq_true rfl) rfl rfl (mj_Ok.up (by omega) (mS_deg (D := 0) m kq sq)) (fun v g4 hq => ?_) (fun i g4 hq => ?_)
  rotate_left
  · cases hq
  cases hq
  refine mj_T.eq (pc2 := 56) (st2 := [.int (jn ((fdg (X q) 13 : Int) - 1))]) ?_ rfl rfl rfl rfl
  refine mj_T.if0 (a := ((fdg (X q) 13 : Int) - 1)) rfl ⟨by omega, by omega⟩ (fun c5 => ?_) (fun c5 => ?_)
  · simp only [jc, Bool.not_eq_true', Bool.not_eq_false', decide_eq_true_eq, decide_eq_false_iff_not] at c5
    refine mj_T.pl rfl rfl rfl rfl ?_
    refine mT_get m 15 cq_d444 (by decide) rfl rfl ?_
    refine mT_get m 16 cq_d172 (by decide) rfl rfl ?_
    refine mj_T.pl rfl rfl rfl rfl ?_
    refine mT_aald m 5 cq_d173 (by decide) rfl rfl (by omega) ⟨by omega, by omega⟩ ?_
    refine mj_T.eq (st2 := [.ref 180]) ?_ rfl rfl rfl rfl
    iterate 2 refine mj_T.pl rfl rfl rfl rfl ?_
    refine mj_T.call rfl rfl (Nat.le_of_ble_eq_true rfl) (Nat.le_of_ble_eq_true rfl) rfl rfl (mj_Ok.up (by omega) (mS_scont (D := 0) m kp sp)) (fun v g6 hq => ?_) (fun i g6 hq => ?_)
    rotate_left
    · cases hq
    cases hq
    refine mj_T.eq (pc2 := 95) (st2 := [.long (jl (sgc (X p))), .ref p, .ref 180]) ?_ rfl rfl rfl rfl
    refine mj_T.call rfl rfl (Nat.le_of_ble_eq_true rfl) (Nat.le_of_ble_eq_true rfl) (mV_of m 13 cq_d180 (by decide) rfl (by decide) rfl _) rfl (mj_Ok.up (by omega) (mP_load (D := 0) m cq_d180 kp p180 (sgc_r sp) sp (fun i hi => by rw [cap180 i hi]; omega))) (fun v g7 hq => ?_) (fun i g7 hq => ?_)
    rotate_left
    · obtain ⟨_, _, hq⟩ := hq; cases hq
    obtain ⟨_, m180, hq⟩ := hq
    cases hq
    have hf180 : fdg (fun e => (X p e).tdiv (sgc (X p))) 13 = fdg (ppr (X p)) 13 := fdg_congr 13 (fun i hi => by show _ = ppr (X p) i; unfold ppr; rw [if_pos hi])
    rw [hf180] at m180
    obtain ⟨V180, hV180⟩ : ∃ V180, V180 = pfl V 180 (fun e => (X p e).tdiv (sgc (X p))) 13 := ⟨_, rfl⟩
    rw [← hV180] at m180
    have eA180 : pcs V180 180 = ppr (X p) := funext fun i => by
      unfold pcs ppr
      rw [p180, hV180]
      by_cases c : i < 13
      · rw [if_pos c, if_pos c, pfl_at _ _ _ c]
      · rw [if_neg c, if_neg c]
    have b180 : by0 V180 := by
      rw [hV180]
      exact b.wr cq_d180 (by omega)
    refine mj_T.eq (pc2 := 98) (st2 := []) ?_ rfl rfl rfl rfl
    refine mj_T.pl rfl rfl rfl rfl ?_
    refine mT_get m180 15 cq_d444 (by decide) rfl rfl ?_
    refine mT_get m180 16 cq_d172 (by decide) rfl rfl ?_
    refine mj_T.pl rfl rfl rfl rfl ?_
    refine mT_aald m180 5 cq_d173 (by decide) rfl rfl (by omega) ⟨by omega, by omega⟩ ?_
    refine mj_T.eq (st2 := [.ref 210]) ?_ rfl rfl rfl rfl
    iterate 2 refine mj_T.pl rfl rfl rfl rfl ?_
    have hxq : (xup X 180 2 ((fdg (ppr (X p)) 13 : Int) - 1)) q = X q := xup_oth (kR_n1 kq)
    refine mj_T.call rfl rfl (Nat.le_of_ble_eq_true rfl) (Nat.le_of_ble_eq_true rfl) rfl rfl (mj_Ok.up (by omega) (mS_scont (D := 0) m180 kq (by rw [hxq]; exact sq))) (fun v g8 hq => ?_) (fun i g8 hq => ?_)
    rotate_left
    · cases hq
    cases hq
    rw [hxq]
    refine mj_T.eq (pc2 := 114) (st2 := [.long (jl (sgc (X q))), .ref q, .ref 210]) ?_ rfl rfl rfl rfl
    refine mj_T.call rfl rfl (Nat.le_of_ble_eq_true rfl) (Nat.le_of_ble_eq_true rfl) (mV_of m180 13 cq_d210 (by decide) rfl (by decide) rfl _) rfl (mj_Ok.up (by omega) (mP_load (D := 0) m180 cq_d210 kq p210 (sgc_r sq) (by rw [hxq]; exact sq) (fun i hi => by rw [cap210 i hi]; omega))) (fun v g9 hq => ?_) (fun i g9 hq => ?_)
    rotate_left
    · obtain ⟨_, _, hq⟩ := hq; cases hq
    obtain ⟨_, m210, hq⟩ := hq
    cases hq
    rw [hxq] at m210
    have hf210 : fdg (fun e => (X q e).tdiv (sgc (X q))) 13 = fdg (ppr (X q)) 13 := fdg_congr 13 (fun i hi => by show _ = ppr (X q) i; unfold ppr; rw [if_pos hi])
    rw [hf210] at m210
    obtain ⟨V210, hV210⟩ : ∃ V210, V210 = pfl V180 210 (fun e => (X q e).tdiv (sgc (X q))) 13 := ⟨_, rfl⟩
    rw [← hV210] at m210
    have eA210 : pcs V210 210 = ppr (X q) := funext fun i => by
      unfold pcs ppr
      rw [p210, hV210]
      by_cases c : i < 13
      · rw [if_pos c, if_pos c, pfl_at _ _ _ c]
      · rw [if_neg c, if_neg c]
    have b210 : by0 V210 := by
      rw [hV210]
      exact b180.wr cq_d210 (by omega)
    refine mj_T.eq (pc2 := 117) (st2 := []) ?_ rfl rfl rfl rfl
    refine mj_T.pl rfl rfl rfl rfl ?_
    refine mT_get m210 15 cq_d444 (by decide) rfl rfl ?_
    refine mT_get m210 16 cq_d172 (by decide) rfl rfl ?_
    refine mj_T.pl rfl rfl rfl rfl ?_
    refine mT_aald m210 5 cq_d173 (by decide) rfl rfl (by omega) ⟨by omega, by omega⟩ ?_
    refine mj_T.eq (st2 := [.ref 180]) ?_ rfl rfl rfl rfl
    obtain ⟨mm, hmm⟩ : ∃ mm, fdg (X p) 13 = mm + 1 := ⟨fdg (X p) 13 - 1, by omega⟩
    obtain ⟨a0, a1, a2, a3, a4, a5, a6⟩ := ppr_ok sp hmm
    obtain ⟨mn, hmn⟩ : ∃ mn, fdg (X q) 13 = mn + 1 := ⟨fdg (X q) 13 - 1, by omega⟩
    obtain ⟨c0, c1', c2, c3, c4, c5, c6⟩ := ppr_ok sq hmn
    have hfl := fdg_le (X p) 13
    have hfl2 := fdg_le (X q) 13
    have hfa : fdg (ppr (X p)) 13 = mm + 1 := fdg_top (by omega) (fun i hi => a3 i (by omega)) (by omega)
    have hfb : fdg (ppr (X q)) 13 = mn + 1 := fdg_top (by omega) (fun i hi => c3 i (by omega)) (by omega)
    have eP : pcs V210 180 = ppr (X p) := by
      rw [← eA180]
      funext i
      unfold pcs
      rw [p180, hV210]
      by_cases c : i < 13
      · rw [if_pos c, if_pos c, pfl_off _ _ _ (by omega)]
      · rw [if_neg c, if_neg c]
    have dgx : DG (xup (xup X 180 2 ((fdg (ppr (X p)) 13 : Int) - 1)) 210 2 ((fdg (ppr (X q)) 13 : Int) - 1)) := (dg.deg (by omega)).deg (by omega)
    have l1v : V210 (180 + 4 + 2 * mm) = ppr (X p) mm := by
      rw [← eP, pcs_in (by omega)]
    have l2v : V210 (210 + 4 + 2 * mn) = ppr (X q) mn := by
      rw [← eA210, pcs_in (by omega)]
    have hl1 := a5 mm
    have hl2 := c5 mn
    refine mj_T.call rfl rfl (Nat.le_of_ble_eq_true rfl) (Nat.le_of_ble_eq_true rfl) (mV_of m210 13 cq_d180 (by decide) rfl (by decide) rfl _) rfl (mj_Ok.up (by omega) (mP_lead (D := 0) (e := mm) m210 cq_d180 ((congrFun (xup_oth (by decide)) 2).trans ((xup_at _ _ _ _).trans (by rw [hfa]; omega))) (by omega))) (fun v g10 hq => ?_) (fun i g10 hq => ?_)
    rotate_left
    · cases hq
    cases hq
    refine mj_T.eq (pc2 := 129) (st2 := [.ref (180 + 4 + 2 * mm)]) ?_ rfl rfl rfl rfl
    refine mj_T.call rfl rfl (Nat.le_of_ble_eq_true rfl) (Nat.le_of_ble_eq_true rfl) (mV_of m210 18 ((mK_p cq_d180).2.2.2 mm (by omega)) (by decide) rfl (by decide) rfl _) rfl (mj_Ok.up (by omega) (mW_low (D := 0) m210 ((mK_p cq_d180).2.2.2 mm (by omega)) (hcl := by rw [l1v]; exact Nat.le_trans (jnl_two.mpr (by omega)) (by decide)))) (fun v g11 hq => ?_) (fun i g11 hq => ?_)
    rotate_left
    · cases hq
    cases hq
    rw [l1v]
    refine mj_T.eq (pc2 := 132) (st2 := [.long (jl (ppr (X p) mm))]) ?_ rfl rfl rfl rfl
    refine mj_T.pl rfl rfl rfl rfl ?_
    refine mT_get m210 15 cq_d444 (by decide) rfl rfl ?_
    refine mT_get m210 16 cq_d172 (by decide) rfl rfl ?_
    refine mj_T.pl rfl rfl rfl rfl ?_
    refine mT_aald m210 5 cq_d173 (by decide) rfl rfl (by omega) ⟨by omega, by omega⟩ ?_
    refine mj_T.eq (st2 := [.ref 210, .long (jl (ppr (X p) mm))]) ?_ rfl rfl rfl rfl
    refine mj_T.call rfl rfl (Nat.le_of_ble_eq_true rfl) (Nat.le_of_ble_eq_true rfl) (mV_of m210 13 cq_d210 (by decide) rfl (by decide) rfl _) rfl (mj_Ok.up (by omega) (mP_lead (D := 0) (e := mn) m210 cq_d210 ((xup_at _ _ _ _).trans (by rw [hfb]; omega)) (by omega))) (fun v g12 hq => ?_) (fun i g12 hq => ?_)
    rotate_left
    · cases hq
    cases hq
    refine mj_T.eq (pc2 := 144) (st2 := [.ref (210 + 4 + 2 * mn), .long (jl (ppr (X p) mm))]) ?_ rfl rfl rfl rfl
    refine mj_T.call rfl rfl (Nat.le_of_ble_eq_true rfl) (Nat.le_of_ble_eq_true rfl) (mV_of m210 18 ((mK_p cq_d210).2.2.2 mn (by omega)) (by decide) rfl (by decide) rfl _) rfl (mj_Ok.up (by omega) (mW_low (D := 0) m210 ((mK_p cq_d210).2.2.2 mn (by omega)) (hcl := by rw [l2v]; exact Nat.le_trans (jnl_two.mpr (by omega)) (by decide)))) (fun v g13 hq => ?_) (fun i g13 hq => ?_)
    rotate_left
    · cases hq
    cases hq
    rw [l2v]
    refine mj_T.eq (pc2 := 147) (st2 := [.long (jl (ppr (X q) mn)), .long (jl (ppr (X p) mm))]) ?_ rfl rfl rfl rfl
    refine mj_T.call rfl rfl (Nat.le_of_ble_eq_true rfl) (Nat.le_of_ble_eq_true rfl) rfl rfl (mj_Ok.up (by omega) (mS_common (D := 0) (p := ppr (X p) mm) (q := ppr (X q) mn) (by omega) (by omega))) (fun v g14 hq => ?_) (fun i g14 hq => ?_)
    rotate_left
    · cases hq
    cases hq
    obtain ⟨ld, hld⟩ : ∃ ld : Nat, Nat.gcd (ppr (X p) mm).natAbs (ppr (X q) mn).natAbs = ld := ⟨_, rfl⟩
    rw [hld]
    have hld1 : 1 ≤ ld := by
      rw [← hld]
      exact Nat.gcd_pos_of_pos_left _ (by omega)
    have hld2 : ld ≤ 999999999999999999 := by
      have := Nat.le_of_dvd (show 0 < (ppr (X p) mm).natAbs by omega) (Nat.gcd_dvd_left (ppr (X p) mm).natAbs (ppr (X q) mn).natAbs)
      omega
    refine mj_T.eq (pc2 := 150) (st2 := [.long (jl (ld : Int))]) ?_ rfl rfl rfl rfl
    refine mj_T.pl (loc' := [some (.ref 444), l1, l2, some (.ref t), some (.ref p), some (.ref q), some (.long (jl ((Nat.gcd (cgd (X p) 13) (cgd (X q) 13) : Nat) : Int))), none, some (.long (jl (ld : Int))), none]) rfl rfl rfl rfl ?_
    refine mj_T.pl rfl rfl rfl rfl ?_
    refine mT_get m210 15 cq_d444 (by decide) rfl rfl ?_
    refine mj_T.call rfl rfl (Nat.le_of_ble_eq_true rfl) (Nat.le_of_ble_eq_true rfl) (mV_of m210 16 cq_d172 (by decide) rfl (by decide) rfl _) rfl (mj_Ok.up (by omega) (mR_goOnC (D := 0) (ma := mm) m210 dgx ((congrFun (xup_oth (by decide)) 2).trans ((xup_at _ _ _ _).trans (by rw [hfa]; omega))) (by rw [eP]; exact fun i hi => a3 i (by omega)) (by omega) (by rw [eP]; exact fun e => Nat.le_trans (a5 e) (by decide)) b210 (by rw [eP]; omega) (Or.inr ⟨mn, (xup_at _ _ _ _).trans (by rw [hfb]; omega), by rw [eA210]; exact fun i hi => c3 i (by omega), by rw [eA210]; omega, by omega, by omega, by rw [eA210]; exact fun e => Nat.le_trans (c5 e) (by decide)⟩))) (fun v g15 hq => ?_) (fun i g15 hq => ?_)
    rotate_left
    · obtain ⟨_, _, _, _, _, _, _, _, hq⟩ := hq; cases hq
    obtain ⟨V5, X5, _, m5, ge, b5, fr, dg5, hq⟩ := hq
    cases hq
    rw [eP, eA210] at ge
    obtain ⟨k, dz, hk, hX172, hXk, hdz, hne, hzz, h60, hcd⟩ := ge
    obtain ⟨G, c1, hc1, hZ, hG⟩ := gp_of hzz hne hcd
    have hLk := (mK_p (sro_k hk).1).2.2.1
    have fx5 : FX X X5 := ((FX.up (Or.inl cq_d180)).tr (FX.up (Or.inl cq_d210))).tr fr.fx
    refine mj_T.eq (pc2 := 159) (st2 := []) ?_ rfl rfl rfl rfl
    iterate 2 refine mj_T.pl rfl rfl rfl rfl ?_
    refine mT_get m5 15 cq_d444 (by decide) rfl rfl ?_
    refine mj_T.call rfl rfl (Nat.le_of_ble_eq_true rfl) (Nat.le_of_ble_eq_true rfl) (mV_of m5 16 cq_d172 (by decide) rfl (by decide) rfl _) rfl (mj_Ok.up (by omega) (mR_last (D := 0) m5 hX172 hk)) (fun v g16 hq => ?_) (fun i g16 hq => ?_)
    rotate_left
    · cases hq
    cases hq
    refine mj_T.eq (pc2 := 167) (st2 := [.ref (sro k), .ref 444]) ?_ rfl rfl rfl rfl
    refine mj_T.pl rfl rfl rfl rfl ?_
    have hGl := hG.lead a3 (by omega)
    have hGl2 := hG.sy.lead c3 (by omega)
    have hGs := hG.size a3 (by omega) (by omega) a5
    have hGd : G dz ∣ (ld : Int) := by
      rw [← hld]
      refine Int.natAbs_dvd.mp (Int.natCast_dvd_natCast.mpr (Nat.dvd_gcd (Int.natAbs_dvd_natAbs.mpr hGl.2) (Int.natAbs_dvd_natAbs.mpr hGl2.2)))
    refine mj_T.call rfl rfl (Nat.le_of_ble_eq_true rfl) (Nat.le_of_ble_eq_true rfl) (mV_of m5 15 cq_d444 (by decide) rfl (by decide) rfl _) rfl (mj_Ok.up (by omega) (mR_takeG (D := 0) (dz := dz) (ld := ld) (M := kM) m5 (sro_k hk).1 (sro_2 hk).1 hXk hdz hc1 hZ hG hld1 (by omega) hGd hGs kM_1.2.2 h60)) (fun v g17 hq => ?_) (fun i g17 hq => ?_)
    rotate_left
    · obtain ⟨_, _, _, _, _, hq⟩ := hq; cases hq
    obtain ⟨V7, _, m7, f1, f2, hq⟩ := hq
    cases hq
    have b7 : by0 V7 := fun x hx => by
      have y := bydl_f hx
      rw [f2 x y.2.2.2.2.2.1 y.2.2.2.2.2.2.1 y.2.2.2.2.2.2.2.1 y.2.2.2.2.2.2.2.2.1 (by omega)]
      exact b5 x hx
    refine mj_T.eq (pc2 := 172) (st2 := []) ?_ rfl rfl rfl rfl
    refine mj_T.pl rfl rfl rfl rfl ?_
    refine mj_T.pl (loc' := [some (.ref 444), l1, l2, some (.ref t), some (.ref p), some (.ref q), some (.long (jl ((Nat.gcd (cgd (X p) 13) (cgd (X q) 13) : Nat) : Int))), none, some (.int (jn 0)), none]) rfl rfl rfl rfl ?_
    have hGz : ∀ i, dz + 1 ≤ i → G i = 0 := fun i hi => hG.2.2.1 i (by omega)
    refine mj_T.eq (loc2 := [some (.ref 444), l1, l2, some (.ref t), some (.ref p), some (.ref q), some (.long (jl ((Nat.gcd (cgd (X p) 13) (cgd (X q) 13) : Nat) : Int))), none, some (.int (jn ((0 : Nat) : Int))), none]) ?_ rfl rfl rfl rfl
    refine mR_sh_loop (D := D + 2) (d := dz + 1) (G := G) kt ((xup_at _ _ _ _).trans (by omega)) (by omega) hGz hgcb hGs (dg5.deg (by omega)) (fx5.tr (FX.up (Or.inl cq_d20))) (Or.inr ⟨Or.inl (by omega), G, dz, by omega, hG, rfl⟩) (dz + 1) 0 (by omega) V7 _ m7 (fun e he => ?_) b7
    rw [if_neg (Nat.not_lt_zero e)]
    exact f1 e he
  · simp only [jc, Bool.not_eq_true', Bool.not_eq_false', decide_eq_true_eq, decide_eq_false_iff_not] at c5
    refine mj_T.pl rfl rfl rfl rfl ?_
    refine mT_get m 15 cq_d444 (by decide) rfl rfl ?_
    refine mT_get m 11 cq_d19 (by decide) rfl rfl ?_
    iterate 2 refine mj_T.pl rfl rfl rfl rfl ?_
    refine mj_T.call rfl rfl (Nat.le_of_ble_eq_true rfl) (Nat.le_of_ble_eq_true rfl) rfl rfl (mj_Ok.up (by omega) (mS_scont (D := 0) m kp sp)) (fun v g18 hq => ?_) (fun i g18 hq => ?_)
    rotate_left
    · cases hq
    cases hq
    refine mj_T.eq (pc2 := 73) (st2 := [.long (jl (sgc (X p))), .ref p, .ref 20]) ?_ rfl rfl rfl rfl
    refine mj_T.call rfl rfl (Nat.le_of_ble_eq_true rfl) (Nat.le_of_ble_eq_true rfl) (mV_of m 13 cq_d20 (by decide) rfl (by decide) rfl _) rfl (mj_Ok.up (by omega) (mP_load (D := 0) m cq_d20 kp p20 (sgc_r sp) sp (fun i hi => by rw [(mK_z.2.2.2.2.1 i hi).1]; decide))) (fun v g19 hq => ?_) (fun i g19 hq => ?_)
    rotate_left
    · obtain ⟨_, _, hq⟩ := hq; cases hq
    obtain ⟨_, m20, hq⟩ := hq
    cases hq
    have hf20 : fdg (fun e => (X p e).tdiv (sgc (X p))) 13 = fdg (ppr (X p)) 13 := fdg_congr 13 (fun i hi => by show _ = ppr (X p) i; unfold ppr; rw [if_pos hi])
    rw [hf20] at m20
    obtain ⟨V20, hV20⟩ : ∃ V20, V20 = pfl V 20 (fun e => (X p e).tdiv (sgc (X p))) 13 := ⟨_, rfl⟩
    rw [← hV20] at m20
    have eA20 : pcs V20 20 = ppr (X p) := funext fun i => by
      unfold pcs ppr
      rw [p20, hV20]
      by_cases c : i < 13
      · rw [if_pos c, if_pos c, pfl_at _ _ _ c]
      · rw [if_neg c, if_neg c]
    have b20 : by0 V20 := by
      rw [hV20]
      exact b.wr cq_d20 (by omega)
    refine mj_T.eq (pc2 := 76) (st2 := []) ?_ rfl rfl rfl rfl
    iterate 2 refine mj_T.pl rfl rfl rfl rfl ?_
    refine mj_T.pl (loc' := [some (.ref 444), l1, l2, some (.ref t), some (.ref p), some (.ref q), some (.long (jl ((Nat.gcd (cgd (X p) 13) (cgd (X q) 13) : Nat) : Int))), none, some (.int (jn 0)), l9]) rfl rfl rfl rfl ?_
    have hq0 : fdg (X q) 13 = 0 := by omega
    have hgc : Nat.gcd (cgd (X p) 13) (cgd (X q) 13) ≤ 999999999999999999 := hgcb
    have hz : ppr (X q) = pz_0 := ppr_z sq hq0
    have hfle := fdg_le (ppr (X p)) 13
    have hpa : ∀ i, (ppr (X p) i).natAbs ≤ 999999999999999999 := ppr_sml sp
    refine mj_T.eq (loc2 := [some (.ref 444), l1, l2, some (.ref t), some (.ref p), some (.ref q), some (.long (jl ((Nat.gcd (cgd (X p) 13) (cgd (X q) 13) : Nat) : Int))), none, some (.int (jn ((0 : Nat) : Int))), l9]) ?_ rfl rfl rfl rfl
    refine mR_sh_loop (D := D + 2) (d := fdg (ppr (X p)) 13) (G := ppr (X p)) kt (xup_at _ _ _ _) hfle (fun i hi => ?_) hgc (fun i => Nat.le_trans (hpa i) (by decide)) (dg.deg (by omega)) (FX.up (Or.inl cq_d20)) ?_ (fdg (ppr (X p)) 13) 0 (by omega) V20 _ m20 (fun e he => ?_) b20
    · by_cases c : i < 13
      · exact fdg_zero (ppr (X p)) 13 i hi c
      · exact if_neg c
    · by_cases c : fdg (X p) 13 = 0
      · refine Or.inl ⟨c, hq0, ?_⟩
        rw [ppr_z sp c]
        funext i
        exact Int.mul_zero _
      · obtain ⟨mm, hmm⟩ : ∃ mm, fdg (X p) 13 = mm + 1 := ⟨fdg (X p) 13 - 1, by omega⟩
        obtain ⟨a0, a1, a2, a3, a4, a5, a6⟩ := ppr_ok sp hmm
        have hfl := fdg_le (X p) 13
        exact Or.inr ⟨Or.inl (by omega), ppr (X p), mm, by omega, ⟨a6, a4, fun i hi => a3 i (by omega), ⟨pz_one, 1, fun i hi => if_neg (by omega), (pz_one_mul _).symm⟩, ⟨pz_0, 0, fun _ _ => rfl, by rw [hz, pz_mul_0L]⟩, fun H h1 _ => h1⟩, rfl⟩
    · rw [if_neg (Nat.not_lt_zero e)]
      have := congrFun eA20 e
      rw [pcs_in (by omega)] at this
      exact this
theorem mR_share (m : jM g n V X h) (b : by0 V) (dg : DG X) (kp : cK p = 2) (kq : cK q = 2) (kt : cK t = 2) (sp : sml (X p)) (sq : sml (X q)) : mj_Ok (D + 7) 59 [.ref 444, .ref p, .ref q, .ref t] h (fun z => ∃ (V2 : Nat → Int) (X2 : Nat → Nat → Int) (h2 : mj_H) (R : pz_P), jM g n V2 X2 h2 ∧ by0 V2 ∧ DG X2 ∧ FXt t X X2 ∧ gcR (X p) (X q) R ∧ ((fit13 R ∧ z = (.inl (some (.int (jn 1))), h2) ∧ ∀ i, i < 13 → X2 t i = R i) ∨ (¬ fit13 R ∧ z = (.inl (some (.int (jn 0))), h2)))) := by
  have hfp := fdg_le (X p) 13
  have hfq := fdg_le (X q) 13
  refine mj_Ok.of (M := mj_m59) rfl rfl rfl ?_
  refine mj_T.pl rfl rfl rfl rfl ?_
  refine mj_T.call rfl rfl (Nat.le_of_ble_eq_true rfl) (Nat.le_of_ble_eq_true rfl) rfl rfl (mj_Ok.up (by omega) (mS_deg (D := 0) m kp sp)) (fun v g1 hq => ?_) (fun i g1 hq => ?_)
  rotate_left
  · cases hq
  cases hq
  refine mj_T.eq (pc2 := 4) (st2 := [.int (jn ((fdg (X p) 13 : Int) - 1))]) ?_ rfl rfl rfl rfl
  refine mj_T.pl rfl rfl rfl rfl ?_
  refine mj_T.call rfl rfl (Nat.le_of_ble_eq_true rfl) (Nat.le_of_ble_eq_true rfl) rfl rfl (mj_Ok.up (by omega) (mS_deg (D := 0) m kq sq)) (fun v g2 hq => ?_) (fun i g2 hq => ?_)
  rotate_left
  · cases hq
  cases hq
  refine mj_T.eq (pc2 := 8) (st2 := [.int (jn ((fdg (X q) 13 : Int) - 1)), .int (jn ((fdg (X p) 13 : Int) - 1))]) ?_ rfl rfl rfl rfl
  refine mj_T.icmp (a := ((fdg (X p) 13 : Int) - 1)) (b := ((fdg (X q) 13 : Int) - 1)) rfl ⟨by omega, by omega⟩ ⟨by omega, by omega⟩ (fun c3 => ?_) (fun c3 => ?_)
  · simp only [jc, Bool.not_eq_true', Bool.not_eq_false', decide_eq_true_eq, decide_eq_false_iff_not] at c3
    refine mj_T.pl rfl rfl rfl rfl ?_
    refine mj_T.pl (loc' := [some (.ref 444), some (.ref p), some (.ref q), some (.ref t), some (.ref q), none, none, none, none, none]) rfl rfl rfl rfl ?_
    refine mj_T.pl rfl rfl rfl rfl ?_
    refine mj_T.call rfl rfl (Nat.le_of_ble_eq_true rfl) (Nat.le_of_ble_eq_true rfl) rfl rfl (mj_Ok.up (by omega) (mS_deg (D := 0) m kp sp)) (fun v g4 hq => ?_) (fun i g4 hq => ?_)
    rotate_left
    · cases hq
    cases hq
    refine mj_T.eq (pc2 := 22) (st2 := [.int (jn ((fdg (X p) 13 : Int) - 1))]) ?_ rfl rfl rfl rfl
    refine mj_T.pl rfl rfl rfl rfl ?_
    refine mj_T.call rfl rfl (Nat.le_of_ble_eq_true rfl) (Nat.le_of_ble_eq_true rfl) rfl rfl (mj_Ok.up (by omega) (mS_deg (D := 0) m kq sq)) (fun v g5 hq => ?_) (fun i g5 hq => ?_)
    rotate_left
    · cases hq
    cases hq
    refine mj_T.eq (pc2 := 26) (st2 := [.int (jn ((fdg (X q) 13 : Int) - 1)), .int (jn ((fdg (X p) 13 : Int) - 1))]) ?_ rfl rfl rfl rfl
    refine mj_T.icmp (a := ((fdg (X p) 13 : Int) - 1)) (b := ((fdg (X q) 13 : Int) - 1)) rfl ⟨by omega, by omega⟩ ⟨by omega, by omega⟩ (fun c6 => ?_) (fun c6 => ?_)
    · simp only [jc, Bool.not_eq_true', Bool.not_eq_false', decide_eq_true_eq, decide_eq_false_iff_not] at c6
      refine mj_T.pl rfl rfl rfl rfl ?_
      refine mj_T.pl (loc' := [some (.ref 444), some (.ref p), some (.ref q), some (.ref t), some (.ref q), some (.ref p), none, none, none, none]) rfl rfl rfl rfl ?_
      refine mj_T.imp (mR_share_t m b dg kq kp kt sq sp (by omega)) (fun z hz => ?_)
      obtain ⟨V2, X2, h2, R, m2, b2, d2, f2, g2, e2⟩ := hz
      exact ⟨V2, X2, h2, R, m2, b2, d2, f2, g2.sy, e2⟩
    · simp only [jc, Bool.not_eq_true', Bool.not_eq_false', decide_eq_true_eq, decide_eq_false_iff_not] at c6
      iterate 2 refine mj_T.pl rfl rfl rfl rfl ?_
      refine mj_T.pl (loc' := [some (.ref 444), some (.ref p), some (.ref q), some (.ref t), some (.ref q), some (.ref q), none, none, none, none]) rfl rfl rfl rfl ?_
      exfalso
      omega
  · simp only [jc, Bool.not_eq_true', Bool.not_eq_false', decide_eq_true_eq, decide_eq_false_iff_not] at c3
    iterate 2 refine mj_T.pl rfl rfl rfl rfl ?_
    refine mj_T.pl (loc' := [some (.ref 444), some (.ref p), some (.ref q), some (.ref t), some (.ref p), none, none, none, none, none]) rfl rfl rfl rfl ?_
    refine mj_T.pl rfl rfl rfl rfl ?_
    refine mj_T.call rfl rfl (Nat.le_of_ble_eq_true rfl) (Nat.le_of_ble_eq_true rfl) rfl rfl (mj_Ok.up (by omega) (mS_deg (D := 0) m kp sp)) (fun v g7 hq => ?_) (fun i g7 hq => ?_)
    rotate_left
    · cases hq
    cases hq
    refine mj_T.eq (pc2 := 22) (st2 := [.int (jn ((fdg (X p) 13 : Int) - 1))]) ?_ rfl rfl rfl rfl
    refine mj_T.pl rfl rfl rfl rfl ?_
    refine mj_T.call rfl rfl (Nat.le_of_ble_eq_true rfl) (Nat.le_of_ble_eq_true rfl) rfl rfl (mj_Ok.up (by omega) (mS_deg (D := 0) m kq sq)) (fun v g8 hq => ?_) (fun i g8 hq => ?_)
    rotate_left
    · cases hq
    cases hq
    refine mj_T.eq (pc2 := 26) (st2 := [.int (jn ((fdg (X q) 13 : Int) - 1)), .int (jn ((fdg (X p) 13 : Int) - 1))]) ?_ rfl rfl rfl rfl
    refine mj_T.icmp (a := ((fdg (X p) 13 : Int) - 1)) (b := ((fdg (X q) 13 : Int) - 1)) rfl ⟨by omega, by omega⟩ ⟨by omega, by omega⟩ (fun c9 => ?_) (fun c9 => ?_)
    · simp only [jc, Bool.not_eq_true', Bool.not_eq_false', decide_eq_true_eq, decide_eq_false_iff_not] at c9
      refine mj_T.pl rfl rfl rfl rfl ?_
      refine mj_T.pl (loc' := [some (.ref 444), some (.ref p), some (.ref q), some (.ref t), some (.ref p), some (.ref p), none, none, none, none]) rfl rfl rfl rfl ?_
      exfalso
      omega
    · simp only [jc, Bool.not_eq_true', Bool.not_eq_false', decide_eq_true_eq, decide_eq_false_iff_not] at c9
      iterate 2 refine mj_T.pl rfl rfl rfl rfl ?_
      refine mj_T.pl (loc' := [some (.ref 444), some (.ref p), some (.ref q), some (.ref t), some (.ref p), some (.ref q), none, none, none, none]) rfl rfl rfl rfl ?_
      exact mR_share_t m b dg kp kq kt sp sq (by omega)
end MSR
