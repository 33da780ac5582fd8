/-! The roots of the class, exactly: begin, storeSimple. -/
/-- the primitive part of a row -/
def ppr (f : Nat → Int) : pz_P := fun i => if i < 13 then (f i).tdiv (sgc f) else 0
theorem ppr_ok {f : Nat → Int} {m : Nat} (hf : sml f) (hm : fdg f 13 = m + 1) : sgc f ≠ 0 ∧ (sgc f).natAbs ≤ 999999999999999999 ∧ (∀ i, i < 13 → f i = sgc f * ppr f i) ∧ pz_lt (ppr f) (m + 1) ∧ 0 < ppr f m ∧ (∀ i, (ppr f i).natAbs ≤ 999999999999999999) ∧ pz_prim (ppr f) := by
  have hle := fdg_le f 13
  have hne := fdg_ne f 13 (by omega)
  rw [hm, Nat.add_sub_cancel] at hne
  have hc0 : cgd f 13 ≠ 0 := fun q => hne (cgd_0 q m (by omega))
  have hcb : cgd f 13 ≤ 999999999999999999 := cgd_bd 13 (fun i hi => hf i hi)
  have hna : (sgc f).natAbs = cgd f 13 := by
    unfold sgc
    split
    · rw [Int.natAbs_neg, Int.natAbs_natCast]
    · rw [Int.natAbs_natCast]
  have hdv : ∀ i, i < 13 → sgc f ∣ f i := fun i hi => by
    refine Int.natAbs_dvd_natAbs.mp ?_
    rw [hna]
    exact cgd_dvd f 13 i hi
  have hs0 : sgc f ≠ 0 := fun q => by
    rw [q] at hna
    exact hc0 hna.symm
  have he : ∀ i, i < 13 → f i = sgc f * ppr f i := fun i hi => by
    unfold ppr
    rw [if_pos hi]
    exact (Int.mul_tdiv_cancel' (hdv i hi)).symm
  refine ⟨hs0, by omega, he, fun i hi => ?_, ?_, fun i => ?_, fun k hk => ?_⟩
  · unfold ppr
    by_cases c : i < 13
    · rw [if_pos c, fdg_zero f 13 i (by omega) c, Int.zero_tdiv]
    · rw [if_neg c]
  · have e1 := he m (by omega)
    have hsg : (f m < 0 → sgc f < 0) ∧ (0 < f m → 0 < sgc f) := by
      unfold sgc
      rw [hm, Nat.add_sub_cancel]
      constructor
      · intro q
        rw [if_pos ⟨by omega, q⟩]
        omega
      · intro q
        rw [if_neg (fun w => by omega)]
        omega
    rcases Int.lt_or_le (f m) 0 with q | q
    · have s1 := hsg.1 q
      rcases Int.lt_or_le 0 (ppr f m) with y | y
      · exact y
      · have := Int.mul_nonneg_of_nonpos_of_nonpos (Int.le_of_lt s1) y
        omega
    · have s1 := hsg.2 (by omega)
      rcases Int.lt_or_le 0 (ppr f m) with y | y
      · exact y
      · have := Int.mul_nonpos_of_nonneg_of_nonpos (Int.le_of_lt s1) y
        omega
  · unfold ppr
    split
    · rename_i c
      exact Nat.le_trans (Int.natAbs_tdiv_le_natAbs _ _) (hf i c)
    · exact Nat.zero_le _
  · have h1 : k * cgd f 13 ∣ cgd f 13 := cgd_max f _ 13 (fun i hi => by
      rw [he i hi, Int.natAbs_mul, hna, Nat.mul_comm]
      exact Nat.mul_dvd_mul (Nat.dvd_refl _) (pz_cd.mp (hk i)))
    have h2 := Nat.le_of_dvd (by omega) h1
    have h3 : k * cgd f 13 = cgd f 13 ∨ k = 0 := by
      rcases Nat.eq_zero_or_pos k with z | z
      · exact Or.inr z
      · have := Nat.le_mul_of_pos_left (cgd f 13) z
        exact Or.inl (by omega)
    rcases h3 with z | z
    · exact Nat.eq_of_mul_eq_mul_right (show 0 < cgd f 13 by omega) (by rw [Nat.one_mul]; exact z)
    · subst z
      have h4 := Nat.eq_zero_of_zero_dvd (by rw [Nat.zero_mul] at h1; exact h1)
      exact absurd h4 hc0
theorem bydl_2 : (bydl.all fun x => decide ((x < 24 ∨ 50 ≤ x) ∧ (x < 54 ∨ 80 ≤ x) ∧ (x < 84 ∨ 110 ≤ x) ∧ (x < 184 ∨ 210 ≤ x) ∧ (x < 214 ∨ 240 ≤ x) ∧ x ≠ 164 ∧ x ≠ 166 ∧ x ≠ 168 ∧ x ≠ 170 ∧ x ≠ 174 ∧ x ≠ 176 ∧ (x < 240 ∨ (List.range 14).any (fun j => decide (x = sro j + 1))))) = true := by decide +kernel
theorem bydl_f {x : Nat} (h : x ∈ bydl) : (x < 24 ∨ 50 ≤ x) ∧ (x < 54 ∨ 80 ≤ x) ∧ (x < 84 ∨ 110 ≤ x) ∧ (x < 184 ∨ 210 ≤ x) ∧ (x < 214 ∨ 240 ≤ x) ∧ x ≠ 164 ∧ x ≠ 166 ∧ x ≠ 168 ∧ x ≠ 170 ∧ x ≠ 174 ∧ x ≠ 176 ∧ (x < 240 ∨ ∃ j, j < 14 ∧ x = sro j + 1) := by
  have k := of_decide_eq_true (List.all_eq_true.mp bydl_2 x h)
  obtain ⟨k1, k2, k3, k4, k5, k6, k7, k8, k9, k10, k11, k12⟩ := k
  refine ⟨k1, k2, k3, k4, k5, k6, k7, k8, k9, k10, k11, ?_⟩
  rcases k12 with q | q
  · exact Or.inl q
  · obtain ⟨j, j1, j2⟩ := List.any_eq_true.mp q
    exact Or.inr ⟨j, List.mem_range.mp j1, of_decide_eq_true j2⟩
theorem by0.row {V : Nat → Int} (b : by0 V) : ∀ j, j < 14 → V (sro j + 1) = 0 := fun j hj => b.p (sro_k hj).1
theorem by0.goOn {V V1 : Nat → Int} {X X1 : Nat → Nat → Int} (b : by0 V) (h1 : ∀ j, j < 14 → V1 (sro j + 1) = 0) (h2 : V1 81 = 0) (fr : GFr V X V1 X1) : by0 V1 := fun x hx => by
  have k := bydl_f hx
  rcases k.2.2.2.2.2.2.2.2.2.2.2 with q | ⟨j, hj, e⟩
  · rw [fr.1 x k.2.2.1 k.2.2.2.2.2.1 k.2.2.2.2.2.2.1 k.2.2.2.2.2.2.2.2.1 k.2.2.2.2.2.2.2.2.2.1 k.2.2.2.2.2.2.2.2.2.2.1 (Or.inl q)]
    exact b x hx
  · rw [e]
    exact h1 j hj
theorem by0.wr {V : Nat → Int} (b : by0 V) {p : Nat} (kp : cK p = 13) {w : Nat → Int} {k : Nat} (hk : k ≤ cL (p + 3)) : by0 (pfl V p w k) := fun x hx => by
  show (if p + 4 ≤ x ∧ x < p + 4 + 2 * k ∧ (x - p) % 2 = 0 then w ((x - p - 4) / 2) else V x) = 0
  by_cases c : p + 4 ≤ x ∧ x < p + 4 + 2 * k ∧ (x - p) % 2 = 0
  · have e := (fr_part kp (i := (x - p - 4) / 2) (by omega)).2
    rw [show p + 4 + 2 * ((x - p - 4) / 2) = x by omega] at e
    exact absurd hx e
  · rw [if_neg c]
    exact b x hx
theorem GFr.fx {V V1 : Nat → Int} {X X1 : Nat → Nat → Int} (fr : GFr V X V1 X1) : FX X X1 := fun a a1 a2 a3 a4 => fr.2 a (fun e => by subst e; exact a1 cq_d80) (fun e => by subst e; exact a3 cq_d172) (by omega)
theorem gp_one {A B G : pz_P} (h : GP A B G 0) : G = pz_one := by
  obtain ⟨hp, hl, hz, _⟩ := h
  have h1 := hp (G 0).natAbs (fun i => by
    by_cases c : i = 0
    · subst c
      exact Int.natAbs_dvd.mpr (Int.dvd_refl _)
    · rw [hz i (by omega)]
      exact ⟨0, (Int.mul_zero _).symm⟩)
  funext i
  by_cases c : i = 0
  · subst c
    show G 0 = 1
    omega
  · rw [hz i (by omega)]
    exact (if_neg c).symm
theorem cap180 (i : Nat) (hi : i < 13) : cL (180 + 4 + 2 * i + 1) = 30 - 2 * i := mK_z.2.2.2.2.2.2.1 0 (by decide) i hi
theorem cap210 (i : Nat) (hi : i < 13) : cL (210 + 4 + 2 * i + 1) = 30 - 2 * i := mK_z.2.2.2.2.2.2.1 1 (by decide) i hi
def kM : Nat := 999999999999999999 * 13 ^ 13 * 27 ^ 12
theorem kM_1 : 15 * (kM * kM) < jB ^ 200 ∧ kM < jB ^ 6 ∧ 9223372036854775807 * kM < jB ^ 29 := by decide +kernel
section MBG
variable {g h : mj_H} {n D r : Nat} {V : Nat → Int} {X : Nat → Nat → Int}
theorem mR_goOnC (m : jM g n V X h) (dg : DG X) {ma : Nat} (hX0 : X 180 2 = (ma : Int)) (hA : ∀ i, ma < i → pcs V 180 i = 0) (hm : ma ≤ 12) (bA : ∀ e, (pcs V 180 e).natAbs ≤ bM) (b : by0 V) (hA0 : pcs V 180 ma ≠ 0) (hc : (X 210 2 = -1 ∧ ∀ i, pcs V 210 i = 0) ∨ ∃ na : Nat, X 210 2 = (na : Int) ∧ (∀ i, na < i → pcs V 210 i = 0) ∧ pcs V 210 na ≠ 0 ∧ na ≤ 12 ∧ na ≤ ma ∧ ∀ e, (pcs V 210 e).natAbs ≤ bM) : mj_Ok (D + 6) 70 [.ref 172] h (fun z => ∃ (V2 : Nat → Int) (X2 : Nat → Nat → Int) (h2 : mj_H), jM g n V2 X2 h2 ∧ GEnd (pcs V 180) (pcs V 210) V2 X2 ∧ by0 V2 ∧ GFr V X V2 X2 ∧ DG X2 ∧ z = (.inl none, h2)) := by
  have h81 : V 81 = 0 := b.p cq_d80
  rcases hc with ⟨c1, c2⟩ | ⟨na, c1, c2, c3, c4, c5, c6⟩
  · refine (mR_goOn0 (D := D) m dg hX0 hA hm bA b.row h81 c1 c2 hA0).to fun z hz => ?_
    obtain ⟨V2, X2, h2, m2, ge, hb, h8, fr, d2, e⟩ := hz
    exact ⟨V2, X2, h2, m2, ge, b.goOn hb h8 fr, fr, d2, e⟩
  · refine (mR_goOn (D := D) m dg hX0 hA hm bA b.row h81 c1 c2 c3 c4 c5 c6).to fun z hz => ?_
    obtain ⟨V2, X2, h2, m2, ge, hb, h8, fr, d2, e⟩ := hz
    exact ⟨V2, X2, h2, m2, ge, b.goOn hb h8 fr, fr, d2, e⟩
theorem mR_begin (m : jM g n V X h) (b : by0 V) (dg : DG X) (kr : cK r = 2) (hs : sml (X r)) (hr0 : 1 ≤ fdg (X r) 13) : mj_Ok (D + 7) 61 [.ref 444, .ref r] h (fun z => ∃ (V2 : Nat → Int) (X2 : Nat → Nat → Int) (h2 : mj_H) (S G : pz_P) (ds dg : Nat), jM g n V2 X2 h2 ∧ by0 V2 ∧ DG X2 ∧ FX X X2 ∧ GP (ppr (X r)) (drv (ppr (X r))) G dg ∧ (ppr (X r)) = pz_mul S G ∧ pz_lt S (ds + 1) ∧ S ds ≠ 0 ∧ ds ≤ 12 ∧ (∀ i, (S i).natAbs ≤ kM) ∧ (∀ e, e < 13 → V2 (180 + 4 + 2 * e) = S e) ∧ X2 180 2 = (ds : Int) ∧ z = (.inl none, h2)) := by
  have hL : cL 173 = 14 := mK_r.2.2.2.1
  have p20 : cL (20 + 3) = 13 := mK_z.1
  have p50 : cL (50 + 3) = 13 := mK_z.2.1
  have p80 : cL (80 + 3) = 13 := mK_z.2.2.1
  have p180 : cL (180 + 3) = 13 := (mK_r.2.2.2.2.2.1 0 (by decide)).2
  have p210 : cL (210 + 3) = 13 := (mK_r.2.2.2.2.2.1 1 (by decide)).2
  have hfl := fdg_le (X r) 13
  obtain ⟨mm, hmm⟩ : ∃ mm, fdg (X r) 13 = mm + 1 := ⟨fdg (X r) 13 - 1, by omega⟩
  obtain ⟨a0, a1, a2, a3, a4, a5, a6⟩ := ppr_ok hs hmm
  have hfa : fdg (ppr (X r)) 13 = mm + 1 := fdg_top (by omega) (fun i hi => a3 i (by omega)) (by omega)
  refine mj_Ok.of (M := mj_m61) rfl rfl rfl ?_
  refine mj_T.pl rfl rfl rfl rfl ?_
  refine mT_get m 15 cq_d444 (by decide) rfl rfl ?_
  refine mT_get m 16 cq_d172 (by decide) rfl rfl ?_
  refine mj_T.pl rfl rfl rfl rfl ?_
  refine mT_aald m 5 cq_d173 (by decide) rfl rfl (by omega) ⟨by omega, by omega⟩ ?_
  refine mj_T.eq (st2 := [.ref 180]) ?_ rfl rfl rfl rfl
  iterate 2 refine mj_T.pl rfl rfl rfl rfl ?_
  refine mj_T.call rfl rfl (Nat.le_of_ble_eq_true rfl) (Nat.le_of_ble_eq_true rfl) rfl rfl (mj_Ok.up (by omega) (mS_scont (D := 0) m kr hs)) (fun v g1 hq => ?_) (fun i g1 hq => ?_)
  rotate_left
  · cases hq
  cases hq
  refine mj_T.eq (pc2 := 14) (st2 := [.long (jl (sgc (X r))), .ref r, .ref 180]) ?_ rfl rfl rfl rfl
  refine mj_T.call rfl rfl (Nat.le_of_ble_eq_true rfl) (Nat.le_of_ble_eq_true rfl) (mV_of m 13 cq_d180 (by decide) rfl (by decide) rfl _) rfl (mj_Ok.up (by omega) (mP_load (D := 0) m cq_d180 kr p180 ⟨by omega, by omega⟩ hs (fun i hi => by rw [cap180 i hi]; omega))) (fun v g2 hq => ?_) (fun i g2 hq => ?_)
  rotate_left
  · obtain ⟨_, _, hq⟩ := hq; cases hq
  obtain ⟨_, m1, hq⟩ := hq
  cases hq
  have hfA : fdg (fun e => (X r e).tdiv (sgc (X r))) 13 = mm + 1 := by
    rw [← hfa]
    exact fdg_congr 13 (fun i hi => by show _ = ppr (X r) i; unfold ppr; rw [if_pos hi])
  rw [hfA, show ((mm + 1 : Nat) : Int) - 1 = (mm : Int) by omega] at m1
  obtain ⟨V1, hV1⟩ : ∃ V1, V1 = pfl V 180 (fun e => (X r e).tdiv (sgc (X r))) 13 := ⟨_, rfl⟩
  rw [← hV1] at m1
  have eA : pcs V1 180 = ppr (X r) := funext fun i => by
    unfold pcs ppr
    rw [p180, hV1]
    by_cases c : i < 13
    · rw [if_pos c, if_pos c, pfl_at _ _ _ c]
    · rw [if_neg c, if_neg c]
  have b1 : by0 V1 := by
    rw [hV1]
    exact b.wr cq_d180 (by omega)
  refine mj_T.eq (pc2 := 17) (st2 := []) ?_ rfl rfl rfl rfl
  refine mj_T.pl rfl rfl rfl rfl ?_
  refine mT_get m1 15 cq_d444 (by decide) rfl rfl ?_
  refine mj_T.call rfl rfl (Nat.le_of_ble_eq_true rfl) (Nat.le_of_ble_eq_true rfl) (mV_of m1 16 cq_d172 (by decide) rfl (by decide) rfl _) rfl (mj_Ok.up (by omega) (mR_der (D := 0) (d := mm + 1) m1 (by rw [xup_at]; omega) (by omega) (by rw [eA]; exact fun i _ => a5 i) (by rw [eA]; exact a3))) (fun v g3 hq => ?_) (fun i g3 hq => ?_)
  rotate_left
  · obtain ⟨_, _, hq⟩ := hq; cases hq
  obtain ⟨_, m2, hq⟩ := hq
  cases hq
  rw [eA] at m2
  obtain ⟨V2, hV2⟩ : ∃ V2, V2 = pfl V1 210 (drv (ppr (X r))) 13 := ⟨_, rfl⟩
  rw [← hV2] at m2
  have eA2 : pcs V2 180 = ppr (X r) := by
    rw [← eA]
    funext i
    unfold pcs
    rw [p180, hV2]
    by_cases c : i < 13
    · rw [if_pos c, if_pos c, pfl_off _ _ _ (by omega)]
    · rw [if_neg c, if_neg c]
  have eB2 : pcs V2 210 = drv (ppr (X r)) := funext fun i => by
    unfold pcs
    rw [p210, hV2]
    by_cases c : i < 13
    · rw [if_pos c, pfl_at _ _ _ c]
    · rw [if_neg c]
      unfold drv
      rw [a3 (i + 1) (by omega), Int.zero_mul]
  have b2 : by0 V2 := by
    rw [hV2]
    exact b1.wr cq_d210 (by omega)
  have hle := fdg_le (drv (ppr (X r))) 13
  have dgx : DG (xup (xup X 180 2 (mm : Int)) 210 2 ((fdg (drv (ppr (X r))) 13 : Int) - 1)) := (dg.deg (by omega)).deg (by omega)
  have hcase : ((xup (xup X 180 2 (mm : Int)) 210 2 ((fdg (drv (ppr (X r))) 13 : Int) - 1)) 210 2 = -1 ∧ ∀ i, pcs V2 210 i = 0) ∨ ∃ na : Nat, (xup (xup X 180 2 (mm : Int)) 210 2 ((fdg (drv (ppr (X r))) 13 : Int) - 1)) 210 2 = (na : Int) ∧ (∀ i, na < i → pcs V2 210 i = 0) ∧ pcs V2 210 na ≠ 0 ∧ na ≤ 12 ∧ na ≤ mm ∧ ∀ e, (pcs V2 210 e).natAbs ≤ bM := by
    rw [xup_at, eB2]
    have hDz : ∀ i, mm ≤ i → drv (ppr (X r)) i = 0 := fun i hi => by
      unfold drv
      rw [a3 (i + 1) (by omega), Int.zero_mul]
    by_cases c : mm = 0
    · have e0 : fdg (drv (ppr (X r))) 13 = 0 := fdg_of (by omega) (fun i _ _ => hDz i (by omega)) (Or.inl rfl)
      exact Or.inl ⟨by rw [e0]; rfl, fun i => hDz i (by omega)⟩
    · have e1 : drv (ppr (X r)) (mm - 1) ≠ 0 := by
        unfold drv
        rw [show mm - 1 + 1 = mm by omega]
        exact Int.mul_ne_zero (by omega) (by omega)
      have e2 : fdg (drv (ppr (X r))) 13 = mm - 1 + 1 := fdg_top (by omega) (fun i hi => hDz i (by omega)) e1
      refine Or.inr ⟨mm - 1, by rw [e2]; omega, fun i hi => hDz i (by omega), e1, by omega, by omega, fun e => ?_⟩
      unfold drv
      rw [Int.natAbs_mul, Int.natAbs_natCast]
      by_cases y : e + 1 ≤ mm
      · exact Nat.le_trans (Nat.mul_le_mul (a5 (e + 1)) (show e + 1 ≤ 12 by omega)) (by decide)
      · rw [a3 (e + 1) (by omega)]
        exact Nat.le_trans (Nat.le_of_eq (Nat.zero_mul _)) (Nat.zero_le _)
  refine mj_T.eq (pc2 := 24) (st2 := []) ?_ rfl rfl rfl rfl
  refine mj_T.pl rfl rfl rfl rfl ?_
  refine mT_get m2 15 cq_d444 (by decide) rfl rfl ?_
  refine mj_T.call rfl rfl (Nat.le_of_ble_eq_true rfl) (Nat.le_of_ble_eq_true rfl) (mV_of m2 16 cq_d172 (by decide) rfl (by decide) rfl _) rfl (mj_Ok.up (by omega) (mR_goOnC (D := 0) (ma := mm) m2 dgx ((congrFun (xup_oth (by decide)) 2).trans (xup_at _ _ _ _)) (by rw [eA2]; exact fun i hi => a3 i (by omega)) (by omega) (by rw [eA2]; exact fun e => Nat.le_trans (a5 e) (by decide)) b2 (by rw [eA2]; omega) hcase)) (fun v g4 hq => ?_) (fun i g4 hq => ?_)
  rotate_left
  · obtain ⟨_, _, _, _, _, _, _, _, hq⟩ := hq; cases hq
  obtain ⟨V3, X3, _, m3, ge, b3, fr, dg3, hq⟩ := hq
  cases hq
  rw [eA2, eB2] at ge
  obtain ⟨k, dz, hk, hX172, hXk, hdz, hne, hzz, h60, hcd⟩ := ge
  obtain ⟨G, c1, hc1, hZ, hG⟩ := gp_of hzz hne hcd
  have hLk := (mK_p (sro_k hk).1).2.2.1
  have hX180 : X3 180 2 = (mm : Int) := (congrFun (fr.2 180 (by decide) (by decide) (by decide)) 2).trans ((congrFun (xup_oth (by decide)) 2).trans (xup_at _ _ _ _))
  have eA3 : ∀ e, e < 13 → V3 (180 + 4 + 2 * e) = ppr (X r) e := fun e he => by
    rw [fr.1 _ (by omega) (by omega) (by omega) (by omega) (by omega) (by omega) (by omega), ← eA2, pcs_in (by omega)]
  have fx3 : FX X X3 := ((FX.up (Or.inl cq_d180)).tr (FX.up (Or.inl cq_d210))).tr fr.fx
  refine mj_T.eq (pc2 := 31) (st2 := []) ?_ rfl rfl rfl rfl
  iterate 2 refine mj_T.pl rfl rfl rfl rfl ?_
  refine mT_get m3 15 cq_d444 (by decide) rfl rfl ?_
  refine mj_T.call rfl rfl (Nat.le_of_ble_eq_true rfl) (Nat.le_of_ble_eq_true rfl) (mV_of m3 16 cq_d172 (by decide) rfl (by decide) rfl _) rfl (mj_Ok.up (by omega) (mR_last (D := 0) m3 hX172 hk)) (fun v g5 hq => ?_) (fun i g5 hq => ?_)
  rotate_left
  · cases hq
  cases hq
  refine mj_T.eq (pc2 := 39) (st2 := [.ref (sro k), .ref 444]) ?_ rfl rfl rfl rfl
  refine mT_get (v := .int (jn ((dz : Nat) : Int))) m3 13 (sro_k hk).1 (by decide) rfl (congrArg (fun z : Int => some (Value.int (jn z))) (hXk)) ?_
  refine mj_T.if0 (a := ((dz : Nat) : Int)) rfl ⟨by omega, by omega⟩ (fun c6 => ?_) (fun c6 => ?_)
  · simp only [jc, Bool.not_eq_true', Bool.not_eq_false', decide_eq_true_eq, decide_eq_false_iff_not] at c6
    refine mj_T.pl rfl rfl rfl rfl ?_
    refine mT_put (v := 0) m3 15 cq_d444 (by decide) rfl (by simp [jMf, xup]) (by simp [jMf]) rfl (fun h7 m8 => ?_)
    refine mj_T.pl rfl rfl rfl rfl ?_
    refine mT_get (v := .int (jn 0)) m8 15 cq_d444 (by decide) rfl (congrArg (fun z : Int => some (Value.int (jn z))) (xup_at _ _ _ _)) ?_
    refine mj_T.if0 (a := 0) rfl ⟨by omega, by omega⟩ (fun c39 => ?_) (fun c39 => ?_)
    · exfalso
      simp [jc] at c39
    · simp only [jc, Bool.not_eq_true', Bool.not_eq_false', decide_eq_true_eq, decide_eq_false_iff_not] at c39
      iterate 2 refine mj_T.pl rfl rfl rfl rfl ?_
      refine mT_get m8 15 cq_d444 (by decide) rfl rfl ?_
      refine mj_T.call rfl rfl (Nat.le_of_ble_eq_true rfl) (Nat.le_of_ble_eq_true rfl) (mV_of m8 16 cq_d172 (by decide) rfl (by decide) rfl _) rfl (mj_Ok.up (by omega) (mR_last (D := 0) m8 ((congrFun (xup_oth (by decide)) 2).trans hX172) hk)) (fun v g40 hq => ?_) (fun i g40 hq => ?_)
      rotate_left
      · cases hq
      cases hq
      refine mj_T.eq (pc2 := 68) (st2 := [.ref (sro k), .ref 444]) ?_ rfl rfl rfl rfl
      refine mj_T.pl rfl rfl rfl rfl ?_
      refine mT_get m8 15 cq_d444 (by decide) rfl rfl ?_
      refine mT_get m8 16 cq_d172 (by decide) rfl rfl ?_
      refine mj_T.pl rfl rfl rfl rfl ?_
      refine mT_aald m8 5 cq_d173 (by decide) rfl rfl (by omega) ⟨by omega, by omega⟩ ?_
      refine mj_T.eq (st2 := [.ref 180, .ref (sro k), .ref 444]) ?_ rfl rfl rfl rfl
      refine mj_T.call rfl rfl (Nat.le_of_ble_eq_true rfl) (Nat.le_of_ble_eq_true rfl) (mV_of m8 13 cq_d180 (by decide) rfl (by decide) rfl _) rfl (mj_Ok.up (by omega) (mP_lead (D := 0) m8 cq_d180 ((congrFun (xup_oth (by decide)) 2).trans hX180) (by omega))) (fun v g41 hq => ?_) (fun i g41 hq => ?_)
      rotate_left
      · cases hq
      cases hq
      refine mj_T.eq (pc2 := 80) (st2 := [.ref (180 + 4 + 2 * mm), .ref (sro k), .ref 444]) ?_ rfl rfl rfl rfl
      refine mj_T.call rfl rfl (Nat.le_of_ble_eq_true rfl) (Nat.le_of_ble_eq_true rfl) (mV_of m8 18 ((mK_p cq_d180).2.2.2 mm (by omega)) (by decide) rfl (by decide) rfl _) rfl (mj_Ok.up (by omega) (mW_low (D := 0) m8 ((mK_p cq_d180).2.2.2 mm (by omega)) (hcl := by rw [eA3 mm (by omega)]; exact Nat.le_trans (jnl_two.mpr (a5 mm)) (by decide)))) (fun v g42 hq => ?_) (fun i g42 hq => ?_)
      rotate_left
      · cases hq
      cases hq
      obtain ⟨ld, hld⟩ : ∃ ld : Nat, ppr (X r) mm = (ld : Int) := ⟨(ppr (X r) mm).toNat, by omega⟩
      rw [show V3 (180 + 4 + 2 * mm) = (ld : Int) from (eA3 mm (by omega)).trans hld]
      have hldb := a5 mm
      have hGl := hG.lead a3 (by omega)
      have hGs := hG.size a3 (by omega) (by omega) a5
      have hG0 := hG
      obtain ⟨hp, hl0, hGz, ⟨S, N, hS, eS⟩, _, _⟩ := hG0
      obtain ⟨ds, hds, hS2, hSn, _⟩ := pz_mul_deg (dg := dz) a3 (by omega) (fun i hi => hGz i (by omega)) (by omega) hS eS
      have hSs : ∀ i, (S i).natAbs ≤ kM := pz_factor (a3.mono (by omega)) (hS2.mono (by omega)) (fun i hi => hGz i (by omega)) eS ⟨mm, by omega⟩ a5
      refine mj_T.eq (pc2 := 83) (st2 := [.long (jl (ld : Int)), .ref (sro k), .ref 444]) ?_ rfl rfl rfl rfl
      refine mj_T.call rfl rfl (Nat.le_of_ble_eq_true rfl) (Nat.le_of_ble_eq_true rfl) (mV_of m8 15 cq_d444 (by decide) rfl (by decide) rfl _) rfl (mj_Ok.up (by omega) (mR_takeG (D := 0) (dz := dz) (ld := ld) (M := kM) m8 (sro_k hk).1 (sro_2 hk).1 ((congrFun (xup_oth (fun e => by have := (sro_2 hk).1; have := mP_pos (sro_k hk).1; omega)) 2).trans hXk) hdz hc1 hZ hG (by omega) (by omega) (by rw [← hld]; exact hGl.2) hGs kM_1.2.2 h60)) (fun v g43 hq => ?_) (fun i g43 hq => ?_)
      rotate_left
      · obtain ⟨_, _, _, _, _, hq⟩ := hq; cases hq
      obtain ⟨V5, _, m5, f1, f2, hq⟩ := hq
      cases hq
      have b5 : by0 V5 := fun x hx => by
        have q := bydl_f hx
        rw [f2 x q.2.2.2.2.2.1 q.2.2.2.2.2.2.1 q.2.2.2.2.2.2.2.1 q.2.2.2.2.2.2.2.2.1 (by omega)]
        exact b3 x hx
      have eA5 : pcs V5 180 = ppr (X r) := funext fun i => by
        unfold pcs
        rw [p180]
        by_cases c : i < 13
        · rw [if_pos c, f2 _ (by omega) (by omega) (by omega) (by omega) (by omega), eA3 i c]
        · rw [if_neg c, a3 i (by omega)]
      refine mj_T.eq (pc2 := 86) (st2 := []) ?_ rfl rfl rfl rfl
      refine mj_T.pl rfl rfl rfl rfl ?_
      refine mT_get m5 15 cq_d444 (by decide) rfl rfl ?_
      refine mT_get m5 11 cq_d19 (by decide) rfl rfl ?_
      refine mj_T.pl rfl rfl rfl rfl ?_
      refine mT_get m5 15 cq_d444 (by decide) rfl rfl ?_
      refine mT_get m5 16 cq_d172 (by decide) rfl rfl ?_
      refine mj_T.pl rfl rfl rfl rfl ?_
      refine mT_aald m5 5 cq_d173 (by decide) rfl rfl (by omega) ⟨by omega, by omega⟩ ?_
      refine mj_T.eq (st2 := [.ref 180, .ref 80]) ?_ rfl rfl rfl rfl
      refine mj_T.call rfl rfl (Nat.le_of_ble_eq_true rfl) (Nat.le_of_ble_eq_true rfl) (mV_of m5 13 cq_d80 (by decide) rfl (by decide) rfl _) rfl (mj_Ok.up (by omega) (mP_set (D := 0) m5 cq_d80 cq_d180 (by decide) (b5.p cq_d180) (fun i hi => by rw [eA5, (mK_z.2.2.2.2.1 i (by omega)).2.2]; exact Nat.le_trans (jnl_two.mpr (a5 i)) (by decide)))) (fun v g44 hq => ?_) (fun i g44 hq => ?_)
      rotate_left
      · obtain ⟨_, _, hq⟩ := hq; cases hq
      obtain ⟨_, m6, hq⟩ := hq
      cases hq
      rw [p80, eA5, hfa, show ((mm + 1 : Nat) : Int) - 1 = (mm : Int) by omega] at m6
      have b6 : by0 (pfl V5 80 (ppr (X r)) 13) := b5.wr cq_d80 (by omega)
      refine mj_T.eq (pc2 := 105) (st2 := []) ?_ rfl rfl rfl rfl
      refine mj_T.pl rfl rfl rfl rfl ?_
      refine mT_get m6 15 cq_d444 (by decide) rfl rfl ?_
      refine mj_T.pl rfl rfl rfl rfl ?_
      refine mT_get m6 15 cq_d444 (by decide) rfl rfl ?_
      refine mT_get m6 11 cq_d19 (by decide) rfl rfl ?_
      refine mj_T.pl rfl rfl rfl rfl ?_
      refine mT_get m6 15 cq_d444 (by decide) rfl rfl ?_
      refine mT_get m6 11 cq_d19 (by decide) rfl rfl ?_
      refine mj_T.call rfl rfl (Nat.le_of_ble_eq_true rfl) (Nat.le_of_ble_eq_true rfl) (mV_of m6 11 cq_d19 (by decide) rfl (by decide) rfl _) rfl (mj_Ok.up (by omega) (mD_exact (D := 0) (dg := dz) (ds := ds) (M := kM) (S := S) (G := G) m6 ((congrFun (xup_oth (by decide)) 2).trans (xup_at _ _ _ _)) (by rw [xup_at]; omega) (by omega) hS2 hSn hGz (by omega) hSs hGs kM_1.1 (Nat.lt_trans kM_1.2.1 (by decide +kernel)) (fun e he => by rw [pfl_off _ _ _ (by omega)]; exact f1 e he) (fun e he => by rw [pfl_at _ _ _ he, eS]))) (fun v g45 hq => ?_) (fun i g45 hq => ?_)
      rotate_left
      · obtain ⟨_, _, _, _, _, hq⟩ := hq; cases hq
      obtain ⟨V7, _, m7, e7, f7, hq⟩ := hq
      cases hq
      have b7 : by0 V7 := fun x hx => by
        have q := bydl_f hx
        rw [f7 x q.2.2.2.2.2.1 q.2.2.2.2.2.2.1 q.2.2.2.2.2.2.2.2.1 (by omega) (by omega)]
        exact b6 x hx
      have eS7 : pcs V7 50 = S := funext fun i => by
        unfold pcs
        rw [p50]
        by_cases c : i < 13
        · rw [if_pos c, e7 i c]
        · rw [if_neg c, hS2 i (by omega)]
      have hfS : fdg S 13 = ds + 1 := fdg_top (by omega) (fun i hi => hS2 i (by omega)) hSn
      refine mj_T.eq (pc2 := 126) (st2 := [.int (jn 1)]) ?_ rfl rfl rfl rfl
      iterate 2 refine mj_T.pl rfl rfl rfl rfl ?_
      refine mT_get m7 15 cq_d444 (by decide) rfl rfl ?_
      refine mT_get m7 16 cq_d172 (by decide) rfl rfl ?_
      refine mj_T.pl rfl rfl rfl rfl ?_
      refine mT_aald m7 5 cq_d173 (by decide) rfl rfl (by omega) ⟨by omega, by omega⟩ ?_
      refine mj_T.eq (st2 := [.ref 180]) ?_ rfl rfl rfl rfl
      refine mj_T.pl rfl rfl rfl rfl ?_
      refine mT_get m7 15 cq_d444 (by decide) rfl rfl ?_
      refine mT_get m7 11 cq_d19 (by decide) rfl rfl ?_
      refine mj_T.call rfl rfl (Nat.le_of_ble_eq_true rfl) (Nat.le_of_ble_eq_true rfl) (mV_of m7 13 cq_d180 (by decide) rfl (by decide) rfl _) rfl (mj_Ok.up (by omega) (mP_set (D := 0) m7 cq_d180 cq_d50 (by decide) (b7.p cq_d50) (fun i hi => by rw [eS7, cap180 i (by omega)]; have := jnl_B (hSs i) kM_1.2.1; omega))) (fun v g46 hq => ?_) (fun i g46 hq => ?_)
      rotate_left
      · obtain ⟨_, _, hq⟩ := hq; cases hq
      obtain ⟨_, m8, hq⟩ := hq
      cases hq
      rw [p180, eS7, hfS, show ((ds + 1 : Nat) : Int) - 1 = (ds : Int) by omega] at m8
      have b8 : by0 (pfl V7 180 S 13) := b7.wr cq_d180 (by omega)
      refine mj_T.eq (pc2 := 146) (st2 := []) ?_ rfl rfl rfl rfl
      refine mj_T.ret rfl rfl rfl ⟨_, _, _, S, G, ds, dz, m8, b8, ?_, ?_, hG, eS, hS2, hSn, by omega, hSs, fun e he => pfl_at _ _ _ he, xup_at _ _ _ _, rfl⟩
      · exact (((((dg3.oth (by decide +kernel)).deg (by omega)).deg (by omega)).deg (by omega)).deg (by omega)).deg (by omega)
      · exact fx3.tr ((FX.up (Or.inr (Or.inl cq_d444))).tr ((FX.up (Or.inl cq_d20)).tr ((FX.up (Or.inl cq_d80)).tr ((FX.up (Or.inl cq_d50)).tr ((FX.up (Or.inl cq_d80)).tr (FX.up (Or.inl cq_d180)))))))
  · simp only [jc, Bool.not_eq_true', Bool.not_eq_false', decide_eq_true_eq, decide_eq_false_iff_not] at c6
    iterate 2 refine mj_T.pl rfl rfl rfl rfl ?_
    refine mT_put (v := 1) m3 15 cq_d444 (by decide) rfl (by simp [jMf, xup]) (by simp [jMf]) rfl (fun h9 m10 => ?_)
    refine mj_T.pl rfl rfl rfl rfl ?_
    refine mT_get (v := .int (jn 1)) m10 15 cq_d444 (by decide) rfl (congrArg (fun z : Int => some (Value.int (jn z))) (xup_at _ _ _ _)) ?_
    refine mj_T.if0 (a := 1) rfl ⟨by omega, by omega⟩ (fun c41 => ?_) (fun c41 => ?_)
    · simp only [jc, Bool.not_eq_true', Bool.not_eq_false', decide_eq_true_eq, decide_eq_false_iff_not] at c41
      have hdz0 : dz = 0 := by omega
      subst hdz0
      refine mj_T.ret rfl rfl rfl ⟨_, _, _, ppr (X r), G, mm, 0, m10, b3, dg3.oth (by decide +kernel), fx3.tr (FX.up (Or.inr (Or.inl cq_d444))), hG, ?_, a3, by omega, by omega, fun i => Nat.le_trans (a5 i) (by decide), eA3, (congrFun (xup_oth (by decide)) 2).trans hX180, rfl⟩
      rw [gp_one hG, pz_mul_comm, pz_one_mul]
    · exfalso
      simp [jc] at c41
end MBG
