/-! The row of Sturm of the class: makeNext as a whole. -/
theorem pls_4 : (pls.all fun p => decide (p < 180) || decide (cL (p + 3) ≤ 13)) = true := by decide +kernel
theorem mP_13 {p : Nat} (kp : cK p = 13) (h : 180 ≤ p) : cL (p + 3) ≤ 13 := by
  have h1 := jall pls_1 (cK_in (a := p) (by omega))
  simp only [kp, decide_true, Bool.not_true, Bool.false_or, decide_eq_true_eq] at h1
  have h3 := List.all_eq_true.mp pls_4 p h1
  simp only [Bool.or_eq_true, decide_eq_true_eq] at h3
  omega
theorem rdv_eq (F B : pz_P) (dy gap : Nat) (la ps : Int) (e : Nat) : rdv F B (dy + gap) dy la ps e = itd (itd (er F B dy gap (gap + 1) e) la 1) ps gap := by
  unfold rdv
  rw [Nat.add_sub_cancel_left]
section MNY
variable {g h : mj_H} {n D p q r : Nat} {V : Nat → Int} {X : Nat → Nat → Int}
theorem xup_oth {X : Nat → Nat → Int} {a i b : Nat} {v : Int} (h : b ≠ a) : xup X a i v b = X b := funext fun j => xup_ne _ _ (Or.inl h)
theorem jsg_pp {v : Int} (h : 0 < jsg v) : 0 < v := by
  unfold jsg at h
  split at h
  · omega
  · split at h <;> omega
theorem mj_T.imp {D pc : Nat} {M : mj_M} {loc : mj_L} {st : List Value} {h : mj_H} {Q Q' : mj_R → Prop} (k : mj_T D M pc loc st h Q) (hQ : ∀ r, Q r → Q' r) : mj_T D M pc loc st h Q' := by
  obtain ⟨F, r, h1, h2⟩ := k
  exact ⟨F, r, h1, hQ r h2⟩
theorem mR_next (m : jM g n V X h) {gap dy al be : Nat} (kp : cK p = 13) (kq : cK q = 13) (kr : cK r = 13) (hp : 180 ≤ p) (hq : 180 ≤ q) (hr : 180 ≤ r) (hqr : q ≠ r) (hdx : X p 2 = ((dy + gap : Nat) : Int)) (hdy : X q 2 = (dy : Int)) (hdq : dy < cL (q + 3)) (hg : dy + gap < 13) (hpz : V (p + 1) = 0) (h81 : V 81 = 0) (hF : ∀ e, (pcs V p e).natAbs ≤ al) (hB : ∀ e, (pcs V q e).natAbs ≤ be) (hbe : 1 ≤ be) (hfit : al * (2 * be) ^ (gap + 1) < jB ^ 235) (hbc : be < jB ^ 1500) (h174 : jnl (V 174).natAbs ≤ 60) (h176 : jnl (V 176).natAbs ≤ 60) (hcap : ∀ i, i < cL (r + 3) → jnl ((rdv (pcs V p) (pcs V q) (dy + gap) dy (V 174) (V 176)) i).natAbs ≤ cL (r + 4 + 2 * i + 1)) (hlq : ∀ i, i ≤ gap → jnl ((((pcs V q dy).natAbs : Nat) : Int) ^ i).natAbs ≤ 239) (hl60 : jnl (pcs V q dy).natAbs ≤ 60) (hk60 : jnl (itd ((((pcs V q dy).natAbs : Nat) : Int) ^ gap) (V 176) (gap - 1)).natAbs ≤ 60) : mj_Ok (D + 5) 71 [.ref 172, .ref p, .ref q, .ref r] h (fun z => ∃ V2 X2 h2, jM g n V2 X2 h2 ∧ ((∀ e, e < cL (r + 3) → V2 (r + 4 + 2 * e) = (rdv (pcs V p) (pcs V q) (dy + gap) dy (V 174) (V 176)) e) ∨ (∀ e, e < cL (r + 3) → V2 (r + 4 + 2 * e) = -(rdv (pcs V p) (pcs V q) (dy + gap) dy (V 174) (V 176)) e)) ∧ ((0 < pcs V q dy ∨ gap % 2 ≠ 0) → ∀ e, e < cL (r + 3) → V2 (r + 4 + 2 * e) = -(rdv (pcs V p) (pcs V q) (dy + gap) dy (V 174) (V 176)) e) ∧ (¬ (0 < pcs V q dy ∨ gap % 2 ≠ 0) → ∀ e, e < cL (r + 3) → V2 (r + 4 + 2 * e) = (rdv (pcs V p) (pcs V q) (dy + gap) dy (V 174) (V 176)) e) ∧ X2 r 2 = (fdg (rdv (pcs V p) (pcs V q) (dy + gap) dy (V 174) (V 176)) (cL (r + 3)) : Int) - 1 ∧ V2 174 = (((pcs V q dy).natAbs : Nat) : Int) ∧ V2 176 = nxk (pcs V q) (dy + gap) dy (V 176) ∧ (∀ x, (x < 80 + 4 ∨ 80 + 4 + 2 * 13 ≤ x) → x ≠ 164 → x ≠ 166 → x ≠ 170 → x ≠ 174 → x ≠ 176 → (x < r + 4 ∨ r + 4 + 2 * cL (r + 3) ≤ x) → V2 x = V x) ∧ (∀ a, a ≠ 80 → a ≠ r → X2 a = X a) ∧ (-1 ≤ X2 80 2 ∧ X2 80 2 < 13) ∧ z = (.inl none, h2)) := by
  have h83 : cL (80 + 3) = 13 := mK_z.2.2.1
  have hr13 := mP_13 kr hr
  have hpr := mP_pos kr
  have hpq := mP_pos kq
  have hal : al < jB ^ 236 := by
    have h1 : al ≤ al * (2 * be) ^ (gap + 1) := Nat.le_mul_of_pos_right _ (Nat.pow_pos (by omega))
    have h2 : jB ^ 235 ≤ jB ^ 236 := Nat.pow_le_pow_right (by decide) (by decide)
    omega
  refine mj_Ok.of (M := mj_m71) rfl rfl rfl ?_
  refine mj_T.pl rfl rfl rfl rfl ?_
  refine mT_get (v := .int (jn ((dy + gap : Nat) : Int))) m 13 kp (by decide) rfl (congrArg (fun z : Int => some (Value.int (jn z))) (hdx)) ?_
  refine mj_T.pl rfl rfl rfl rfl ?_
  refine mT_get (v := .int (jn ((dy : Nat) : Int))) m 13 kq (by decide) rfl (congrArg (fun z : Int => some (Value.int (jn z))) (hdy)) ?_
  refine mj_T.isub (a := ((dy + gap : Nat) : Int)) (b := ((dy : Nat) : Int)) rfl ?_
  refine mj_T.pl (loc' := [some (.ref 172), some (.ref p), some (.ref q), some (.ref r), some (.int (jn (((dy + gap : Nat) : Int) - ((dy : Nat) : Int)))), none]) rfl rfl rfl rfl ?_
  rw [show ((dy + gap : Nat) : Int) - ((dy : Nat) : Int) = (gap : Int) by omega]
  refine mj_T.pl rfl rfl rfl rfl ?_
  refine mT_get m 16 cq_d172 (by decide) rfl rfl ?_
  refine mT_get m 11 cq_d19 (by decide) rfl rfl ?_
  refine mj_T.pl rfl rfl rfl rfl ?_
  refine mj_T.call rfl rfl (Nat.le_of_ble_eq_true rfl) (Nat.le_of_ble_eq_true rfl) (mV_of m 13 cq_d80 (by decide) rfl (by decide) rfl _) rfl (mj_Ok.up (by omega) (mP_set (D := 0) m cq_d80 kp (by omega) hpz (fun i hi => by rw [(mK_z.2.2.2.2.1 i (by omega)).2.2]; exact jnl_B (hF i) hal))) (fun v g1 hq => ?_) (fun i g1 hq => ?_)
  rotate_left
  · obtain ⟨_, _, hq⟩ := hq; cases hq
  obtain ⟨_, m2, hq⟩ := hq
  cases hq
  rw [h83] at m2
  refine mj_T.eq (pc2 := 22) (st2 := []) ?_ rfl rfl rfl rfl
  refine mj_T.pl rfl rfl rfl rfl ?_
  refine mj_T.pl (loc' := [some (.ref 172), some (.ref p), some (.ref q), some (.ref r), some (.int (jn ((gap : Nat) : Int))), some (.int (jn ((gap : Nat) : Int)))]) rfl rfl rfl rfl ?_
  refine mj_T.eq (loc2 := [some (.ref 172), some (.ref p), some (.ref q), some (.ref r), some (.int (jn (gap : Int))), some (.int (jn (((gap + 1 : Nat) : Int) - 1)))]) ?_ rfl (by rw [show ((gap + 1 : Nat) : Int) - 1 = (gap : Int) by omega]) rfl rfl
  refine mR_el (D := D + 1) (V := V) (F := pcs V p) kp kq kr (by omega) ((congrFun (xup_oth (by omega)) 2).trans hdy) hdq hg hF hB hbe hfit hbc (fun V1 h1 m1 e1 e2 => ?_) (gap + 1) 0 (by omega) _ _ m2 (fun e he => pfl_at _ _ _ he) (fun x x1 x2 x3 => pfl_off _ _ _ x3)
  refine mj_T.pl rfl rfl rfl rfl ?_
  refine mT_get m1 16 cq_d172 (by decide) rfl rfl ?_
  refine mT_get m1 11 cq_d19 (by decide) rfl rfl ?_
  refine mj_T.call rfl rfl (Nat.le_of_ble_eq_true rfl) (Nat.le_of_ble_eq_true rfl) (mV_of m1 13 cq_d80 (by decide) rfl (by decide) rfl _) rfl (mj_Ok.up (by omega) (mP_settle (D := 0) m1 cq_d80 (fun e he => by rw [h83] at he; rw [e1 e he]; exact Nat.le_trans (jnl_B (er_abs hF hB hbe (gap + 1) e) hfit) (by decide)))) (fun v g61 hq => ?_) (fun i g61 hq => ?_)
  rotate_left
  · obtain ⟨_, _, hq⟩ := hq; cases hq
  obtain ⟨_, m62, hq⟩ := hq
  cases hq
  rw [h83, xup_xup] at m62
  refine mj_T.eq (pc2 := 64) (st2 := []) ?_ rfl rfl rfl rfl
  refine mj_T.pl rfl rfl rfl rfl ?_
  refine mT_get m62 16 cq_d172 (by decide) rfl rfl ?_
  refine mj_T.pl rfl rfl rfl rfl ?_
  refine mT_get m62 16 cq_d172 (by decide) rfl rfl ?_
  refine mT_get m62 11 cq_d19 (by decide) rfl rfl ?_
  refine mj_T.pl rfl rfl rfl rfl ?_
  refine mT_get m62 16 cq_d172 (by decide) rfl rfl ?_
  refine mj_T.pl rfl rfl rfl rfl ?_
  have hE : ∀ e, e < 13 → jnl (V1 (80 + 4 + 2 * e)).natAbs ≤ 235 := fun e he => by
    rw [e1 e he]
    exact jnl_B (er_abs hF hB hbe (gap + 1) e) hfit
  have hdl := fdg_le (pco V1 80) 13
  have o174 : V1 174 = V 174 := e2 174 (by decide) (by decide) (by omega)
  have o176 : V1 176 = V 176 := e2 176 (by decide) (by decide) (by omega)
  refine mj_T.call rfl rfl (Nat.le_of_ble_eq_true rfl) (Nat.le_of_ble_eq_true rfl) (mV_of m62 11 cq_d19 (by decide) rfl (by decide) rfl _) rfl (mj_Ok.up (by omega) (mD_divParts (D := 0) (t := 1) (dp := fdg (pco V1 80) 13) m62 cq_d80 cq_d174 (by decide) (by rw [h83]; exact hdl) (xup_at _ _ _ _) (fun e h1 h2 => fdg_zero (pco V1 80) 13 e h1 (by rw [h83] at h2; exact h2)) (fun e he => by rw [h83] at he; rw [(mK_z.2.2.2.2.1 e he).2.2]; exact ⟨by have := hE e he; omega, by have := hE e he; omega⟩) (by rw [o174]; exact h174))) (fun v g63 hq => ?_) (fun i g63 hq => ?_)
  rotate_left
  · obtain ⟨_, _, _, _, hq⟩ := hq; cases hq
  obtain ⟨V2, _, m64, I2, hq⟩ := hq
  cases hq
  rw [h83, o174] at I2
  refine mj_T.eq (pc2 := 83) (st2 := []) ?_ rfl rfl rfl rfl
  refine mj_T.pl rfl rfl rfl rfl ?_
  refine mT_get m64 16 cq_d172 (by decide) rfl rfl ?_
  refine mj_T.pl rfl rfl rfl rfl ?_
  refine mT_get m64 16 cq_d172 (by decide) rfl rfl ?_
  refine mT_get m64 11 cq_d19 (by decide) rfl rfl ?_
  refine mj_T.pl rfl rfl rfl rfl ?_
  refine mT_get m64 16 cq_d172 (by decide) rfl rfl ?_
  refine mj_T.pl rfl rfl rfl rfl ?_
  have hV2 : ∀ e, e < 13 → V2 (80 + 4 + 2 * e) = itd (V1 (80 + 4 + 2 * e)) (V 174) 1 := fun e he => by
    rw [I2.1 e he, if_pos he]
  have p176 : V2 176 = V 176 := (I2.2.2 176 (by decide) (by decide) (by omega)).trans o176
  have hE2 : ∀ e, e < 13 → jnl (V2 (80 + 4 + 2 * e)).natAbs ≤ 235 := fun e he => by
    rw [hV2 e he]
    exact Nat.le_trans (jnl_mono (itd_le _ _ _)) (hE e he)
  refine mj_T.call rfl rfl (Nat.le_of_ble_eq_true rfl) (Nat.le_of_ble_eq_true rfl) (mV_of m64 11 cq_d19 (by decide) rfl (by decide) rfl _) rfl (mj_Ok.up (by omega) (mD_divParts (D := 0) (t := gap) (dp := fdg (pco V1 80) 13) m64 cq_d80 cq_d176 (by omega) (by rw [h83]; exact hdl) (xup_at _ _ _ _) (fun e h1 h2 => by rw [h83] at h2; rw [hV2 e h2, show V1 (80 + 4 + 2 * e) = 0 from fdg_zero (pco V1 80) 13 e h1 h2]; exact itd_zero _ 1) (fun e he => by rw [h83] at he; rw [(mK_z.2.2.2.2.1 e he).2.2]; exact ⟨by have := hE2 e he; omega, by have := hE2 e he; omega⟩) (by rw [p176]; exact h176))) (fun v g65 hq => ?_) (fun i g65 hq => ?_)
  rotate_left
  · obtain ⟨_, _, _, _, hq⟩ := hq; cases hq
  obtain ⟨V3, _, m66, I3, hq⟩ := hq
  cases hq
  rw [h83, p176] at I3
  refine mj_T.eq (pc2 := 103) (st2 := []) ?_ rfl rfl rfl rfl
  iterate 2 refine mj_T.pl rfl rfl rfl rfl ?_
  refine mT_get m66 16 cq_d172 (by decide) rfl rfl ?_
  refine mT_get m66 11 cq_d19 (by decide) rfl rfl ?_
  have hw3 : ∀ e, e < cL (r + 3) → pcs V3 80 e = (rdv (pcs V p) (pcs V q) (dy + gap) dy (V 174) (V 176)) e := fun e he => by
    rw [pcs_in (by omega), I3.1 e (by omega), if_pos (by omega), hV2 e (by omega), e1 e (by omega), rdv_eq]
  have off3 : ∀ x, (x < 80 + 4 ∨ 80 + 4 + 2 * 13 ≤ x) → x ≠ 164 → x ≠ 166 → x ≠ 170 → V3 x = V x := fun x x1 x2 x3 x4 => by
    rw [I3.2.2 x x2 x4 (by omega), I2.2.2 x x2 x4 (by omega), e2 x x2 x3 (by omega)]
  refine mj_T.call rfl rfl (Nat.le_of_ble_eq_true rfl) (Nat.le_of_ble_eq_true rfl) (mV_of m66 13 kr (by decide) rfl (by decide) rfl _) rfl (mj_Ok.up (by omega) (mP_set (D := 0) m66 kr cq_d80 (by omega) ((off3 81 (by omega) (by decide) (by decide) (by decide)).trans h81) (fun i hi => by rw [hw3 i hi]; exact hcap i hi))) (fun v g67 hq => ?_) (fun i g67 hq => ?_)
  rotate_left
  · obtain ⟨_, _, hq⟩ := hq; cases hq
  obtain ⟨_, m68, hq⟩ := hq
  cases hq
  refine mj_T.eq (pc2 := 114) (st2 := []) ?_ rfl rfl rfl rfl
  refine mj_T.pl rfl rfl rfl rfl ?_
  have hfq := mP_far kq kr hqr
  have hdy5 : (xup (xup X 80 2 ((fdg (pco V1 80) 13 : Int) - 1)) r 2 ((fdg (pcs V3 80) (cL (r + 3)) : Int) - 1)) q 2 = (dy : Int) := (congrFun (xup_oth (by omega)) 2).trans ((congrFun (xup_oth (by omega)) 2).trans hdy)
  have hv4 : (pfl V3 r (pcs V3 80) (cL (r + 3))) (q + 4 + 2 * dy) = pcs V q dy := by
    rw [pfl_off _ _ _ (by omega), off3 _ (by omega) (by omega) (by omega) (by omega), pcs_in hdq]
  have hX4 : (xup (xup X 80 2 ((fdg (pco V1 80) 13 : Int) - 1)) r 2 ((fdg (pcs V3 80) (cL (r + 3)) : Int) - 1)) r 2 = (fdg (rdv (pcs V p) (pcs V q) (dy + gap) dy (V 174) (V 176)) (cL (r + 3)) : Int) - 1 := by
    rw [xup_at, fdg_congr _ (fun i hi => hw3 i hi)]
  have h80r : -1 ≤ (xup (xup X 80 2 ((fdg (pco V1 80) 13 : Int) - 1)) r 2 ((fdg (pcs V3 80) (cL (r + 3)) : Int) - 1)) 80 2 ∧ (xup (xup X 80 2 ((fdg (pco V1 80) 13 : Int) - 1)) r 2 ((fdg (pcs V3 80) (cL (r + 3)) : Int) - 1)) 80 2 < 13 := by
    rw [xup_ne _ _ (Or.inl (by omega)), xup_at]
    omega
  have hXo : ∀ a, a ≠ 80 → a ≠ r → (xup (xup X 80 2 ((fdg (pco V1 80) 13 : Int) - 1)) r 2 ((fdg (pcs V3 80) (cL (r + 3)) : Int) - 1)) a = X a := fun a a1 a2 => (xup_oth a2).trans (xup_oth a1)
  refine mj_T.call rfl rfl (Nat.le_of_ble_eq_true rfl) (Nat.le_of_ble_eq_true rfl) (mV_of m68 13 kq (by decide) rfl (by decide) rfl _) rfl (mj_Ok.up (by omega) (mP_lead (D := 0) m68 kq hdy5 hdq)) (fun v g69 hq => ?_) (fun i g69 hq => ?_)
  rotate_left
  · cases hq
  cases hq
  refine mj_T.eq (pc2 := 118) (st2 := [.ref (q + 4 + 2 * dy)]) ?_ rfl rfl rfl rfl
  refine mT_sg m68 ((mK_p kq).2.2.2 dy hdq) rfl ?_ (hcl := by rw [hv4]; omega)
  refine mj_T.if0 (a := (jsg ((pfl V3 r (pcs V3 80) (cL (r + 3))) (q + 4 + 2 * dy)))) rfl (jsg_r _) (fun c70 => ?_) (fun c70 => ?_)
  · simp only [jc, Bool.not_eq_true', Bool.not_eq_false', decide_eq_true_eq, decide_eq_false_iff_not] at c70
    rw [hv4] at c70
    have hpos : 0 < pcs V q dy := jsg_pp c70
    refine mj_T.pl rfl rfl rfl rfl ?_
    refine mj_T.call rfl rfl (Nat.le_of_ble_eq_true rfl) (Nat.le_of_ble_eq_true rfl) (mV_of m68 13 kr (by decide) rfl (by decide) rfl _) rfl (mj_Ok.up (by omega) (mP_negate (D := 0) m68 kr (pcl_pfl (Nat.le_refl _) (fun e he => by have q1 := hcap e he; have q2 := mK_w (Or.inl ((mK_p kr).2.2.2 e he)); rw [hw3 e he]; omega)))) (fun v g71 hq => ?_) (fun i g71 hq => ?_)
    rotate_left
    · obtain ⟨_, _, hq⟩ := hq; cases hq
    obtain ⟨_, m72, hq⟩ := hq
    cases hq
    rw [pfl_pfl] at m72
    refine mj_T.eq (pc2 := 135) (st2 := []) ?_ rfl rfl rfl rfl
    have hw5 : ∀ e, e < cL (r + 3) → (pfl V3 r (fun e => -(pfl V3 r (pcs V3 80) (cL (r + 3))) (r + 4 + 2 * e)) (cL (r + 3))) (r + 4 + 2 * e) = -(rdv (pcs V p) (pcs V q) (dy + gap) dy (V 174) (V 176)) e := fun e he => by
      rw [pfl_at _ _ _ he, pfl_at _ _ _ he]
      rw [hw3 e he]
    refine mj_T.imp (mR_tail (D := D) (V := V) m72 kp kq kr hq hr hqr hdy5 hdq hg h176 hlq hl60 hk60 hw5 (fun x x1 x2 x3 x4 x5 => ?_)) (fun z hz => ?_)
    · rw [pfl_off _ _ _ x5]
      exact off3 x x1 x2 x3 x4
    · obtain ⟨V6, h6, m6, g1, g2, g3, g4, hz⟩ := hz
      exact ⟨V6, _, h6, m6, Or.inr g1, fun _ => g1, fun q => absurd (by first | (exact Or.inr hodd) | (exact Or.inl hpos)) q, hX4, g2, g3, g4, hXo, h80r, hz⟩
  · simp only [jc, Bool.not_eq_true', Bool.not_eq_false', decide_eq_true_eq, decide_eq_false_iff_not] at c70
    rw [hv4] at c70
    have hneg : ¬ 0 < pcs V q dy := fun z => c70 (by rw [jsg_pos z]; decide)
    iterate 2 refine mj_T.pl rfl rfl rfl rfl ?_
    refine mj_T.irem (a := (gap : Int)) (b := 2) rfl ⟨by omega, by omega⟩ ⟨by decide, by decide⟩ (by decide) ?_
    rw [show (gap : Int).tmod 2 = ((gap % 2 : Nat) : Int) from (Int.ofNat_tmod gap 2).symm]
    refine mj_T.if0 (a := ((gap % 2 : Nat) : Int)) rfl ⟨by omega, by omega⟩ (fun c73 => ?_) (fun c73 => ?_)
    · simp only [jc, Bool.not_eq_true', Bool.not_eq_false', decide_eq_true_eq, decide_eq_false_iff_not] at c73
      have hnot : ¬ (0 < pcs V q dy ∨ gap % 2 ≠ 0) := by omega
      have hw5 : ∀ e, e < cL (r + 3) → (pfl V3 r (pcs V3 80) (cL (r + 3))) (r + 4 + 2 * e) = (rdv (pcs V p) (pcs V q) (dy + gap) dy (V 174) (V 176)) e := fun e he => by
        rw [pfl_at _ _ _ he]
        exact hw3 e he
      refine mj_T.imp (mR_tail (D := D) (V := V) m68 kp kq kr hq hr hqr hdy5 hdq hg h176 hlq hl60 hk60 hw5 (fun x x1 x2 x3 x4 x5 => ?_)) (fun z hz => ?_)
      · rw [pfl_off _ _ _ x5]
        exact off3 x x1 x2 x3 x4
      · obtain ⟨V6, h6, m6, g1, g2, g3, g4, hz⟩ := hz
        exact ⟨V6, _, h6, m6, Or.inl g1, fun q => absurd q hnot, fun _ => g1, hX4, g2, g3, g4, hXo, h80r, hz⟩
    · simp only [jc, Bool.not_eq_true', Bool.not_eq_false', decide_eq_true_eq, decide_eq_false_iff_not] at c73
      have hodd : gap % 2 ≠ 0 := by omega
      refine mj_T.pl rfl rfl rfl rfl ?_
      refine mj_T.call rfl rfl (Nat.le_of_ble_eq_true rfl) (Nat.le_of_ble_eq_true rfl) (mV_of m68 13 kr (by decide) rfl (by decide) rfl _) rfl (mj_Ok.up (by omega) (mP_negate (D := 0) m68 kr (pcl_pfl (Nat.le_refl _) (fun e he => by have q1 := hcap e he; have q2 := mK_w (Or.inl ((mK_p kr).2.2.2 e he)); rw [hw3 e he]; omega)))) (fun v g74 hq => ?_) (fun i g74 hq => ?_)
      rotate_left
      · obtain ⟨_, _, hq⟩ := hq; cases hq
      obtain ⟨_, m75, hq⟩ := hq
      cases hq
      rw [pfl_pfl] at m75
      refine mj_T.eq (pc2 := 135) (st2 := []) ?_ rfl rfl rfl rfl
      have hw5 : ∀ e, e < cL (r + 3) → (pfl V3 r (fun e => -(pfl V3 r (pcs V3 80) (cL (r + 3))) (r + 4 + 2 * e)) (cL (r + 3))) (r + 4 + 2 * e) = -(rdv (pcs V p) (pcs V q) (dy + gap) dy (V 174) (V 176)) e := fun e he => by
        rw [pfl_at _ _ _ he, pfl_at _ _ _ he]
        rw [hw3 e he]
      refine mj_T.imp (mR_tail (D := D) (V := V) m75 kp kq kr hq hr hqr hdy5 hdq hg h176 hlq hl60 hk60 hw5 (fun x x1 x2 x3 x4 x5 => ?_)) (fun z hz => ?_)
      · rw [pfl_off _ _ _ x5]
        exact off3 x x1 x2 x3 x4
      · obtain ⟨V6, h6, m6, g1, g2, g3, g4, hz⟩ := hz
        exact ⟨V6, _, h6, m6, Or.inr g1, fun _ => g1, fun q => absurd (by first | (exact Or.inr hodd) | (exact Or.inl hpos)) q, hX4, g2, g3, g4, hXo, h80r, hz⟩
end MNY
