/-! The class, exactly: a whole text is read. -/
/-- what the text says -/
noncomputable def rdV (T : Nat → Int) (tm : Nat) : Option pz_P := zv0 T tm (rdF tm) 3 8 0 none 1
theorem CR.of {X X1 : Nat → Nat → Int} {N : Nat → Int} {u : Nat} {H : Nat → Nat → Int} (h2 : X1 1 2 = X 1 2) (h3 : X1 1 3 = X 1 3) (h : ∀ c, (2 ≤ c ∧ c < 12) ∨ 483 ≤ c ∨ c = 15 ∨ c = 17 → X1 c = X c) (c : CR X N u H) : CR X1 N u H := by
  obtain ⟨e, he, q3, q2, b, bh, tl⟩ := c
  exact ⟨e, he, h3.trans q3, h2.trans q2, b.cg (fun c c1 c2 => h c (by omega)), fun k hk => (bh k hk).cg (fun c c1 c2 => h c (by omega)), tl.to (fun c hc => h c (by omega))⟩
/-- the reader begins -/
def rX1 (X : Nat → Nat → Int) (tm : Nat) : Nat → Nat → Int := fun a j => if a = 455 then (if j = 1 then 13 else if j = 2 then 0 else if j = 3 then -1 else if j = 4 then 0 else X 455 j) else if a = 13 then (if j = 1 then (tm : Int) else X 13 j) else X a j
theorem rX1_o (X : Nat → Nat → Int) (tm : Nat) {a : Nat} (h1 : a ≠ 455) (h2 : a ≠ 13) : rX1 X tm a = X a := funext fun j => by
  unfold rX1
  rw [if_neg h1, if_neg h2]
section RMA
variable {D tm n : Nat} {T : Nat → Int} {g h h' : mj_H} {X Y : Nat → Nat → Int} {V : Nat → Int}
theorem rM_start (m : jM g n V X h) (b0 : by0 V) (d : DG X) (hB : jBuf tm T h) : rM g n (rX1 X tm) (fun _ => False) Y 0 0 (-1) (h.set 455 (.inr (4, RF 0 (-1) 0))) ∧ bX (rX1 X tm) tm T := by
  have hl := (List.getElem?_eq_some_iff.mp (m.O 14 cq_d455 (by decide))).1
  have e13 : rX1 X tm 13 1 = (tm : Int) := rfl
  have hm : jM g n V (rX1 X tm) (h.set 455 (.inr (4, RF 0 (-1) 0))) := by
    refine m.up (fun x => x = 455 ∨ x = 13) (by rw [List.length_set]) (fun x hx => ?_) (fun p hp => List.getElem?_set_ne (fun e => hp (Or.inl e.symm))) (fun _ _ => rfl) (fun x hx => rX1_o X tm (fun e => hx (Or.inl e)) (fun e => hx (Or.inr e))) (fun x hx => ?_) (fun x hx => ?_)
    · rcases hx with rfl | rfl
      · rw [cq_d455]
        decide
      · rw [cq_d13]
        decide
    · have w := mK_w hx
      constructor
      · intro e
        rcases e with rfl | rfl
        · rw [cq_d455] at hx
          omega
        · rw [cq_d13] at hx
          omega
      · intro e
        rcases e with e | e
        · rw [e, cq_d455] at w
          omega
        · rw [e, cq_d13] at w
          omega
    · rcases hx with rfl | rfl
      · unfold jMk
        rw [cq_d455, if_neg (by decide), if_neg (by decide), if_neg (by decide), if_neg (by decide), if_neg (by decide), if_neg (by decide), if_neg (by decide), List.getElem?_set_self hl]
        rfl
      · unfold jMk
        rw [cq_d13, if_neg (by decide), if_neg (by decide), if_neg (by decide), if_neg (by decide), if_neg (by decide), if_neg (by decide), if_neg (by decide), List.getElem?_set_ne (by decide), hB.1]
        rfl
  refine ⟨⟨V, _, hm, ⟨b0, d.of (fun p kp => rX1_o X tm (fun e => ?_) (fun e => ?_)), sBn.rf _⟩, ⟨rfl, rfl, rfl, rfl⟩, fun c hc => hc.elim⟩, e13, fun j hj => ?_⟩
  · rw [e, cq_d455] at kp
    omega
  · rw [e, cq_d13] at kp
    omega
  · have h1 := m.2.2 14
    rw [cq_456.2.2.2.2.2.2.2.2] at h1
    have h2 : h[14]? = some (.inl (2, cL 14, fun j => .int (jn (X 14 j)))) := h1
    obtain ⟨f, f1, f2⟩ := hB.2
    rw [h2] at f1
    injection f1 with f1
    injection f1 with f1
    have f3 := (Prod.mk.inj (Prod.mk.inj f1).2).2
    rw [← f2 j hj, ← f3]
    rfl
theorem rm_accepts (m : jM g n V X h) (b0 : by0 V) (d : DG X) (hB0 : jBuf tm T h) (ht : tm ≤ 200) (hT : ∀ j : Nat, j < tm → 1 ≤ T j ∧ T j ≤ 255) : mj_Ok 40 46 [.ref 455, .ref 13] h (fun r => ∃ (p : Nat) (h2 : mj_H) (Y2 : Nat → Nat → Int) (t2 : Int) (Z2 : Nat → Prop), jr (rdErr T tm) ∧ rM g n (rX1 X tm) Z2 Y2 t2 (p : Int) (rdErr T tm) h2 ∧ (rdErr T tm = -1 → Z2 457 ∧ U0 (rdV T tm) 0 t2 (Y2 457)) ∧ r = (.inl (some (.int (jn (if rdErr T tm = -1 then 1 else 0)))), h2)) := by
  have hc := m.O 14 cq_d455 (by decide)
  have hl := (List.getElem?_eq_some_iff.mp hc).1
  refine mj_Ok.of (M := mj_m46) (loc := [some (.ref 455), some (.ref 13)]) rfl rfl rfl ?_
  iterate 2 refine mj_T.pl rfl rfl rfl rfl ?_
  refine mj_T.pfl rfl hc (Nat.le_of_ble_eq_true rfl) rfl ?_
  iterate 2 refine mj_T.pl rfl rfl rfl rfl ?_
  refine mj_T.pfl rfl (List.getElem?_set_self hl) (Nat.le_of_ble_eq_true rfl) rfl ?_
  rw [List.set_set]
  iterate 2 refine mj_T.pl rfl rfl rfl rfl ?_
  refine mj_T.pfl rfl (List.getElem?_set_self hl) (Nat.le_of_ble_eq_true rfl) rfl ?_
  rw [List.set_set]
  iterate 2 refine mj_T.pl rfl rfl rfl rfl ?_
  refine mj_T.pfl rfl (List.getElem?_set_self hl) (Nat.le_of_ble_eq_true rfl) rfl ?_
  rw [List.set_set]
  obtain ⟨s1, hB⟩ := rM_start (Y := fun _ _ => 0) m b0 d hB0
  obtain ⟨h1, hh1⟩ : ∃ z, z = h.set 455 (.inr (4, RF 0 (-1) 0)) := ⟨_, rfl⟩
  rw [← hh1] at s1
  refine mj_T.eq (h2 := h1) ?_ rfl rfl rfl (by rw [hh1]; rfl)
  obtain ⟨hre, hrb⟩ := rdR_eq T tm
  obtain ⟨res, hres⟩ : ∃ z, rdR T tm = z := ⟨_, rfl⟩
  rw [hres] at hre hrb
  have t55 : ∀ (x : Int) (p : Nat) (h2 : mj_H) (Y2 : Nat → Nat → Int) (t2 : Int) (Z2 : Nat → Prop), jr x → p ≤ tm → rdErr T tm = x → rM g n (rX1 X tm) Z2 Y2 t2 (p : Int) x h2 → (x = -1 → Z2 457 ∧ U0 (rdV T tm) 0 t2 (Y2 457)) → mj_T 39 mj_m46 55 [some (.ref 455), some (.ref 13)] [] h2 (fun r => ∃ (p : Nat) (h2 : mj_H) (Y2 : Nat → Nat → Int) (t2 : Int) (Z2 : Nat → Prop), jr (rdErr T tm) ∧ rM g n (rX1 X tm) Z2 Y2 t2 (p : Int) (rdErr T tm) h2 ∧ (rdErr T tm = -1 → Z2 457 ∧ U0 (rdV T tm) 0 t2 (Y2 457)) ∧ r = (.inl (some (.int (jn (if rdErr T tm = -1 then 1 else 0)))), h2)) := fun x p h2 Y2 t2 Z2 jx hp ex s2 hu => by
    rw [ex]
    refine mj_T.pl rfl rfl rfl rfl ?_
    refine rm_g s2 rfl rfl ?_
    refine mj_T.pl rfl rfl rfl rfl ?_
    refine mj_T.icmp (a := x) (b := -1) rfl jx ⟨by decide, by decide⟩ (fun c => ?_) (fun c => ?_)
    · simp only [jc, Bool.not_eq_true', decide_eq_false_iff_not] at c
      refine mj_T.pl rfl rfl rfl rfl ?_
      exact mj_T.ret rfl rfl rfl ⟨p, h2, Y2, t2, Z2, jx, s2, hu, by rw [if_neg c]⟩
    · simp only [jc, Bool.not_eq_false', decide_eq_true_eq] at c
      iterate 2 refine mj_T.pl rfl rfl rfl rfl ?_
      exact mj_T.ret rfl rfl rfl ⟨p, h2, Y2, t2, Z2, jx, s2, hu, by rw [if_pos c]⟩
  iterate 2 refine mj_T.pl rfl rfl rfl rfl ?_
  refine mj_T.eq (st2 := [.int (jn (8 - ((8 : Nat) : Int))), .ref 455]) ?_ rfl rfl rfl rfl
  refine mj_T.call rfl rfl (Nat.le_of_ble_eq_true rfl) (Nat.le_of_ble_eq_true rfl) (s1.rv (by decide) rfl _) rfl (mj_Ok.up (by decide) (rm_all hB ht hT 8 (by decide) (rdF tm) 0 h1 res (fun _ _ => 0) 0 (Or.inl rfl) (Nat.zero_le _) hre (s1.mono (fun c hc => by unfold zkS at hc; omega)))) (fun v h4 hq => ?_) (fun i h4 hq => by obtain ⟨⟨_, _, _, _, _, hq, _⟩, _⟩ := hq; cases hq)
  obtain ⟨⟨v2, c2, h5, Y4, t4, hq, hv, c3, c4⟩, hsk⟩ := hq
  cases hv
  cases hq
  refine mj_T.pl rfl rfl rfl rfl ?_
  rcases c4 with ⟨e1, e2, e3, s4, hU⟩ | ⟨e1, e2, s4⟩
  rotate_left
  · refine rm_g s4 rfl rfl ?_
    refine mj_T.pl rfl rfl rfl rfl ?_
    refine mj_T.icmp (a := (res.2 : Int)) (b := -1) rfl ⟨by omega, by omega⟩ ⟨by decide, by decide⟩ (fun _ => ?_) (fun c => ?_)
    · exact t55 _ c2 h4 _ _ _ ⟨by omega, by omega⟩ c3 (by unfold rdErr; rw [hres, e1]; rfl) s4 (fun q => by omega)
    · simp only [jc, Bool.not_eq_false', decide_eq_true_eq] at c
      omega
  have hb := s4.jBuf hB
  have hsk2 := hsk e1
  refine rm_g s4 rfl rfl ?_
  refine mj_T.pl rfl rfl rfl rfl ?_
  refine mj_T.icmp (a := -1) (b := -1) rfl ⟨by decide, by decide⟩ ⟨by decide, by decide⟩ (fun c => absurd c (by decide)) (fun _ => ?_)
  refine mj_T.pl rfl rfl rfl rfl ?_
  refine rm_g s4 rfl rfl ?_
  refine mj_T.pl rfl rfl rfl rfl ?_
  refine rm_g s4 rfl rfl ?_
  refine mj_T.gfl rfl hb.1 rfl ?_
  refine mj_T.icmp (a := (c2 : Int)) (b := (tm : Int)) rfl ⟨by omega, by omega⟩ ⟨by omega, by omega⟩ (fun c => ?_) (fun c => ?_)
  · have c := of_decide_eq_true c
    refine t55 (-1) c2 h4 _ _ _ ⟨by decide, by decide⟩ c3 ?_ s4 (fun _ => ⟨Or.inl ⟨by decide, by decide⟩, hU.1⟩)
    unfold rdErr
    rw [hres, if_pos e1, if_pos (by rw [hsk2]; omega)]
  · have c := of_decide_eq_false c
    iterate 2 refine mj_T.pl rfl rfl rfl rfl ?_
    refine rm_g s4 rfl rfl ?_
    refine rm_p3 s4 rfl (fun h6 s6 => ?_)
    refine t55 (c2 : Int) c2 h6 _ _ _ ⟨by omega, by omega⟩ c3 ?_ s6 (fun q => by omega)
    unfold rdErr
    rw [hres, if_pos e1, if_neg (by rw [hsk2]; omega), hsk2, e2]
end RMA
section RMC
variable {D tm n u : Nat} {T : Nat → Int} {g h : mj_H} {N : Nat → Int} {H : Nat → Nat → Int}
theorem pX_read (hg : g.length ≤ n) (A : AS N u H) (s : cS g n N u H h) (hB0 : jBuf tm T h) (ht : tm ≤ 200) (hT : ∀ j : Nat, j < tm → 1 ≤ T j ∧ T j ≤ 255) {to : Int} (rto : -2147483648 ≤ to ∧ to ≤ 2147483647) : mj_Ok 41 114 [.ref 1, .int (jn to)] h (RO g n N u H (0 ≤ to ∧ to ≤ 5) (fun k => (rdErr T tm ≠ -1 ∧ k = 2) ∨ (rdErr T tm = -1 ∧ rdV T tm = none ∧ k = 1)) (fun w => rdErr T tm = -1 ∧ ∃ P, rdV T tm = some P ∧ isP P w) to) := by
  obtain ⟨V, X, m, b0, d, c⟩ := s
  refine mj_Ok.of (M := mj_m114) (loc := [some (.ref 1), some (.int (jn to)), none]) rfl rfl rfl ?_
  iterate 2 refine mj_T.pl rfl rfl rfl rfl ?_
  refine mj_T.call rfl rfl (Nat.le_of_ble_eq_true rfl) (Nat.le_of_ble_eq_true rfl) (mV_of m 19 cq_d1 (by decide) rfl (by decide) rfl _) rfl (mj_Ok.up (by omega) (mC_rowOf (D := 0) m (i := to) (by omega))) (fun v g1 hq => ?_) (fun i g1 hq => ?_)
  rotate_left
  · rcases hq with ⟨_, hq⟩ | ⟨hn, hq⟩
    · cases hq
    · cases hq
      exact Or.inl ⟨rfl, Or.inr ⟨_, _, Or.inl ⟨by omega, rfl⟩, cS.thr hg m b0 d c, rfl⟩⟩
  rcases hq with ⟨kto, hq⟩ | ⟨_, hq⟩
  rotate_left
  · cases hq
  cases hq
  refine mj_T.eq (pc2 := 5) (st2 := [.ref (4 + to.toNat)]) ?_ rfl rfl rfl rfl
  iterate 2 refine mj_T.pl rfl rfl rfl rfl ?_
  refine mT_get m 19 cq_d1 (by decide) rfl rfl ?_
  refine mj_T.pl rfl rfl rfl rfl ?_
  refine mT_get m 19 cq_d1 (by decide) rfl rfl ?_
  refine mj_T.call rfl rfl (Nat.le_of_ble_eq_true rfl) (Nat.le_of_ble_eq_true rfl) (mV_of m 14 cq_d455 (by decide) rfl (by decide) rfl _) rfl (mj_Ok.up (by omega) (rm_accepts m b0 d hB0 ht hT)) (fun v g2 hq => ?_) (fun i g2 hq => by obtain ⟨_, _, _, _, _, _, _, _, hq⟩ := hq; cases hq)
  obtain ⟨p, _, Y2, t2, Z2, hjE, ⟨V2, X2, m2, ⟨b2, d2, sb⟩, ⟨x1, x2, x3, x4⟩, yr⟩, hU, hq⟩ := hq
  have c1 : CR (rX1 X tm) N u H := CR.of (congrFun (rX1_o X tm (by decide) (by decide)) 2) (congrFun (rX1_o X tm (by decide) (by decide)) 3) (fun a ha => rX1_o X tm (by omega) (by omega)) c
  have c2 := c1.sb sb
  obtain ⟨E, hE⟩ : ∃ E, rdErr T tm = E := ⟨_, rfl⟩
  rw [hE] at hjE hU x3 hq ⊢
  generalize hz : (if E = -1 then (1 : Int) else 0) = z at hq
  have hz01 : (E = -1 ∧ z = 1) ∨ (E ≠ -1 ∧ z = 0) := by
    rw [← hz]
    split
    · rename_i q
      exact Or.inl ⟨q, rfl⟩
    · rename_i q
      exact Or.inr ⟨q, rfl⟩
  cases hq
  refine mj_T.pl (loc' := [some (.ref 1), some (.int (jn to)), some (.int (jn z))]) rfl rfl rfl rfl ?_
  refine mj_T.pl rfl rfl rfl rfl ?_
  refine mT_get m2 19 cq_d1 (by decide) rfl rfl ?_
  refine mj_T.pl rfl rfl rfl rfl ?_
  refine mT_put (v := 0) m2 27 cq_d13 (by decide) rfl (by simp [jMf, xup]) (by simp [jMf]) rfl (fun g3 m3 => ?_)
  iterate 2 refine mj_T.pl rfl rfl rfl rfl ?_
  refine mT_get m3 19 cq_d1 (by decide) rfl rfl ?_
  refine mT_get (v := .int (jn E)) m3 14 cq_d455 (by decide) rfl (by rw [← x3]; rfl) ?_
  refine mT_put (v := E) m3 19 cq_d1 (by decide) rfl (by simp [jMf, xup]) (by simp [jMf]) rfl (fun g4 m4 => ?_)
  have eo : ∀ a, a ≠ 1 → a ≠ 13 → xup (xup X2 13 1 0) 1 15 E a = X2 a := fun a h1 h2 => funext fun j => by
    rw [xup_ne _ _ (Or.inl h1), xup_ne _ _ (Or.inl h2)]
  have c4 : CR (xup (xup X2 13 1 0) 1 15 E) N u H := CR.of (by rw [xup_ne _ _ (Or.inr (by decide)), xup_ne _ _ (Or.inl (by decide))]) (by rw [xup_ne _ _ (Or.inr (by decide)), xup_ne _ _ (Or.inl (by decide))]) (fun a ha => eo a (by omega) (by omega)) c2
  have d4 : DG (xup (xup X2 13 1 0) 1 15 E) := d2.of (fun a ka => eo a (fun q => by rw [q, cq_d1] at ka; omega) (fun q => by rw [q, cq_d13] at ka; omega))
  have y4 : (xup (xup X2 13 1 0) 1 15 E) 455 4 = t2 := by rw [eo 455 (by decide) (by decide), x4]
  have y457 : (xup (xup X2 13 1 0) 1 15 E) 457 = X2 457 := eo 457 (by decide) (by decide)
  generalize (xup (xup X2 13 1 0) 1 15 E) = X4 at m4 c4 d4 y4 y457
  refine mj_T.pl rfl rfl rfl rfl ?_
  rcases hz01 with ⟨hE1, rfl⟩ | ⟨hE1, rfl⟩
  rotate_left
  · refine mj_T.if0 (a := 0) rfl ⟨by decide, by decide⟩ (fun q => by simp [jc] at q) (fun _ => ?_)
    exact mj_T.throws rfl rfl rfl (Nat.le_of_ble_eq_true rfl) (Or.inr ⟨_, _, Or.inr ⟨kto, Or.inl ⟨hE1, rfl⟩⟩, cS.thr hg m4 b2 d4 c4, rfl⟩)
  refine mj_T.if0 (a := 1) rfl ⟨by decide, by decide⟩ (fun _ => ?_) (fun q => by simp [jc] at q)
  obtain ⟨z457, hu⟩ := hU hE1
  have k457 := (yr 457 z457).2
  refine mj_T.pl rfl rfl rfl rfl ?_
  refine mT_get m4 19 cq_d1 (by decide) rfl rfl ?_
  refine mT_get (v := .int (jn t2)) m4 14 cq_d455 (by decide) rfl (by rw [← y4]; rfl) ?_
  have ht2 := hu.t
  refine mj_T.if0 (a := t2) rfl ⟨by omega, by omega⟩ (fun q => ?_) (fun q => ?_)
  rotate_left
  · simp only [jc, Bool.not_eq_true', Bool.not_eq_false', decide_eq_true_eq, decide_eq_false_iff_not] at q
    have hn : rdV T tm = none := by
      rcases hu.2 with ⟨P, p1, p2, p3, p4⟩ | ⟨p1, p2⟩
      · omega
      · exact p1
    exact mj_T.throws rfl rfl rfl (Nat.le_of_ble_eq_true rfl) (Or.inr ⟨_, _, Or.inr ⟨kto, Or.inr ⟨hE1, hn, rfl⟩⟩, cS.thr hg m4 b2 d4 c4, rfl⟩)
  simp only [jc, Bool.not_eq_true', Bool.not_eq_false', decide_eq_true_eq, decide_eq_false_iff_not] at q
  obtain ⟨P, p1, p2, p4⟩ : ∃ P, rdV T tm = some P ∧ fit13 P ∧ ∀ j, j < 13 → Y2 457 j = P j := by
    rcases hu.2 with ⟨P, p1, p2, p3, p4⟩ | ⟨p1, p2⟩
    · exact ⟨P, p1, p2, p4⟩
    · omega
  refine mj_T.pl rfl rfl rfl rfl ?_
  refine mT_get m4 19 cq_d1 (by decide) rfl rfl ?_
  have kans : mj_Ok 1 47 [.ref 455] g4 (fun z => z = (.inl (some (.ref 457)), g4)) := by
    refine mj_Ok.of (M := mj_m47) (loc := [some (.ref 455)]) rfl rfl rfl ?_
    refine mj_T.pl rfl rfl rfl rfl ?_
    refine mT_get m4 14 cq_d455 (by decide) rfl rfl ?_
    refine mj_T.pl rfl rfl rfl rfl ?_
    refine mT_aald (i := 0) m4 6 cq_456.1 (by decide) rfl rfl (by decide) ⟨by decide, by rw [cq_456.2.1]; decide⟩ ?_
    exact mj_T.ret rfl rfl rfl rfl
  refine mj_T.call rfl rfl (Nat.le_of_ble_eq_true rfl) (Nat.le_of_ble_eq_true rfl) (mV_of m4 14 cq_d455 (by decide) rfl (by decide) rfl _) rfl (mj_Ok.up (by omega) kans) (fun v g5 hq => ?_) (fun i g5 hq => by cases hq)
  cases hq
  refine mj_T.eq (pc2 := 74) (st2 := [.ref 457]) ?_ rfl rfl rfl rfl
  refine mj_T.pl rfl rfl rfl rfl ?_
  refine mT_get m4 19 cq_d1 (by decide) rfl rfl ?_
  refine mj_T.call rfl rfl (Nat.le_of_ble_eq_true rfl) (Nat.le_of_ble_eq_true rfl) rfl rfl (mj_Ok.up (by omega) (mS_copy (D := 0) m4 (isRw.k (Or.inl ⟨by decide, by decide⟩)) cq_d481)) (fun v g6 hq => ?_) (fun i g6 hq => by obtain ⟨_, _, hq⟩ := hq; cases hq)
  obtain ⟨_, m6, hq⟩ := hq
  cases hq
  have hrow : ∀ j, j < 13 → xfl X4 481 (X4 457) 13 481 j = P j := fun j hj => by
    rw [xfl_at _ _ _ hj, y457, k457.2 j hj, p4 j hj]
  have sP : sml (xfl X4 481 (X4 457) 13 481) := sml_cg (fun j hj => (hrow j hj).symm) p2.1
  have e481 : ∀ a, a ≠ 481 → xfl X4 481 (X4 457) 13 a = X4 a := fun a ha => xfl_off _ _ _ ha
  iterate 2 refine mj_T.pl rfl rfl rfl rfl ?_
  refine mj_T.call rfl rfl (Nat.le_of_ble_eq_true rfl) (Nat.le_of_ble_eq_true rfl) (mV_of m6 19 cq_d1 (by decide) rfl (by decide) rfl _) rfl (mj_Ok.up (by omega) (mX_keep (D := 0) A m6 b2 (d4.of (fun a ka => e481 a (fun q => by have := cK_13 ka; omega))) (c4.sb (sBn.of e481)) kto sP)) (fun v g7 hq => ?_) (fun i g7 hq => by obtain ⟨_, _, hq⟩ := hq; cases hq)
  obtain ⟨_, cs, hq⟩ := hq
  cases hq
  exact mj_T.ret rfl rfl rfl (Or.inl ⟨kto, _, _, sP, ⟨hE1, P, p1, p2, hrow⟩, cs, rfl⟩)
end RMC
