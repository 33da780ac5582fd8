/-! The class: errors, append, clearText keep the registers. -/
theorem CR.of17 {X X1 : Nat → Nat → Int} {N : Nat → Int} {u : Nat} {H : Nat → Nat → Int} (h2 : X1 1 2 = X 1 2) (h3 : X1 1 3 = X 1 3) (h : ∀ c, (2 ≤ c ∧ c < 12) ∨ 483 ≤ c → X1 c = X c) (tl : TL X1) (c : CR X N u H) : CR X1 N u H := by
  obtain ⟨e, he, q3, q2, b, bh, _⟩ := c
  exact ⟨e, he, h3.trans q3, h2.trans q2, b.cg (fun c c1 c2 => h c (by omega)), fun k hk => (bh k hk).cg (fun c c1 c2 => h c (by omega)), tl⟩
section MAD
variable {g h : mj_H} {n D a b : Nat} {V : Nat → Int} {X : Nat → Nat → Int}
theorem mD_addsDegrees (m : jM g n V X h) (ka : cK a = 2) (kb : cK b = 2) (hb_a : sml (X a)) (hb_b : sml (X b)) : mj_Ok (D + 4) 15 [.ref 19, .ref a, .ref b] h (fun z => ∃ (V2 : Nat → Int) (X2 : Nat → Nat → Int) (h2 : mj_H) (y : Int), jM g n V2 X2 h2 ∧ dF V V2 ∧ xF (fun _ => False) X X2 ∧ (y = 0 ∨ y = 1) ∧ z = (.inl (some (.int (jn y))), h2)) := by
  refine mj_Ok.of (M := mj_m15) rfl rfl rfl ?_
  refine mj_T.pl rfl rfl rfl rfl ?_
  refine mT_get m 11 cq_d19 (by decide) rfl rfl ?_
  refine mj_T.pl rfl rfl rfl rfl ?_
  refine jT.lc 1 rfl rfl ?_
  refine mj_T.call rfl rfl (Nat.le_of_ble_eq_true rfl) (Nat.le_of_ble_eq_true rfl) (mV_of m 13 cq_d20 (by decide) rfl (by decide) rfl _) rfl (mj_Ok.up (by omega) (mP_load1 (D := 0) m cq_d20 ka (by decide +kernel) (by exact hb_a) (fun i hi => by have := mK_z.2.2.2.2.1 i hi; omega))) (fun v g1 hq => ?_) (fun i g1 hq => ?_)
  rotate_left
  · obtain ⟨_, _, hq⟩ := hq; cases hq
  obtain ⟨_, m2, hq⟩ := hq
  cases hq
  refine mj_T.eq (pc2 := 9) (st2 := []) ?_ rfl rfl rfl rfl
  refine mj_T.pl rfl rfl rfl rfl ?_
  refine mT_get m2 11 cq_d19 (by decide) rfl rfl ?_
  refine mj_T.pl rfl rfl rfl rfl ?_
  refine jT.lc 1 rfl rfl ?_
  refine mj_T.call rfl rfl (Nat.le_of_ble_eq_true rfl) (Nat.le_of_ble_eq_true rfl) (mV_of m2 13 cq_d50 (by decide) rfl (by decide) rfl _) rfl (mj_Ok.up (by omega) (mP_load1 (D := 0) m2 cq_d50 kb (by decide +kernel) (by rw [show (xup X 20 2 ((fdg (X a) 13 : Int) - 1)) b = X b from (funext fun j => xup_ne _ _ (Or.inl (kR_ne kb).1))]; exact hb_b) (fun i hi => by have := mK_z.2.2.2.2.1 i hi; omega))) (fun v g3 hq => ?_) (fun i g3 hq => ?_)
  rotate_left
  · obtain ⟨_, _, hq⟩ := hq; cases hq
  obtain ⟨_, m4, hq⟩ := hq
  cases hq
  rw [show (xup X 20 2 ((fdg (X a) 13 : Int) - 1)) b = X b from (funext fun j => xup_ne _ _ (Or.inl (kR_ne kb).1))] at m4
  refine mj_T.eq (pc2 := 18) (st2 := []) ?_ rfl rfl rfl rfl
  iterate 2 refine mj_T.pl rfl rfl rfl rfl ?_
  refine mT_get m4 11 cq_d19 (by decide) rfl rfl ?_
  refine mj_T.pl rfl rfl rfl rfl ?_
  refine mT_get m4 11 cq_d19 (by decide) rfl rfl ?_
  refine mj_T.pl rfl rfl rfl rfl ?_
  refine mT_get m4 11 cq_d19 (by decide) rfl rfl ?_
  refine mj_T.call rfl rfl (Nat.le_of_ble_eq_true rfl) (Nat.le_of_ble_eq_true rfl) (mV_of m4 11 cq_d19 (by decide) rfl (by decide) rfl _) rfl (mD_times2 (D := D) m4 ka kb hb_a hb_b) (fun v g1 hq => ?_) (fun i g1 hq => ?_)
  rotate_left
  · obtain ⟨_, _, _, _, hq⟩ := hq; cases hq
  obtain ⟨z1, z2, _, m9, hq⟩ := hq
  cases hq
  have hd : dF V (pfl (scr (pfl (pfl V 20 (X a) 13) 50 (X b) 13) z1 z2) 110 (pz_mul (rw13 (X a)) (rw13 (X b))) 25) := (dF.pfl (by omega)).tr ((dF.pfl (by omega)).tr ((dF.scr _ z1 z2).tr (dF.pfl (by omega))))
  have hx : xF (fun _ => False) X (xup (xup (xup X 20 2 ((fdg (X a) 13 : Int) - 1)) 50 2 ((fdg (X b) 13 : Int) - 1)) 110 2 ((fdg (pz_mul (rw13 (X a)) (rw13 (X b))) 25 : Int) - 1)) := (xF.deg (by omega)).tr ((xF.deg (by omega)).tr (xF.deg (by omega)))
  have la := fdg_le (X a) 13
  have lb := fdg_le (X b) 13
  have lp := fdg_le (pz_mul (rw13 (X a)) (rw13 (X b))) 25
  generalize hXX : (xup (xup (xup X 20 2 ((fdg (X a) 13 : Int) - 1)) 50 2 ((fdg (X b) 13 : Int) - 1)) 110 2 ((fdg (pz_mul (rw13 (X a)) (rw13 (X b))) 25 : Int) - 1)) = X9 at m9 hx
  have v20 : X9 20 2 = (fdg (X a) 13 : Int) - 1 := by rw [← hXX, xup_ne _ _ (Or.inl (by decide)), xup_ne _ _ (Or.inl (by decide)), xup_at]
  have v50 : X9 50 2 = (fdg (X b) 13 : Int) - 1 := by rw [← hXX, xup_ne _ _ (Or.inl (by decide)), xup_at]
  have v110 : X9 110 2 = (fdg (pz_mul (rw13 (X a)) (rw13 (X b))) 25 : Int) - 1 := by rw [← hXX, xup_at]
  clear hXX
  refine mj_T.eq (pc2 := 34) (st2 := [.int (jn 1)]) ?_ rfl rfl rfl rfl
  have t74 : ∀ z : Int, -2 ≤ z ∧ z ≤ 24 → mj_T (D + 3) mj_m15 74 [some (.ref 19), some (.ref a), some (.ref b), none] [.int (jn z)] g1 (fun z => ∃ (V2 : Nat → Int) (X2 : Nat → Nat → Int) (h2 : mj_H) (y : Int), jM g n V2 X2 h2 ∧ dF V V2 ∧ xF (fun _ => False) X X2 ∧ (y = 0 ∨ y = 1) ∧ z = (.inl (some (.int (jn y))), h2)) := fun z hz => by
    refine mj_T.pl (loc' := [some (.ref 19), some (.ref a), some (.ref b), some (.int (jn z))]) rfl rfl rfl rfl ?_
    refine mj_T.pl rfl rfl rfl rfl ?_
    refine mT_get m9 11 cq_d19 (by decide) rfl rfl ?_
    refine mT_get (v := .int (jn ((fdg (pz_mul (rw13 (X a)) (rw13 (X b))) 25 : Int) - 1))) m9 13 cq_d110 (by decide) rfl (congrArg (fun z : Int => some (Value.int (jn z))) v110) ?_
    refine mj_T.pl rfl rfl rfl rfl ?_
    refine mj_T.icmp (a := ((fdg (pz_mul (rw13 (X a)) (rw13 (X b))) 25 : Int) - 1)) (b := z) rfl ⟨by omega, by omega⟩ ⟨by omega, by omega⟩ (fun _ => ?_) (fun _ => ?_)
    · refine mj_T.pl rfl rfl rfl rfl ?_
      exact mj_T.ret rfl rfl rfl ⟨_, _, _, 0, m9, hd, hx, Or.inl rfl, rfl⟩
    · iterate 2 refine mj_T.pl rfl rfl rfl rfl ?_
      exact mj_T.ret rfl rfl rfl ⟨_, _, _, 1, m9, hd, hx, Or.inr rfl, rfl⟩
  have t55 : mj_T (D + 3) mj_m15 55 [some (.ref 19), some (.ref a), some (.ref b), none] [] g1 (fun z => ∃ (V2 : Nat → Int) (X2 : Nat → Nat → Int) (h2 : mj_H) (y : Int), jM g n V2 X2 h2 ∧ dF V V2 ∧ xF (fun _ => False) X X2 ∧ (y = 0 ∨ y = 1) ∧ z = (.inl (some (.int (jn y))), h2)) := by
    iterate 2 refine mj_T.pl rfl rfl rfl rfl ?_
    exact t74 (-1) ⟨by decide, by decide⟩
  iterate 2 refine mj_T.pl rfl rfl rfl rfl ?_
  refine mT_get m9 11 cq_d19 (by decide) rfl rfl ?_
  refine mT_get (v := .int (jn ((fdg (X a) 13 : Int) - 1))) m9 13 cq_d20 (by decide) rfl (congrArg (fun z : Int => some (Value.int (jn z))) v20) ?_
  refine mj_T.if0 (a := (fdg (X a) 13 : Int) - 1) rfl ⟨by omega, by omega⟩ (fun _ => t55) (fun _ => ?_)
  refine mj_T.pl rfl rfl rfl rfl ?_
  refine mT_get m9 11 cq_d19 (by decide) rfl rfl ?_
  refine mT_get (v := .int (jn ((fdg (X b) 13 : Int) - 1))) m9 13 cq_d50 (by decide) rfl (congrArg (fun z : Int => some (Value.int (jn z))) v50) ?_
  refine mj_T.if0 (a := (fdg (X b) 13 : Int) - 1) rfl ⟨by omega, by omega⟩ (fun _ => ?_) (fun _ => t55)
  refine mj_T.pl rfl rfl rfl rfl ?_
  refine mT_get m9 11 cq_d19 (by decide) rfl rfl ?_
  refine mT_get (v := .int (jn ((fdg (X a) 13 : Int) - 1))) m9 13 cq_d20 (by decide) rfl (congrArg (fun z : Int => some (Value.int (jn z))) v20) ?_
  refine mj_T.pl rfl rfl rfl rfl ?_
  refine mT_get m9 11 cq_d19 (by decide) rfl rfl ?_
  refine mT_get (v := .int (jn ((fdg (X b) 13 : Int) - 1))) m9 13 cq_d50 (by decide) rfl (congrArg (fun z : Int => some (Value.int (jn z))) v50) ?_
  refine mj_T.iadd rfl ?_
  exact t74 _ ⟨by omega, by omega⟩
end MAD
/-- the reader begins -/
def rX1t (X : Nat → Nat → Int) (tx tm : Nat) : Nat → Nat → Int := fun a j => if a = 455 then (if j = 1 then (tx : Int) else if j = 2 then 0 else if j = 3 then -1 else if j = 4 then 0 else X 455 j) else if a = tx then (if j = 1 then (tm : Int) else X tx j) else X a j
theorem rX1t_o (X : Nat → Nat → Int) (tx tm : Nat) {a : Nat} (h1 : a ≠ 455) (h2 : a ≠ tx) : rX1t X tx tm a = X a := funext fun j => by
  unfold rX1t
  rw [if_neg h1, if_neg h2]
section RMAt
variable {D tm n tx : Nat} {T : Nat → Int} {g h h' : mj_H} {X Y : Nat → Nat → Int} {V : Nat → Int}
theorem rMt_start (m : jM g n V X h) (b0 : by0 V) (d : DG X) (h3 : tx = 13 ∨ tx = 15 ∨ tx = 17) (hB : jBt tx tm T h) : rMt g n tx (rX1t X tx tm) (fun _ => False) Y 0 0 (-1) (h.set 455 (.inr (4, RFt tx 0 (-1) 0))) ∧ bXt tx (rX1t X tx tm) tm T := by
  have hl := (List.getElem?_eq_some_iff.mp (m.O 14 cq_d455 (by decide))).1
  have k1 := (cq_tx h3).1
  have hm : jM g n V (rX1t X tx tm) (h.set 455 (.inr (4, RFt tx 0 (-1) 0))) := by
    refine m.up (fun x => x = 455 ∨ x = tx) (by rw [List.length_set]) (fun x hx => ?_) (fun p hp => List.getElem?_set_ne (fun e => hp (Or.inl e.symm))) (fun _ _ => rfl) (fun x hx => rX1t_o X tx tm (fun e => hx (Or.inl e)) (fun e => hx (Or.inr e))) (fun x hx => ?_) (fun x hx => ?_)
    · rcases hx with rfl | rfl
      · rw [cq_d455]
        decide
      · omega
    · have w := mK_w hx
      constructor
      · intro e
        rcases e with rfl | rfl
        · rw [cq_d455] at hx
          omega
        · omega
      · intro e
        rcases e with e | e
        · rw [e, cq_d455] at w
          omega
        · rw [e] at w
          omega
    · rcases hx with rfl | rfl
      · unfold jMk
        rw [cq_d455, if_neg (by decide), if_neg (by decide), if_neg (by decide), if_neg (by decide), if_neg (by decide), if_neg (by decide), if_neg (by decide), List.getElem?_set_self hl]
        rfl
      · have hne : (455 : Nat) ≠ x := by omega
        have ex : jMf (rX1t X x tm) (cK x) x = [.ref (x + 1), .int (jn (tm : Int))] := by
          have e9 : rX1t X x tm x 1 = (tm : Int) := by
            unfold rX1t
            rw [if_neg (by omega), if_pos rfl, if_pos rfl]
          rcases k1 with k1 | k1
          · rw [k1]
            show [Value.ref (x + 1), .int (jn (rX1t X x tm x 1))] = _
            rw [e9]
          · rw [k1]
            show [Value.ref (x + 1), .int (jn (rX1t X x tm x 1))] = _
            rw [e9]
        have ek : jkc (cK x) = 7 := by
          rcases k1 with k1 | k1 <;> rw [k1] <;> rfl
        unfold jMk
        rw [if_neg (by omega), if_neg (by omega), if_neg (by omega), if_neg (by omega), if_neg (by omega), if_neg (by omega), if_neg (by omega), List.getElem?_set_ne hne, hB.1, ex, ek]
  refine ⟨⟨V, _, hm, ⟨b0, d.of (fun p kp => rX1t_o X tx tm (fun e => ?_) (fun e => ?_)), sBn.rf _⟩, ⟨rfl, rfl, rfl, rfl⟩, fun c hc => hc.elim⟩, h3, ?_, ?_, fun j hj => ?_⟩
  · rw [e, cq_d455] at kp
    omega
  · rw [e] at kp
    omega
  · unfold rX1t
    rw [if_neg (by omega), if_pos rfl, if_pos rfl]
  · obtain ⟨L, f, l1, l2, f1, f2⟩ := hB.2
    have h1 := m.2.2 (tx + 1)
    rw [(cq_tx h3).2.1] at h1
    have h2 : h[tx + 1]? = some (.inl (2, cL (tx + 1), fun j => .int (jn (X (tx + 1) j)))) := h1
    rw [h2] at f1
    injection f1 with f1
    injection f1 with f1
    have := (Prod.mk.inj (Prod.mk.inj f1).2).1
    omega
  · have h1 := m.2.2 (tx + 1)
    rw [(cq_tx h3).2.1] at h1
    have h2 : h[tx + 1]? = some (.inl (2, cL (tx + 1), fun j => .int (jn (X (tx + 1) j)))) := h1
    obtain ⟨L, f, l1, l2, f1, f2⟩ := hB.2
    rw [h2] at f1
    injection f1 with f1
    injection f1 with f1
    have f3 := (Prod.mk.inj (Prod.mk.inj f1).2).2
    obtain ⟨x, x1, x2⟩ := f2 j hj
    rw [← f3] at x1
    have x3 : jn (X (tx + 1) j) = x := by
      injection x1
    rw [rX1t_o X tx tm (by omega) (by omega), x3]
    exact x2
theorem rt_accepts (m : jM g n V X h) (b0 : by0 V) (d : DG X) (h3 : tx = 13 ∨ tx = 15 ∨ tx = 17) (hB0 : jBt tx tm T h) (ht : tm ≤ 340) (hT : ∀ j : Nat, j < tm → 0 ≤ T j ∧ T j ≤ 255) : mj_Ok 40 46 [.ref 455, .ref tx] h (fun r => ∃ (p : Nat) (h2 : mj_H) (Y2 : Nat → Nat → Int) (t2 : Int) (Z2 : Nat → Prop), jr (rdErr T tm) ∧ rMt g n tx (rX1t X tx tm) Z2 Y2 t2 (p : Int) (rdErr T tm) h2 ∧ (rdErr T tm = -1 → Z2 457 ∧ U0 (rdV T tm) 0 t2 (Y2 457)) ∧ r = (.inl (some (.int (jn (if rdErr T tm = -1 then 1 else 0)))), h2)) := by
  have hc := m.O 14 cq_d455 (by decide)
  have hl := (List.getElem?_eq_some_iff.mp hc).1
  refine mj_Ok.of (M := mj_m46) (loc := [some (.ref 455), some (.ref tx)]) rfl rfl rfl ?_
  iterate 2 refine mj_T.pl rfl rfl rfl rfl ?_
  refine mj_T.pfl rfl hc (Nat.le_of_ble_eq_true rfl) rfl ?_
  iterate 2 refine mj_T.pl rfl rfl rfl rfl ?_
  refine mj_T.pfl rfl (List.getElem?_set_self hl) (Nat.le_of_ble_eq_true rfl) rfl ?_
  rw [List.set_set]
  iterate 2 refine mj_T.pl rfl rfl rfl rfl ?_
  refine mj_T.pfl rfl (List.getElem?_set_self hl) (Nat.le_of_ble_eq_true rfl) rfl ?_
  rw [List.set_set]
  iterate 2 refine mj_T.pl rfl rfl rfl rfl ?_
  refine mj_T.pfl rfl (List.getElem?_set_self hl) (Nat.le_of_ble_eq_true rfl) rfl ?_
  rw [List.set_set]
  obtain ⟨s1, hB⟩ := rMt_start (Y := fun _ _ => 0) m b0 d h3 hB0
  obtain ⟨h1, hh1⟩ : ∃ z, z = h.set 455 (.inr (4, RFt tx 0 (-1) 0)) := ⟨_, rfl⟩
  rw [← hh1] at s1
  refine mj_T.eq (h2 := h1) ?_ rfl rfl rfl (by rw [hh1]; rfl)
  obtain ⟨hre, hrb⟩ := rdR_eq T tm
  obtain ⟨res, hres⟩ : ∃ z, rdR T tm = z := ⟨_, rfl⟩
  rw [hres] at hre hrb
  have t55 : ∀ (x : Int) (p : Nat) (h2 : mj_H) (Y2 : Nat → Nat → Int) (t2 : Int) (Z2 : Nat → Prop), jr x → p ≤ tm → rdErr T tm = x → rMt g n tx (rX1t X tx tm) Z2 Y2 t2 (p : Int) x h2 → (x = -1 → Z2 457 ∧ U0 (rdV T tm) 0 t2 (Y2 457)) → mj_T 39 mj_m46 55 [some (.ref 455), some (.ref tx)] [] h2 (fun r => ∃ (p : Nat) (h2 : mj_H) (Y2 : Nat → Nat → Int) (t2 : Int) (Z2 : Nat → Prop), jr (rdErr T tm) ∧ rMt g n tx (rX1t X tx tm) Z2 Y2 t2 (p : Int) (rdErr T tm) h2 ∧ (rdErr T tm = -1 → Z2 457 ∧ U0 (rdV T tm) 0 t2 (Y2 457)) ∧ r = (.inl (some (.int (jn (if rdErr T tm = -1 then 1 else 0)))), h2)) := fun x p h2 Y2 t2 Z2 jx hp ex s2 hu => by
    rw [ex]
    refine mj_T.pl rfl rfl rfl rfl ?_
    refine rt_g s2 rfl rfl ?_
    refine mj_T.pl rfl rfl rfl rfl ?_
    refine mj_T.icmp (a := x) (b := -1) rfl jx ⟨by decide, by decide⟩ (fun c => ?_) (fun c => ?_)
    · simp only [jc, Bool.not_eq_true', decide_eq_false_iff_not] at c
      refine mj_T.pl rfl rfl rfl rfl ?_
      exact mj_T.ret rfl rfl rfl ⟨p, h2, Y2, t2, Z2, jx, s2, hu, by rw [if_neg c]⟩
    · simp only [jc, Bool.not_eq_false', decide_eq_true_eq] at c
      iterate 2 refine mj_T.pl rfl rfl rfl rfl ?_
      exact mj_T.ret rfl rfl rfl ⟨p, h2, Y2, t2, Z2, jx, s2, hu, by rw [if_pos c]⟩
  iterate 2 refine mj_T.pl rfl rfl rfl rfl ?_
  refine mj_T.eq (st2 := [.int (jn (8 - ((8 : Nat) : Int))), .ref 455]) ?_ rfl rfl rfl rfl
  refine mj_T.call rfl rfl (Nat.le_of_ble_eq_true rfl) (Nat.le_of_ble_eq_true rfl) (s1.rv (by decide) rfl _) rfl (mj_Ok.up (by decide) (rt_all hB ht hT 8 (by decide) (rdF tm) 0 h1 res (fun _ _ => 0) 0 (Or.inl rfl) (Nat.zero_le _) hre (s1.mono (fun c hc => by unfold zkS at hc; omega)))) (fun v h4 hq => ?_) (fun i h4 hq => by obtain ⟨⟨_, _, _, _, _, hq, _⟩, _⟩ := hq; cases hq)
  obtain ⟨⟨v2, c2, h5, Y4, t4, hq, hv, c3, c4⟩, hsk⟩ := hq
  cases hv
  cases hq
  refine mj_T.pl rfl rfl rfl rfl ?_
  rcases c4 with ⟨e1, e2, e3, s4, hU⟩ | ⟨e1, e2, s4⟩
  rotate_left
  · refine rt_g s4 rfl rfl ?_
    refine mj_T.pl rfl rfl rfl rfl ?_
    refine mj_T.icmp (a := (res.2 : Int)) (b := -1) rfl ⟨by omega, by omega⟩ ⟨by decide, by decide⟩ (fun _ => ?_) (fun c => ?_)
    · exact t55 _ c2 h4 _ _ _ ⟨by omega, by omega⟩ c3 (by unfold rdErr; rw [hres, e1]; rfl) s4 (fun q => by omega)
    · simp only [jc, Bool.not_eq_false', decide_eq_true_eq] at c
      omega
  have hb := s4.jBt hB
  have hsk2 := hsk e1
  refine rt_g s4 rfl rfl ?_
  refine mj_T.pl rfl rfl rfl rfl ?_
  refine mj_T.icmp (a := -1) (b := -1) rfl ⟨by decide, by decide⟩ ⟨by decide, by decide⟩ (fun c => absurd c (by decide)) (fun _ => ?_)
  refine mj_T.pl rfl rfl rfl rfl ?_
  refine rt_g s4 rfl rfl ?_
  refine mj_T.pl rfl rfl rfl rfl ?_
  refine rt_g s4 rfl rfl ?_
  refine mj_T.gfl rfl hb.1 rfl ?_
  refine mj_T.icmp (a := (c2 : Int)) (b := (tm : Int)) rfl ⟨by omega, by omega⟩ ⟨by omega, by omega⟩ (fun c => ?_) (fun c => ?_)
  · have c := of_decide_eq_true c
    refine t55 (-1) c2 h4 _ _ _ ⟨by decide, by decide⟩ c3 ?_ s4 (fun _ => ⟨Or.inl ⟨by decide, by decide⟩, hU.1⟩)
    unfold rdErr
    rw [hres, if_pos e1, if_pos (by rw [hsk2]; omega)]
  · have c := of_decide_eq_false c
    iterate 2 refine mj_T.pl rfl rfl rfl rfl ?_
    refine rt_g s4 rfl rfl ?_
    refine rt_p3 s4 rfl (fun h6 s6 => ?_)
    refine t55 (c2 : Int) c2 h6 _ _ _ ⟨by omega, by omega⟩ c3 ?_ s6 (fun q => by omega)
    unfold rdErr
    rw [hres, if_pos e1, if_neg (by rw [hsk2]; omega), hsk2, e2]
end RMAt
section MER
variable {g h : mj_H} {n u : Nat} {N : Nat → Int} {H : Nat → Nat → Int} {V : Nat → Int} {X : Nat → Nat → Int}
theorem i255 (x : Int32) : 0 ≤ (x &&& Int32.ofInt 255).toInt ∧ (x &&& Int32.ofInt 255).toInt ≤ 255 := by
  have h1 : (x &&& Int32.ofInt 255).toBitVec.toNat = x.toBitVec.toNat % 256 := by
    rw [Int32.toBitVec_and, BitVec.toNat_and, show (Int32.ofInt 255).toBitVec.toNat = 2 ^ 8 - 1 from by decide, Nat.and_two_pow_sub_one_eq_mod]
  have h2 : (x &&& Int32.ofInt 255).toInt = ((x &&& Int32.ofInt 255).toBitVec.toNat : Int) := by
    show (x &&& Int32.ofInt 255).toBitVec.toInt = _
    rw [BitVec.toInt_eq_toNat_cond, if_pos (by rw [h1]; omega)]
  rw [h2, h1]
  omega
/-- a text of which only the length is known -/
theorem jM.text {t : Nat} (m : jM g n V X h) (ht : t = 15 ∨ t = 17) (hx : 0 ≤ X t 1 ∧ X t 1 ≤ 340) : jBt t (X t 1).toNat (fun j => (jn (X (t + 1) j) &&& Int32.ofInt 255).toInt) h := by
  have kt : cK t = 17 := by
    rcases ht with rfl | rfl
    · exact cq_t.1.1
    · exact cq_t.2.1
  have kc : cK (t + 1) = 3 ∧ cL (t + 1) = 340 := by
    rcases ht with rfl | rfl
    · exact ⟨cq_t.1.2.1, cq_t.1.2.2.2.1⟩
    · exact ⟨cq_t.2.2.1, cq_t.2.2.2.2⟩
  refine ⟨?_, 340, fun j => .int (jn (X (t + 1) j)), by decide, by omega, ?_, fun j hj => ⟨_, rfl, ?_⟩⟩
  · have h1 := m.O 17 kt (by decide)
    rw [h1]
    show some (Sum.inr (7, [Value.ref (t + 1), .int (jn (X t 1))])) = _
    rw [Int.toNat_of_nonneg hx.1]
  · have h1 := m.2.2 (t + 1)
    rw [kc.1] at h1
    have h2 : h[t + 1]? = some (.inl (2, cL (t + 1), fun j => .int (jn (X (t + 1) j)))) := h1
    rw [kc.2] at h2
    exact h2
  · exact (jn_of _).symm
theorem mE_rows {i : Nat} {D pc r1 r2 r3 r4 r5 : Nat} {M : mj_M} {loc : mj_L} {st : List Value} {Q : mj_R → Prop} (m : jM g n V X h) (hi : i < 6) (hc : M.2.2.2.2.1 pc = some (.aaload, r1, r2, r3, r4, r5)) (k : mj_T D M (pc + 1) loc (.ref (4 + i) :: st) h Q) : mj_T D M pc loc (.int (jn (i : Int)) :: .ref 3 :: st) h Q := by
  have l2 := (mK_b cq_d2).2.1
  have l3 : cL 3 = 6 := l2
  refine mT_aald (i := (i : Int)) m 6 (mK_b cq_d2).1 (by decide) rfl hc (by omega) ⟨by omega, by omega⟩ ?_
  rw [Int.toNat_natCast]
  exact k
theorem mE_len {D pc r1 r2 r3 r4 r5 : Nat} {M : mj_M} {loc : mj_L} {st : List Value} {Q : mj_R → Prop} (m : jM g n V X h) (hc : M.2.2.2.2.1 pc = some (.arraylength, r1, r2, r3, r4, r5)) (k : mj_T D M (pc + 1) loc (.int (jn 6) :: st) h Q) : mj_T D M pc loc (.ref 3 :: st) h Q := by
  have l2 := (mK_b cq_d2).2.1
  refine mT_alen m 6 (mK_b cq_d2).1 (by decide) hc ?_
  have e : cL 3 = 6 := l2
  rw [e]
  exact k
theorem er_inner (A : AS N u H) {a : Nat} (ha : a < 6) {Q : mj_R → Prop} (hend : ∀ (w : Int) (l3 : Option Value) (h : mj_H), cS g n N u H h → mj_T 59 mj_m148 69 [some (.ref 1), some (.int (jn w)), some (.int (jn (a : Int))), l3] [] h Q) : ∀ (k b : Nat), b + k = 6 → ∀ (w : Int) (h : mj_H), cS g n N u H h → mj_T 59 mj_m148 20 [some (.ref 1), some (.int (jn w)), some (.int (jn (a : Int))), some (.int (jn (b : Int)))] [] h Q := by
  intro k
  induction k with
  | zero =>
    intro b hb w h s
    obtain ⟨V, X, m, b0, d, c⟩ := id s
    iterate 2 refine mj_T.pl rfl rfl rfl rfl ?_
    refine mT_get m 19 cq_d1 (by decide) rfl rfl ?_
    refine mT_get m 10 cq_d2 (by decide) rfl rfl ?_
    refine mE_len m rfl ?_
    refine mj_T.icmp (a := (b : Int)) (b := 6) rfl ⟨by omega, by omega⟩ ⟨by decide, by decide⟩ (fun _ => hend w _ h s) (fun q => ?_)
    simp only [jc, Bool.not_eq_true', Bool.not_eq_false', decide_eq_true_eq, decide_eq_false_iff_not] at q
    omega
  | succ k ih =>
    intro b hb w h s
    obtain ⟨V, X, m, b0, d, c⟩ := id s
    iterate 2 refine mj_T.pl rfl rfl rfl rfl ?_
    refine mT_get m 19 cq_d1 (by decide) rfl rfl ?_
    refine mT_get m 10 cq_d2 (by decide) rfl rfl ?_
    refine mE_len m rfl ?_
    refine mj_T.icmp (a := (b : Int)) (b := 6) rfl ⟨by omega, by omega⟩ ⟨by decide, by decide⟩ (fun q => ?_) (fun _ => ?_)
    · simp only [jc, Bool.not_eq_true', Bool.not_eq_false', decide_eq_true_eq, decide_eq_false_iff_not] at q
      omega
    refine mj_T.pl rfl rfl rfl rfl ?_
    refine mT_get m 19 cq_d1 (by decide) rfl rfl ?_
    refine mj_T.pl rfl rfl rfl rfl ?_
    refine mT_get m 19 cq_d1 (by decide) rfl rfl ?_
    refine mT_get m 10 cq_d2 (by decide) rfl rfl ?_
    refine mj_T.pl rfl rfl rfl rfl ?_
    refine mE_rows m ha rfl ?_
    refine mj_T.pl rfl rfl rfl rfl ?_
    refine mT_get m 19 cq_d1 (by decide) rfl rfl ?_
    refine mT_get m 10 cq_d2 (by decide) rfl rfl ?_
    refine mj_T.pl rfl rfl rfl rfl ?_
    refine mE_rows m (i := b) (by omega) rfl ?_
    have sa := c.sm A.1 (a := (a : Int)) ⟨by omega, by omega⟩
    have sb := c.sm A.1 (a := (b : Int)) ⟨by omega, by omega⟩
    rw [Int.toNat_natCast] at sa sb
    refine mj_T.call rfl rfl (Nat.le_of_ble_eq_true rfl) (Nat.le_of_ble_eq_true rfl) (mV_of m 11 cq_d19 (by decide) rfl (by decide) rfl _) rfl (mj_Ok.up (by decide) (mD_addsDegrees (D := 0) m (mK_rt a ha) (mK_rt b (by omega)) sa sb)) (fun v h1 hq => ?_) (fun i h1 hq => by obtain ⟨_, _, _, _, _, _, _, _, hq⟩ := hq; cases hq)
    obtain ⟨V2, X2, _, y, m2, df, xf, hy, hq⟩ := hq
    cases hq
    have xf2 := xf.mono (S' := fun x => x = 481) (fun a h => h.elim)
    have s1 : cS g n N u H h1 := ⟨V2, X2, m2, b0.dF df, d.xF xf2, c.sb (sBn.xF xf2)⟩
    refine mj_T.eq (pc2 := 57) (st2 := [.int (jn y)]) ?_ rfl rfl rfl rfl
    have t63 : ∀ w : Int, mj_T 59 mj_m148 63 [some (.ref 1), some (.int (jn w)), some (.int (jn (a : Int))), some (.int (jn (b : Int)))] [] h1 Q := fun w => by
      refine mj_T.iinc (a := (b : Int)) rfl rfl ?_
      refine mj_T.eq (loc2 := [some (.ref 1), some (.int (jn w)), some (.int (jn (a : Int))), some (.int (jn ((b + 1 : Nat) : Int)))]) ?_ rfl (by rw [show ((b + 1 : Nat) : Int) = (b : Int) + 1 by omega]; rfl) rfl rfl
      refine mj_T.pl rfl rfl rfl rfl ?_
      exact ih (b + 1) (by omega) w h1 s1
    refine mj_T.if0 (a := y) rfl ⟨by omega, by omega⟩ (fun _ => t63 w) (fun _ => ?_)
    refine mj_T.iinc (a := w) rfl rfl ?_
    exact t63 (w + 1)
theorem er_outer (A : AS N u H) {Q : mj_R → Prop} (hend : ∀ (w : Int) (l2 l3 : Option Value) (h : mj_H), cS g n N u H h → mj_T 59 mj_m148 75 [some (.ref 1), some (.int (jn w)), l2, l3] [] h Q) : ∀ (k a : Nat), a + k = 6 → ∀ (w : Int) (l3 : Option Value) (h : mj_H), cS g n N u H h → mj_T 59 mj_m148 4 [some (.ref 1), some (.int (jn w)), some (.int (jn (a : Int))), l3] [] h Q := by
  intro k
  induction k with
  | zero =>
    intro a ha w l3 h s
    obtain ⟨V, X, m, b0, d, c⟩ := id s
    iterate 2 refine mj_T.pl rfl rfl rfl rfl ?_
    refine mT_get m 19 cq_d1 (by decide) rfl rfl ?_
    refine mT_get m 10 cq_d2 (by decide) rfl rfl ?_
    refine mE_len m rfl ?_
    refine mj_T.icmp (a := (a : Int)) (b := 6) rfl ⟨by omega, by omega⟩ ⟨by decide, by decide⟩ (fun _ => hend w _ _ h s) (fun q => ?_)
    simp only [jc, Bool.not_eq_true', Bool.not_eq_false', decide_eq_true_eq, decide_eq_false_iff_not] at q
    omega
  | succ k ih =>
    intro a ha w l3 h s
    obtain ⟨V, X, m, b0, d, c⟩ := id s
    iterate 2 refine mj_T.pl rfl rfl rfl rfl ?_
    refine mT_get m 19 cq_d1 (by decide) rfl rfl ?_
    refine mT_get m 10 cq_d2 (by decide) rfl rfl ?_
    refine mE_len m rfl ?_
    refine mj_T.icmp (a := (a : Int)) (b := 6) rfl ⟨by omega, by omega⟩ ⟨by decide, by decide⟩ (fun q => ?_) (fun _ => ?_)
    · simp only [jc, Bool.not_eq_true', Bool.not_eq_false', decide_eq_true_eq, decide_eq_false_iff_not] at q
      omega
    iterate 2 refine mj_T.pl rfl rfl rfl rfl ?_
    refine mj_T.iadd (a := (a : Int)) (b := 1) rfl ?_
    rw [show (a : Int) + 1 = ((a + 1 : Nat) : Int) by omega]
    refine mj_T.pl (loc' := [some (.ref 1), some (.int (jn w)), some (.int (jn (a : Int))), some (.int (jn ((a + 1 : Nat) : Int)))]) rfl rfl rfl rfl ?_
    refine er_inner A (by omega) (fun w l3 h1 s1 => ?_) (5 - a) (a + 1) (by omega) w h s
    refine mj_T.iinc (a := (a : Int)) rfl rfl ?_
    refine mj_T.eq (loc2 := [some (.ref 1), some (.int (jn w)), some (.int (jn ((a + 1 : Nat) : Int))), l3]) ?_ rfl (by rw [show ((a + 1 : Nat) : Int) = (a : Int) + 1 by omega]; rfl) rfl rfl
    refine mj_T.pl rfl rfl rfl rfl ?_
    exact ih (a + 1) (by omega) w l3 h1 s1
theorem er_texts (A : AS N u H) : ∀ (k a : Nat), a + k = 6 → ∀ (w : Int) (l3 : Option Value) (h : mj_H), cS g n N u H h → mj_T 59 mj_m148 77 [some (.ref 1), some (.int (jn w)), some (.int (jn (a : Int))), l3] [] h (fun z => ∃ (w : Int) (h2 : mj_H), cS g n N u H h2 ∧ z = (.inl (some (.int (jn w))), h2)) := by
  intro k
  induction k with
  | zero =>
    intro a ha w l3 h s
    obtain ⟨V, X, m, b0, d, c⟩ := id s
    iterate 2 refine mj_T.pl rfl rfl rfl rfl ?_
    refine mT_get m 19 cq_d1 (by decide) rfl rfl ?_
    refine mT_get m 10 cq_d2 (by decide) rfl rfl ?_
    refine mE_len m rfl ?_
    refine mj_T.icmp (a := (a : Int)) (b := 6) rfl ⟨by omega, by omega⟩ ⟨by decide, by decide⟩ (fun _ => ?_) (fun q => ?_)
    · refine mj_T.pl rfl rfl rfl rfl ?_
      exact mj_T.ret rfl rfl rfl ⟨w, h, s, rfl⟩
    simp only [jc, Bool.not_eq_true', Bool.not_eq_false', decide_eq_true_eq, decide_eq_false_iff_not] at q
    omega
  | succ k ih =>
    intro a ha w l3 h s
    obtain ⟨V, X, m, b0, d, c, jx⟩ := s.nr A
    have jx : rjR X := jx
    iterate 2 refine mj_T.pl rfl rfl rfl rfl ?_
    refine mT_get m 19 cq_d1 (by decide) rfl rfl ?_
    refine mT_get m 10 cq_d2 (by decide) rfl rfl ?_
    refine mE_len m rfl ?_
    refine mj_T.icmp (a := (a : Int)) (b := 6) rfl ⟨by omega, by omega⟩ ⟨by decide, by decide⟩ (fun q => ?_) (fun _ => ?_)
    · simp only [jc, Bool.not_eq_true', Bool.not_eq_false', decide_eq_true_eq, decide_eq_false_iff_not] at q
      omega
    refine mj_T.pl rfl rfl rfl rfl ?_
    refine mT_get m 19 cq_d1 (by decide) rfl rfl ?_
    refine mj_T.pl rfl rfl rfl rfl ?_
    refine mT_get m 19 cq_d1 (by decide) rfl rfl ?_
    refine mT_get m 10 cq_d2 (by decide) rfl rfl ?_
    refine mj_T.pl rfl rfl rfl rfl ?_
    refine mE_rows m (i := a) (by omega) rfl ?_
    refine mj_T.call rfl rfl (Nat.le_of_ble_eq_true rfl) (Nat.le_of_ble_eq_true rfl) (mV_of m 17 cq_d17 (by decide) rfl (by decide) rfl _) rfl (mj_Ok.up (by decide) (mZ_82 (D := 0) m isT_17 (mK_rt a (by omega)) (jx _ (mK_rt a (by omega))))) (fun v h2 hq => ?_) (fun i h2 hq => by obtain ⟨_, _, _, _, _, hq⟩ := hq; cases hq)
    obtain ⟨X2, _, m2, x2, e2, hq⟩ := hq
    cases hq
    have c2 : CR X2 N u H := c.txt (fun c c1 c2 c3 c4 => e2 c c3 c4) ⟨by
      rw [e2 15 (by decide) (by decide)]
      exact c.tl.1, x2⟩
    have d2 : DG X2 := d.of (fun p kp => e2 p (by have := cK_13 kp; omega) (by have := cK_13 kp; omega))
    have hBt := m2.text (Or.inr rfl) x2
    refine mj_T.pl rfl rfl rfl rfl ?_
    refine mT_get m2 19 cq_d1 (by decide) rfl rfl ?_
    refine mj_T.pl rfl rfl rfl rfl ?_
    refine mT_get m2 19 cq_d1 (by decide) rfl rfl ?_
    refine mj_T.call rfl rfl (Nat.le_of_ble_eq_true rfl) (Nat.le_of_ble_eq_true rfl) (mV_of m2 14 cq_d455 (by decide) rfl (by decide) rfl _) rfl (mj_Ok.up (by decide) (rt_accepts m2 b0 d2 (Or.inr (Or.inr rfl)) hBt (by omega) (fun j _ => i255 _))) (fun v h3 hq => ?_) (fun i h3 hq => by obtain ⟨_, _, _, _, _, _, _, _, hq⟩ := hq; cases hq)
    obtain ⟨p, h3', Y3, t3, Z3, hjE, ⟨V3, X3, m3, ⟨b3, d3, sb3⟩, ⟨x1, x2', x3, x4⟩, yr⟩, hU, hq⟩ := hq
    have hh : h3 = h3' := congrArg Prod.snd hq
    subst hh
    have c1 : CR (rX1t X2 17 (X2 17 1).toNat) N u H := by
      have o : ∀ a, a ≠ 455 → a ≠ 17 → rX1t X2 17 (X2 17 1).toNat a = X2 a := fun a h1 h2 => rX1t_o X2 17 _ h1 h2
      refine CR.of17 (by rw [o 1 (by decide) (by decide)]) (by rw [o 1 (by decide) (by decide)]) (fun a ha => o a (by omega) (by omega)) ⟨by rw [o 15 (by decide) (by decide)]; exact c2.tl.1, ?_⟩ c2
      show 0 ≤ ((X2 17 1).toNat : Int) ∧ ((X2 17 1).toNat : Int) ≤ 340
      omega
    have c3 := c1.sb sb3
    have s3 : cS g n N u H h3 := ⟨V3, X3, m3, b3, d3, c3⟩
    obtain ⟨E, hE⟩ : ∃ E, rdErr (fun j => (jn (X2 (17 + 1) j) &&& Int32.ofInt 255).toInt) (X2 17 1).toNat = E := ⟨_, rfl⟩
    rw [hE] at hjE hU x3 hq
    have t154 : ∀ w : Int, mj_T 59 mj_m148 154 [some (.ref 1), some (.int (jn w)), some (.int (jn (a : Int))), l3] [] h3 (fun z => ∃ (w : Int) (h2 : mj_H), cS g n N u H h2 ∧ z = (.inl (some (.int (jn w))), h2)) := fun w => by
      refine mj_T.iinc (a := (a : Int)) rfl rfl ?_
      refine mj_T.eq (loc2 := [some (.ref 1), some (.int (jn w)), some (.int (jn ((a + 1 : Nat) : Int))), l3]) ?_ rfl (by rw [show ((a + 1 : Nat) : Int) = (a : Int) + 1 by omega]; rfl) rfl rfl
      refine mj_T.pl rfl rfl rfl rfl ?_
      exact ih (a + 1) (by omega) w l3 h3 s3
    have t151 : mj_T 59 mj_m148 151 [some (.ref 1), some (.int (jn w)), some (.int (jn (a : Int))), l3] [] h3 (fun z => ∃ (w : Int) (h2 : mj_H), cS g n N u H h2 ∧ z = (.inl (some (.int (jn w))), h2)) := by
      refine mj_T.iinc (a := w) rfl rfl ?_
      exact t154 (w + 1)
    by_cases hE1 : E = -1
    rotate_left
    · rw [if_neg hE1] at hq
      cases hq
      refine mj_T.if0 (a := 0) rfl ⟨by decide, by decide⟩ (fun _ => t151) (fun q => by simp [jc] at q)
    rw [if_pos hE1] at hq
    cases hq
    refine mj_T.if0 (a := 1) rfl ⟨by decide, by decide⟩ (fun q => by simp [jc] at q) (fun _ => ?_)
    obtain ⟨z457, hu⟩ := hU hE1
    have k457 := (yr 457 z457).2
    have ht3 := hu.t
    refine mj_T.pl rfl rfl rfl rfl ?_
    refine mT_get m3 19 cq_d1 (by decide) rfl rfl ?_
    refine mT_get (v := .int (jn t3)) m3 14 cq_d455 (by decide) rfl (by rw [← x4]; rfl) ?_
    refine mj_T.if0 (a := t3) rfl ⟨by omega, by omega⟩ (fun _ => t151) (fun _ => ?_)
    refine mj_T.pl rfl rfl rfl rfl ?_
    refine mT_get m3 19 cq_d1 (by decide) rfl rfl ?_
    have kans : mj_Ok 1 47 [.ref 455] h3 (fun z => z = (.inl (some (.ref 457)), h3)) := by
      refine mj_Ok.of (M := mj_m47) (loc := [some (.ref 455)]) rfl rfl rfl ?_
      refine mj_T.pl rfl rfl rfl rfl ?_
      refine mT_get m3 14 cq_d455 (by decide) rfl rfl ?_
      refine mj_T.pl rfl rfl rfl rfl ?_
      refine mT_aald (i := 0) m3 6 cq_456.1 (by decide) rfl rfl (by decide) ⟨by decide, by rw [cq_456.2.1]; decide⟩ ?_
      exact mj_T.ret rfl rfl rfl rfl
    refine mj_T.call rfl rfl (Nat.le_of_ble_eq_true rfl) (Nat.le_of_ble_eq_true rfl) (mV_of m3 14 cq_d455 (by decide) rfl (by decide) rfl _) rfl (mj_Ok.up (by decide) kans) (fun v h4 hq => ?_) (fun i h4 hq => by cases hq)
    cases hq
    refine mj_T.eq (pc2 := 136) (st2 := [.ref 457]) ?_ rfl rfl rfl rfl
    refine mj_T.pl rfl rfl rfl rfl ?_
    refine mT_get m3 19 cq_d1 (by decide) rfl rfl ?_
    refine mT_get m3 10 cq_d2 (by decide) rfl rfl ?_
    refine mj_T.pl rfl rfl rfl rfl ?_
    refine mE_rows m3 (i := a) (by omega) rfl ?_
    have sa := c3.sm A.1 (a := (a : Int)) ⟨by omega, by omega⟩
    rw [Int.toNat_natCast] at sa
    have s457 : sml (X3 457) := sml_cg (fun j hj => (k457.2 j hj).symm) k457.1
    refine mj_T.call rfl rfl (Nat.le_of_ble_eq_true rfl) (Nat.le_of_ble_eq_true rfl) rfl rfl (mj_Ok.up (by decide) (mS_same (D := 0) m3 (isRw.k (Or.inl ⟨by decide, by decide⟩)) (mK_rt a (by omega)) s457 sa)) (fun v h5 hq => ?_) (fun i h5 hq => by rcases hq with ⟨_, hq⟩ | ⟨_, hq⟩ <;> cases hq)
    rcases hq with ⟨_, hq⟩ | ⟨_, hq⟩
    · cases hq
      refine mj_T.eq (pc2 := 148) (st2 := [.int (jn 1)]) ?_ rfl rfl rfl rfl
      exact mj_T.if0 (a := 1) rfl ⟨by decide, by decide⟩ (fun _ => t154 w) (fun q => by simp [jc] at q)
    · cases hq
      refine mj_T.eq (pc2 := 148) (st2 := [.int (jn 0)]) ?_ rfl rfl rfl rfl
      exact mj_T.if0 (a := 0) rfl ⟨by decide, by decide⟩ (fun q => by simp [jc] at q) (fun _ => t151)
theorem pX_errors (A : AS N u H) (s : cS g n N u H h) : mj_Ok 60 148 [.ref 1] h (fun z => ∃ (w : Int) (h2 : mj_H), cS g n N u H h2 ∧ z = (.inl (some (.int (jn w))), h2)) := by
  refine mj_Ok.of (M := mj_m148) (loc := [some (.ref 1), none, none, none]) rfl rfl rfl ?_
  iterate 4 refine mj_T.pl rfl rfl rfl rfl ?_
  refine er_outer A (fun w l2 l3 h1 s1 => ?_) 6 0 (by decide) 0 none h s
  iterate 2 refine mj_T.pl rfl rfl rfl rfl ?_
  exact er_texts A 6 0 (by decide) w l3 h1 s1
/-- clearText -/
theorem pX_clearText (s : cS g n N u H h) : mj_Ok 1 142 [.ref 1] h (fun z => ∃ (w : Int) (h2 : mj_H), cS g n N u H h2 ∧ z = (.inl (some (.int (jn w))), h2)) := by
  obtain ⟨V, X, m, b0, d, c⟩ := s
  refine mj_Ok.of (M := mj_m142) (loc := [some (.ref 1), none]) rfl rfl rfl ?_
  refine mj_T.pl rfl rfl rfl rfl ?_
  refine mT_get m 19 cq_d1 (by decide) rfl rfl ?_
  refine mT_get (v := .int (jn (X 13 1))) m 27 cq_d13 (by decide) rfl rfl ?_
  iterate 2 refine mj_T.pl rfl rfl rfl rfl ?_
  refine mT_get m 19 cq_d1 (by decide) rfl rfl ?_
  refine mj_T.pl rfl rfl rfl rfl ?_
  refine mT_put (v := 0) m 27 cq_d13 (by decide) rfl (by simp [jMf, xup]) (by simp [jMf]) rfl (fun h3 m3 => ?_)
  refine mj_T.pl rfl rfl rfl rfl ?_
  have eo : ∀ a, a ≠ 13 → xup X 13 1 0 a = X a := fun a h2 => funext fun j => xup_ne _ _ (Or.inl h2)
  exact mj_T.ret rfl rfl rfl ⟨X 13 1, h3, ⟨V, _, m3, b0, d.of (fun a ka => eo a (fun q => by rw [q, cq_d13] at ka; omega)), CR.of (by rw [eo 1 (by decide)]) (by rw [eo 1 (by decide)]) (fun a ha => eo a (by omega)) c⟩, rfl⟩
end MER
section MAP
variable {D tm : Nat} {T : Nat → Int} {h : mj_H}
theorem rq_append2 {mf : List Value} {x1 x2 x3 x4 x5 : Int32} (hm : h[1]? = some (.inr (9, mf))) (hm4 : mf[4]? = some (.ref 13)) (b : jBuf tm T h) (ht : tm ≤ 200) : mj_Ok (D + 3) 141 [.ref 1, .int x1, .int x2, .int x3, .int x4, .int x5] h (fun r => (200 < tm + jcn x1 x2 x3 x4 x5 20 ∧ r.2 = h ++ [xE]) ∨ (tm + jcn x1 x2 x3 x4 x5 20 ≤ 200 ∧ jBuf (tm + jcn x1 x2 x3 x4 x5 20) (apT x1 x2 x3 x4 x5 tm T 20) r.2 ∧ jBf h r.2)) := by
  rw [jcn_20]
  have n1 := mq_nby_le x1
  have n2 := mq_nby_le x2
  have n3 := mq_nby_le x3
  have n4 := mq_nby_le x4
  have n5 := mq_nby_le x5
  refine mj_Ok.of (M := mj_m141) (loc := [some (.ref 1), some (.int x1), some (.int x2), some (.int x3), some (.int x4), some (.int x5), none]) rfl rfl rfl ?_
  refine mj_T.pl rfl rfl rfl rfl ?_
  refine mj_T.call rfl rfl (Nat.le_of_ble_eq_true rfl) (Nat.le_of_ble_eq_true rfl) rfl rfl (mj_Ok.up (by omega) (jb_in (D := D) (x := x1))) (fun v h' hq => ?_) (fun i h' hq => by cases hq)
  cases hq
  refine mj_T.pl rfl rfl rfl rfl ?_
  refine mj_T.call rfl rfl (Nat.le_of_ble_eq_true rfl) (Nat.le_of_ble_eq_true rfl) rfl rfl (mj_Ok.up (by omega) (jb_in (D := D) (x := x2))) (fun v h' hq => ?_) (fun i h' hq => by cases hq)
  cases hq
  refine mj_T.eq (st2 := [.int (jn (mq_nby x2 : Int)), .int (jn ((mq_nby x1 : Int) : Int))]) ?_ rfl rfl rfl rfl
  refine mj_T.iadd rfl ?_
  refine mj_T.pl rfl rfl rfl rfl ?_
  refine mj_T.call rfl rfl (Nat.le_of_ble_eq_true rfl) (Nat.le_of_ble_eq_true rfl) rfl rfl (mj_Ok.up (by omega) (jb_in (D := D) (x := x3))) (fun v h' hq => ?_) (fun i h' hq => by cases hq)
  cases hq
  refine mj_T.eq (st2 := [.int (jn (mq_nby x3 : Int)), .int (jn ((((mq_nby x1 : Int) : Int) + (mq_nby x2 : Int)) : Int))]) ?_ rfl rfl rfl rfl
  refine mj_T.iadd rfl ?_
  refine mj_T.pl rfl rfl rfl rfl ?_
  refine mj_T.call rfl rfl (Nat.le_of_ble_eq_true rfl) (Nat.le_of_ble_eq_true rfl) rfl rfl (mj_Ok.up (by omega) (jb_in (D := D) (x := x4))) (fun v h' hq => ?_) (fun i h' hq => by cases hq)
  cases hq
  refine mj_T.eq (st2 := [.int (jn (mq_nby x4 : Int)), .int (jn ((((((mq_nby x1 : Int) : Int) + (mq_nby x2 : Int)) : Int) + (mq_nby x3 : Int)) : Int))]) ?_ rfl rfl rfl rfl
  refine mj_T.iadd rfl ?_
  refine mj_T.pl rfl rfl rfl rfl ?_
  refine mj_T.call rfl rfl (Nat.le_of_ble_eq_true rfl) (Nat.le_of_ble_eq_true rfl) rfl rfl (mj_Ok.up (by omega) (jb_in (D := D) (x := x5))) (fun v h' hq => ?_) (fun i h' hq => by cases hq)
  cases hq
  refine mj_T.eq (st2 := [.int (jn (mq_nby x5 : Int)), .int (jn ((((((((mq_nby x1 : Int) : Int) + (mq_nby x2 : Int)) : Int) + (mq_nby x3 : Int)) : Int) + (mq_nby x4 : Int)) : Int))]) ?_ rfl rfl rfl rfl
  refine mj_T.iadd rfl ?_
  have ea : (((((((((mq_nby x1 : Int) : Int) + (mq_nby x2 : Int)) : Int) + (mq_nby x3 : Int)) : Int) + (mq_nby x4 : Int)) : Int) + (mq_nby x5 : Int)) = ((mq_nby x1 + mq_nby x2 + mq_nby x3 + mq_nby x4 + mq_nby x5 : Nat) : Int) := by omega
  rw [ea]
  have pall := pb_all x1 x2 x3 x4 x5 tm T
  rw [jcn_20] at pall
  generalize eN : mq_nby x1 + mq_nby x2 + mq_nby x3 + mq_nby x4 + mq_nby x5 = N at pall
  refine mj_T.pl (loc' := [some (.ref 1), some (.int x1), some (.int x2), some (.int x3), some (.int x4), some (.int x5), some (.int (jn (N : Int)))]) rfl rfl rfl rfl ?_
  refine mj_T.pl rfl rfl rfl rfl ?_
  refine mj_T.gfl rfl hm hm4 ?_
  refine mj_T.gfl rfl b.1 rfl ?_
  refine mj_T.pl rfl rfl rfl rfl ?_
  refine mj_T.iadd rfl ?_
  refine mj_T.pl rfl rfl rfl rfl ?_
  refine mj_T.icmp (a := (tm : Int) + (N : Int)) (b := 200) rfl ⟨by omega, by omega⟩ ⟨by decide, by decide⟩ (fun c => ?_) (fun c => ?_)
  rotate_left
  · have c := of_decide_eq_false c
    exact mj_T.throws rfl rfl rfl (Nat.le_of_ble_eq_true rfl) (Or.inl ⟨by omega, rfl⟩)
  have c := of_decide_eq_true c
  have hp : ((pb4 x5 (pb4 x4 (pb4 x3 (pb4 x2 (pb4 x1 (tm, T)))))) ).1 ≤ 200 := by rw [pall]; show tm + N ≤ 200; omega
  have p4 := Nat.le_trans (pb4_le x5 _) hp
  have p3 := Nat.le_trans (pb4_le x4 _) p4
  have p2 := Nat.le_trans (pb4_le x3 _) p3
  have p1 := Nat.le_trans (pb4_le x2 _) p2
  have mm : ∀ {g : mj_H}, jBf h g → g[1]? = some (.inr (9, mf)) := fun f => by rw [f.2 1 (by decide) (by decide)]; exact hm
  refine mj_T.pl rfl rfl rfl rfl ?_
  refine mj_T.gfl rfl hm hm4 ?_
  refine mj_T.pl rfl rfl rfl rfl ?_
  refine mj_T.call rfl rfl (Nat.le_of_ble_eq_true rfl) (Nat.le_of_ble_eq_true rfl) (by simp [mj_recv, b.1]) rfl (rq_putBytes (D := D) (x := x1) (p := (tm, T)) b p1) (fun v h' hq => ?_) (fun i h' hq => by obtain ⟨_, hq, _⟩ := hq; cases hq)
  obtain ⟨h1, hq, o1, f1⟩ := hq
  cases hq
  refine mj_T.pl rfl rfl rfl rfl ?_
  refine mj_T.gfl rfl (mm f1) hm4 ?_
  refine mj_T.pl rfl rfl rfl rfl ?_
  refine mj_T.call rfl rfl (Nat.le_of_ble_eq_true rfl) (Nat.le_of_ble_eq_true rfl) (by simp [mj_recv, o1.1]) rfl (rq_putBytes (D := D) (x := x2) o1 p2) (fun v h' hq => ?_) (fun i h' hq => by obtain ⟨_, hq, _⟩ := hq; cases hq)
  obtain ⟨h2, hq, o2, f2⟩ := hq
  cases hq
  refine mj_T.pl rfl rfl rfl rfl ?_
  refine mj_T.gfl rfl (mm (f1.tr f2)) hm4 ?_
  refine mj_T.pl rfl rfl rfl rfl ?_
  refine mj_T.call rfl rfl (Nat.le_of_ble_eq_true rfl) (Nat.le_of_ble_eq_true rfl) (by simp [mj_recv, o2.1]) rfl (rq_putBytes (D := D) (x := x3) o2 p3) (fun v h' hq => ?_) (fun i h' hq => by obtain ⟨_, hq, _⟩ := hq; cases hq)
  obtain ⟨h3, hq, o3, f3⟩ := hq
  cases hq
  refine mj_T.pl rfl rfl rfl rfl ?_
  refine mj_T.gfl rfl (mm ((f1.tr f2).tr f3)) hm4 ?_
  refine mj_T.pl rfl rfl rfl rfl ?_
  refine mj_T.call rfl rfl (Nat.le_of_ble_eq_true rfl) (Nat.le_of_ble_eq_true rfl) (by simp [mj_recv, o3.1]) rfl (rq_putBytes (D := D) (x := x4) o3 p4) (fun v h' hq => ?_) (fun i h' hq => by obtain ⟨_, hq, _⟩ := hq; cases hq)
  obtain ⟨h4, hq, o4, f4⟩ := hq
  cases hq
  refine mj_T.pl rfl rfl rfl rfl ?_
  refine mj_T.gfl rfl (mm (((f1.tr f2).tr f3).tr f4)) hm4 ?_
  refine mj_T.pl rfl rfl rfl rfl ?_
  refine mj_T.call rfl rfl (Nat.le_of_ble_eq_true rfl) (Nat.le_of_ble_eq_true rfl) (by simp [mj_recv, o4.1]) rfl (rq_putBytes (D := D) (x := x5) o4 hp) (fun v h' hq => ?_) (fun i h' hq => by obtain ⟨_, hq, _⟩ := hq; cases hq)
  obtain ⟨h5, hq, o5, f5⟩ := hq
  cases hq
  have f6 := (((f1.tr f2).tr f3).tr f4).tr f5
  refine mj_T.pl rfl rfl rfl rfl ?_
  refine mj_T.gfl rfl (mm f6) hm4 ?_
  refine mj_T.gfl rfl o5.1 rfl ?_
  refine mj_T.ret rfl rfl rfl (Or.inr ⟨by omega, ?_, f6⟩)
  rw [pall] at o5
  exact o5
end MAP
section MAQ
variable {h h' : mj_H} {n u : Nat} {N : Nat → Int} {H : Nat → Nat → Int}
/-- only the buffer is another -/
theorem cC.buf {x : Int} {f : Nat → Value} (s : cC N u H h) (hf : ∀ a : Nat, a ≠ 13 → a ≠ 14 → h'[a]? = h[a]?) (h13 : h'[13]? = some (.inr (7, [.ref 14, .int (jn x)]))) (h14 : h'[14]? = some (.inl (2, 200, f))) (hi : ∀ i, ∃ y : Int, f i = .int (jn y)) : cC N u H h' := by
  obtain ⟨V, X, m, b0, d, c⟩ := s
  have fv : ∀ j, f j = .int (jn (hi j).choose) := fun j => (hi j).choose_spec
  let X2 : Nat → Nat → Int := fun a j => if a = 13 then x else if a = 14 then (hi j).choose else X a j
  have eo : ∀ a, a ≠ 13 → a ≠ 14 → X2 a = X a := fun a h1 h2 => funext fun j => by
    show (if a = 13 then x else if a = 14 then (hi j).choose else X a j) = X a j
    rw [if_neg h1, if_neg h2]
  refine ⟨V, X2, ⟨rfl, fun a ha => ⟨fun _ => rfl, fun h1 h2 => absurd h1 (by omega)⟩, fun a => ?_⟩, b0, d.of (fun p kp => eo p (fun q => by rw [q, cq_d13] at kp; omega) (fun q => by rw [q, cq_456.2.2.2.2.2.2.2.2] at kp; omega)), CR.of (by rw [eo 1 (by decide) (by decide)]) (by rw [eo 1 (by decide) (by decide)]) (fun a ha => eo a (by omega) (by omega)) c⟩
  by_cases c1 : a = 13
  · subst c1
    unfold jMk
    rw [cq_d13, if_neg (by decide), if_neg (by decide), if_neg (by decide), if_neg (by decide), if_neg (by decide), if_neg (by decide), if_neg (by decide), h13]
    rfl
  by_cases c2 : a = 14
  · subst c2
    unfold jMk
    rw [cq_456.2.2.2.2.2.2.2.2, if_neg (by decide), if_neg (by decide), if_neg (by decide), if_neg (by decide), if_neg (by decide), if_pos rfl, h14, cq_456.2.2.2.2.2.2.1]
    refine congrArg (fun z : Nat → Value => (some (.inl (2, 200, z)) : Option mj_E)) (funext fun j => ?_)
    rw [fv j]
    show _ = Value.int (jn (if (14 : Nat) = 13 then x else if (14 : Nat) = 14 then (hi j).choose else X 14 j))
    rw [if_neg (by decide), if_pos rfl]
  · have m1 := m.2.2 a
    have e1 := hf a c1 c2
    have k13 := cq_d13
    have k14 := cq_456.2.2.2.2.2.2.2.2
    unfold jMk at m1 ⊢
    by_cases k0 : cK a = 0
    · rw [if_pos k0]
      trivial
    rw [if_neg k0] at m1 ⊢
    by_cases k18 : cK a = 18
    · rw [if_pos k18] at m1 ⊢
      have w := (mK_w (Or.inl k18)).1
      have e2 := hf (a + 1) (fun q => by rw [q] at w; omega) (fun q => by rw [q] at w; omega)
      unfold wX wT wW at m1 ⊢
      rw [e1, e2]
      exact m1
    rw [if_neg k18] at m1 ⊢
    by_cases k12 : cK a = 12
    · rw [if_pos k12] at m1 ⊢
      have w := (mK_w (Or.inr k12)).1
      have e2 := hf (a + 1) (fun q => by rw [q] at w; omega) (fun q => by rw [q] at w; omega)
      unfold dX dT wD at m1 ⊢
      rw [e1, e2]
      exact m1
    rw [if_neg k12] at m1 ⊢
    have ef : ∀ k, jMf X2 k a = jMf X k a := fun k => by
      unfold jMf
      rw [eo a c1 c2]
    rw [e1, eo a c1 c2, ef]
    exact m1
theorem jO.ints {g : mj_H} {tm : Int} {f : Nat → Value} {L : Nat} (o : jO cK cL cR g n tm h) (h14 : h[14]? = some (.inl (2, L, f))) : ∀ i, ∃ y : Int, f i = .int (jn y) := by
  obtain ⟨e, e1, e2⟩ := o.2.2.2 14 (by rw [cq_456.2.2.2.2.2.2.2.2]; decide)
  rw [h14] at e1
  cases e1
  rw [cq_456.2.2.2.2.2.2.2.2] at e2
  unfold jCf at e2
  rw [if_pos (by decide)] at e2
  obtain ⟨f2, q, hb⟩ := e2
  injection q with q
  have q3 := (Prod.mk.inj (Prod.mk.inj q).2).2
  intro i
  have y := hb i
  rw [if_pos (Or.inr rfl)] at y
  obtain ⟨x, _, y2⟩ := y
  rw [q3]
  exact ⟨x, y2⟩
theorem cz_141 {g : mj_H} {tm : Nat} {T : Nat → Int} {x1 x2 x3 x4 x5 : Int32} (s : cC N u H h) (o : jO cK cL cR g n (tm : Int) h) (hg : g.length ≤ n) (b : jBuf tm T h) (ht : tm ≤ 200) : mj_Ok 59 141 [.ref 1, .int x1, .int x2, .int x3, .int x4, .int x5] h (fun r => yZ (sameQ N u H) r.2) := by
  obtain ⟨mf, m1, m2, m4, _⟩ := o.main
  refine (((mj_Ok.up (by decide) (jc_141 (D := 0) cTY hg o ck0.2)).and (mj_Ok.up (by decide) (rq_append2 (D := 0) m1 m4 b ht)))).to (fun r hr => ?_)
  obtain ⟨a1, a2⟩ := hr
  rcases a2 with ⟨_, e⟩ | ⟨hl, b2, f2⟩
  · refine ⟨N, u, H, ⟨rfl, rfl, rfl⟩, ?_⟩
    rw [e]
    obtain ⟨V, X, m, b0, d, c⟩ := s
    exact (cS.thr (Nat.le_refl _) m b0 d c).cC
  · rcases a1 with ⟨a1, _⟩ | ⟨_, _, o2⟩
    · omega
    · obtain ⟨b13, f, b14, _⟩ := b2
      exact ⟨N, u, H, ⟨rfl, rfl, rfl⟩, s.buf f2.2 b13 b14 (o2.ints b14)⟩
end MAQ
