/-! The row of Sturm of the class: goOn. -/
/-- degrees in their range -/
def DG (X : Nat → Nat → Int) : Prop := ∀ p, cK p = 13 → -1 ≤ X p 2 ∧ X p 2 < cL (p + 3)
/-- only degrees, the row's length and the roots' fields have changed -/
def FX (X X1 : Nat → Nat → Int) : Prop := ∀ a, cK a ≠ 13 → cK a ≠ 15 → cK a ≠ 16 → (a < 180 ∨ 444 ≤ a) → X1 a = X a
theorem FX.rf (X : Nat → Nat → Int) : FX X X := fun _ _ _ _ _ => rfl
theorem FX.tr {X X1 X2 : Nat → Nat → Int} (h : FX X X1) (k : FX X1 X2) : FX X X2 := fun a a1 a2 a3 a4 => (k a a1 a2 a3 a4).trans (h a a1 a2 a3 a4)
theorem FX.up {X : Nat → Nat → Int} {a i : Nat} {v : Int} (h : cK a = 13 ∨ cK a = 15 ∨ cK a = 16) : FX X (xup X a i v) := fun b b1 b2 b3 _ => funext fun j => xup_ne _ _ (Or.inl (fun e => by subst e; omega))
theorem DG.deg {X : Nat → Nat → Int} (h : DG X) {p : Nat} {d : Int} (hd : -1 ≤ d ∧ d < cL (p + 3)) : DG (xup X p 2 d) := fun q kq => by
  by_cases c : q = p
  · subst c
    rw [xup_at]
    exact hd
  · rw [xup_ne _ _ (Or.inl c)]
    exact h q kq
theorem DG.oth {X : Nat → Nat → Int} (h : DG X) {a i : Nat} {v : Int} (ka : cK a ≠ 13) : DG (xup X a i v) := fun q kq => by
  have ne : q ≠ a := fun e => ka (by rw [← e]; exact kq)
  rw [xup_ne _ _ (Or.inl ne)]
  exact h q kq
theorem sro_k {t : Nat} (h : t < 14) : cK (sro t) = 13 ∧ cL (sro t + 3) = if t < 2 then 13 else 14 - t := mK_r.2.2.2.2.2.1 t h
theorem sro_1 : ((List.range 14).all fun i => decide (180 ≤ sro i) && decide (i < 2 || decide (240 ≤ sro i)) && (List.range 14).all fun j => (decide (i = j) || decide (sro i ≠ sro j)) && (decide (j < 2) || decide (sro i + 1 < sro j + 4) || decide (sro j + 4 + 2 * (14 - j) ≤ sro i + 1))) = true := by decide +kernel
theorem sro_2 {i : Nat} (hi : i < 14) : 180 ≤ sro i ∧ (2 ≤ i → 240 ≤ sro i) ∧ ∀ j, j < 14 → (i ≠ j → sro i ≠ sro j) ∧ (2 ≤ j → sro i + 1 < sro j + 4 ∨ sro j + 4 + 2 * (14 - j) ≤ sro i + 1) := by
  have h := jall sro_1 hi
  simp only [Bool.and_eq_true, Bool.or_eq_true, decide_eq_true_eq] at h
  refine ⟨h.1.1, fun q => ?_, fun j hj => ?_⟩
  · rcases h.1.2 with a | a
    · omega
    · exact a
  · have k := jall h.2 hj
    simp only [Bool.and_eq_true, Bool.or_eq_true, decide_eq_true_eq] at k
    refine ⟨fun q => ?_, fun q => ?_⟩
    · rcases k.1 with a | a
      · exact absurd a q
      · exact a
    · rcases k.2 with (a | a) | a
      · omega
      · exact Or.inl a
      · exact Or.inr a
theorem RB.y60 {A B X Y : pz_P} {m n dx dy : Nat} {la ps : Int} (r : RB A B m n X Y dx dy la ps) (e : Nat) : jnl (Y e).natAbs ≤ 60 := by
  have h4 := r.1.2.2.2.1
  by_cases c : 1 ≤ dx
  · exact jnl_le_lt.mpr (Nat.lt_of_le_of_lt (Nat.le_trans (r.2.2.2.1 e) (bdf_mono (by omega))) size_3)
  · refine jnl_le_lt.mpr (Nat.lt_of_le_of_lt (Nat.le_trans (r.2.2.2.2.1 (by omega) e) ?_) size_3)
    rw [← bdf_one]
    exact bdf_mono (by decide)
/-- what stays while the row is made -/
def GFr (V : Nat → Int) (X : Nat → Nat → Int) (V1 : Nat → Int) (X1 : Nat → Nat → Int) : Prop := (∀ x, (x < 84 ∨ 110 ≤ x) → x ≠ 164 → x ≠ 166 → x ≠ 170 → x ≠ 174 → x ≠ 176 → (x < 240 ∨ 444 ≤ x) → V1 x = V x) ∧ (∀ a, a ≠ 80 → a ≠ 172 → (a < 240 ∨ 444 ≤ a) → X1 a = X a)
/-- the last one of a row -/
def GEnd (A B : pz_P) (V2 : Nat → Int) (X2 : Nat → Nat → Int) : Prop := ∃ (k dz : Nat), k < 14 ∧ X2 172 2 = ((k + 1 : Nat) : Int) ∧ X2 (sro k) 2 = (dz : Int) ∧ dz < cL (sro k + 3) ∧ pcs V2 (sro k) dz ≠ 0 ∧ (∀ e : Nat, dz < e → pcs V2 (sro k) e = 0) ∧ (∀ e : Nat, jnl (pcs V2 (sro k) e).natAbs ≤ 60) ∧ ∀ G, (qdv G A ∧ qdv G B) ↔ qdv G (pcs V2 (sro k))
section MGO
variable {g h : mj_H} {n D : Nat} {V : Nat → Int} {X : Nat → Nat → Int}
theorem mR_go_loop {A B : pz_P} {ma na : Nat} (hm : ma ≤ 12) (hn : na ≤ 12) (bA : ∀ e, (A e).natAbs ≤ bM) (bB : ∀ e, (B e).natAbs ≤ bM) : ∀ u t, t + u = 12 → ∀ (V1 : Nat → Int) (X1 : Nat → Nat → Int) (h1 : mj_H) (dx dy : Nat), jM g n V1 X1 h1 → RB A B ma na (pcs V1 (sro t)) (pcs V1 (sro (t + 1))) dx dy (V1 174) (V1 176) → CD A B (pcs V1 (sro t)) (pcs V1 (sro (t + 1))) → X1 (sro t) 2 = (dx : Int) → X1 (sro (t + 1)) 2 = (dy : Int) → dy + t ≤ 12 → X1 172 2 = ((t + 2 : Nat) : Int) → (∀ j, j < 14 → V1 (sro j + 1) = 0) → V1 81 = 0 → GFr V X V1 X1 → DG X1 → mj_T (D + 5) mj_m70 39 [some (.ref 172), some (.int (jn ((t + 2 : Nat) : Int)))] [] h1 (fun z => ∃ V2 X2 h2, jM g n V2 X2 h2 ∧ GEnd A B V2 X2 ∧ (∀ j, j < 14 → V2 (sro j + 1) = 0) ∧ V2 81 = 0 ∧ GFr V X V2 X2 ∧ DG X2 ∧ z = (.inl none, h2))
  | 0, t, htu, V1, X1, hh1, dx, dy, m, r, cd, ip, iq, hdt, hk, hb, h81, fr, dg => by
    have hL : cL 173 = 14 := mK_r.2.2.2.1
    have hdq : dy < cL (sro (t + 1) + 3) := by rw [(sro_k (t := t + 1) (by omega)).2]; split <;> omega
    iterate 2 refine mj_T.pl rfl rfl rfl rfl ?_
    refine mT_get m 16 cq_d172 (by decide) rfl rfl ?_
    refine mT_alen m 5 cq_d173 (by decide) rfl ?_
    refine mj_T.icmp (a := (((t + 2) : Nat) : Int)) (b := ((cL 173 : Nat) : Int)) rfl ⟨by omega, by omega⟩ ⟨by omega, by omega⟩ (fun c1 => ?_) (fun c1 => ?_)
    · simp only [jc, decide_eq_true_eq, decide_eq_false_iff_not, hL] at c1
      refine mj_T.ret rfl rfl rfl ?_
      have d0 : dy = 0 := by omega
      subst d0
      exact ⟨V1, X1, _, m, ⟨t + 1, 0, by omega, hk, iq, hdq, r.1.2.2.1, fun e he => r.1.2.1 e he, fun e => r.y60 e, CD.const (N := dx + 1) (fun e he => r.1.1 e (by omega)) r.1.2.2.1 (fun e he => r.1.2.1 e he) cd⟩, hb, h81, fr, dg, rfl⟩
    · exfalso
      simp only [jc, decide_eq_true_eq, decide_eq_false_iff_not, hL] at c1
      omega
  | u + 1, t, htu, V1, X1, hh1, dx, dy, m, r, cd, ip, iq, hdt, hk, hb, h81, fr, dg => by
    have hL : cL 173 = 14 := mK_r.2.2.2.1
    have hdq : dy < cL (sro (t + 1) + 3) := by rw [(sro_k (t := t + 1) (by omega)).2]; split <;> omega
    iterate 2 refine mj_T.pl rfl rfl rfl rfl ?_
    refine mT_get m 16 cq_d172 (by decide) rfl rfl ?_
    refine mT_alen m 5 cq_d173 (by decide) rfl ?_
    refine mj_T.icmp (a := (((t + 2) : Nat) : Int)) (b := ((cL 173 : Nat) : Int)) rfl ⟨by omega, by omega⟩ ⟨by omega, by omega⟩ (fun c1 => ?_) (fun c1 => ?_)
    · exfalso
      simp only [jc, decide_eq_true_eq, decide_eq_false_iff_not, hL] at c1
      omega
    · simp only [jc, decide_eq_true_eq, decide_eq_false_iff_not, hL] at c1
      have ht : t + 2 < 14 := by omega
      have hL2 : cL (sro (t + 2) + 3) = 12 - t := by rw [(sro_k (t := t + 2) (by omega)).2, if_neg (by omega)]; omega
      refine mj_T.pl rfl rfl rfl rfl ?_
      refine mT_get m 16 cq_d172 (by decide) rfl rfl ?_
      iterate 2 refine mj_T.pl rfl rfl rfl rfl ?_
      refine mj_T.isub (a := (((t + 2) : Nat) : Int)) (b := 1) rfl ?_
      rw [show ((t + 2 : Nat) : Int) - 1 = ((t + 1 : Nat) : Int) by omega]
      refine mT_aald m 5 cq_d173 (by decide) rfl rfl (by omega) ⟨by omega, by omega⟩ ?_
      refine mj_T.eq (st2 := [.ref (sro (t + 1))]) ?_ rfl rfl rfl rfl
      refine mT_get (v := .int (jn ((dy : Nat) : Int))) m 13 (sro_k (t := t + 1) (by omega)).1 (by decide) rfl (congrArg (fun z : Int => some (Value.int (jn z))) (iq)) ?_
      refine mj_T.if0 (a := ((dy : Nat) : Int)) rfl ⟨by omega, by omega⟩ (fun c2 => ?_) (fun c2 => ?_)
      · simp only [jc, Bool.not_eq_true', Bool.not_eq_false', decide_eq_true_eq, decide_eq_false_iff_not] at c2
        refine mj_T.ret rfl rfl rfl ?_
        have d0 : dy = 0 := by omega
        subst d0
        exact ⟨V1, X1, _, m, ⟨t + 1, 0, by omega, hk, iq, hdq, r.1.2.2.1, fun e he => r.1.2.1 e he, fun e => r.y60 e, CD.const (N := dx + 1) (fun e he => r.1.1 e (by omega)) r.1.2.2.1 (fun e he => r.1.2.1 e he) cd⟩, hb, h81, fr, dg, rfl⟩
      · simp only [jc, Bool.not_eq_true', Bool.not_eq_false', decide_eq_true_eq, decide_eq_false_iff_not] at c2
        iterate 2 refine mj_T.pl rfl rfl rfl rfl ?_
        refine mT_get m 16 cq_d172 (by decide) rfl rfl ?_
        iterate 2 refine mj_T.pl rfl rfl rfl rfl ?_
        refine mj_T.isub (a := (((t + 2) : Nat) : Int)) (b := 2) rfl ?_
        rw [show ((t + 2 : Nat) : Int) - 2 = ((t : Nat) : Int) by omega]
        refine mT_aald m 5 cq_d173 (by decide) rfl rfl (by omega) ⟨by omega, by omega⟩ ?_
        refine mj_T.eq (st2 := [.ref (sro t), .ref 172]) ?_ rfl rfl rfl rfl
        refine mj_T.pl rfl rfl rfl rfl ?_
        refine mT_get m 16 cq_d172 (by decide) rfl rfl ?_
        iterate 2 refine mj_T.pl rfl rfl rfl rfl ?_
        refine mj_T.isub (a := (((t + 2) : Nat) : Int)) (b := 1) rfl ?_
        rw [show ((t + 2 : Nat) : Int) - 1 = ((t + 1 : Nat) : Int) by omega]
        refine mT_aald m 5 cq_d173 (by decide) rfl rfl (by omega) ⟨by omega, by omega⟩ ?_
        refine mj_T.eq (st2 := [.ref (sro (t + 1)), .ref (sro t), .ref 172]) ?_ rfl rfl rfl rfl
        refine mj_T.pl rfl rfl rfl rfl ?_
        refine mT_get m 16 cq_d172 (by decide) rfl rfl ?_
        refine mj_T.pl rfl rfl rfl rfl ?_
        refine mT_aald m 5 cq_d173 (by decide) rfl rfl (by omega) ⟨by omega, by omega⟩ ?_
        refine mj_T.eq (st2 := [.ref (sro (t + 2)), .ref (sro (t + 1)), .ref (sro t), .ref 172]) ?_ rfl rfl rfl rfl
        have h1 : 1 ≤ dy := by omega
        have hgap : ∃ gap, dx = dy + gap := ⟨dx - dy, by have := r.1.2.2.2.1; omega⟩
        obtain ⟨gap, hgap⟩ := hgap
        subst hgap
        have g1 : dy + gap - dy = gap := by omega
        have hcap : ∀ i, i < cL (sro (t + 2) + 3) → jnl ((rdv (pcs V1 (sro t)) (pcs V1 (sro (t + 1))) (dy + gap) dy (V1 174) (V1 176)) i).natAbs ≤ cL (sro (t + 2) + 4 + 2 * i + 1) := fun i hi => by
          rw [mK_z.2.2.2.2.2.2.1 (t + 2) (by omega) i (by rw [if_neg (by omega)]; omega), if_neg (by omega)]
          exact r.rcap hm hn bA bB h1 i (by omega)
        have hlq := r.rlq h1
        have hk60 := r.rk60 bA bB hm hn h1
        have hfit := r.fit h1
        rw [g1] at hlq hk60 hfit
        refine mj_T.call rfl rfl (Nat.le_of_ble_eq_true rfl) (Nat.le_of_ble_eq_true rfl) (mV_of m 16 cq_d172 (by decide) rfl (by decide) rfl _) rfl (mj_Ok.up (by omega) (mR_next (D := D) (gap := gap) (dy := dy) (al := bdf (25 - 2 * (dy + gap))) (be := bdf (26 - 2 * (dy + gap))) m ((sro_k (t := t) (by omega)).1) ((sro_k (t := t + 1) (by omega)).1) ((sro_k (t := t + 2) (by omega)).1) (sro_2 (by omega)).1 (sro_2 (by omega)).1 (sro_2 (by omega)).1 (((sro_2 (i := t + 1) (by omega)).2.2 (t + 2) (by omega)).1 (by omega)) ip iq hdq (by have := r.2.1; omega) (hb t (by omega)) h81 r.2.2.1 r.2.2.2.1 (bdf_pos _) hfit (jB_15 (m := 70) (Nat.lt_of_le_of_lt (bdf_mono (show 26 - 2 * (dy + gap) ≤ 26 by omega)) (by decide +kernel)) (by decide)) r.r174.1 r.r174.2 hcap hlq (r.rl60 h1) hk60)) (fun v g3 hq => ?_) (fun i g3 hq => ?_)
        rotate_left
        · obtain ⟨_, _, _, _, _, _, _, _, _, _, _, _, _, hq⟩ := hq; cases hq
        obtain ⟨V3, X3, _, m4, hpm, _, _, hX3, e174, e176, f_V, fX, f80, hq⟩ := hq
        cases hq
        have s20 := (sro_2 (i := t + 2) (by omega))
        have s12 : sro (t + 1) ≠ sro (t + 2) := ((sro_2 (i := t + 1) (by omega)).2.2 (t + 2) (by omega)).1 (by omega)
        have hr240 := s20.2.1 (by omega)
        have hfq := mP_far ((sro_k (t := t + 1) (by omega)).1) ((sro_k (t := t + 2) (by omega)).1) s12
        have hps := mP_pos ((sro_k (t := t + 2) (by omega)).1)
        have hps2 := mP_pos ((sro_k (t := t + 1) (by omega)).1)
        have s11 := (sro_2 (i := t + 1) (by omega)).1
        have eq_3 : pcs V3 (sro (t + 1)) = pcs V1 (sro (t + 1)) := funext fun e => by
          unfold pcs
          by_cases c : e < cL (sro (t + 1) + 3)
          · rw [if_pos c, if_pos c, f_V _ (by omega) (by omega) (by omega) (by omega) (by omega) (by omega) (by omega)]
          · rw [if_neg c, if_neg c]
        have hb3 : ∀ j, j < 14 → V3 (sro j + 1) = 0 := fun j hj => by
          have q1 := (sro_2 hj).1
          have q2 := ((sro_2 hj).2.2 (t + 2) (by omega)).2 (by omega)
          have q3 := mP_pos (sro_k hj).1
          have q4 := (mK_p (sro_k hj).1).2.2.1
          rw [f_V _ (by omega) (by omega) (by omega) (by omega) (by omega) (by omega) (by omega)]
          exact hb j hj
        have h813 : V3 81 = 0 := (f_V 81 (by decide) (by decide) (by decide) (by decide) (by decide) (by decide) (by omega)).trans h81
        have fr3 : (∀ a, a ≠ 80 → a ≠ sro (t + 2) → X3 a = X1 a) → GFr V X V3 X3 := fun fX => by
          refine ⟨fun x x1 x2 x3 x4 x5 x6 x7 => ?_, fun a a1 a2 a3 => ?_⟩
          · rw [f_V x (by omega) x2 x3 x4 x5 x6 (by omega)]
            exact fr.1 x x1 x2 x3 x4 x5 x6 x7
          · rw [fX a a1 (by omega)]
            exact fr.2 a a1 a2 a3
        have dg3 : DG X3 := fun a ka => by
          by_cases c : a = sro (t + 2)
          · subst c
            have := fdg_le (rdv (pcs V1 (sro t)) (pcs V1 (sro (t + 1))) (dy + gap) dy (V1 174) (V1 176)) (cL (sro (t + 2) + 3))
            rw [hX3]
            omega
          · by_cases d : a = 80
            · subst d
              have p83 : cL (80 + 3) = 13 := mK_z.2.2.1
              omega
            · rw [fX a d c]
              exact dg a ka
        have hz0 : fdg (rdv (pcs V1 (sro t)) (pcs V1 (sro (t + 1))) (dy + gap) dy (V1 174) (V1 176)) (cL (sro (t + 2) + 3)) = 0 → ∀ e, (rdv (pcs V1 (sro t)) (pcs V1 (sro (t + 1))) (dy + gap) dy (V1 174) (V1 176)) e = 0 := fun q e => by
          by_cases c : e < cL (sro (t + 2) + 3)
          · exact fdg_zero (rdv (pcs V1 (sro t)) (pcs V1 (sro (t + 1))) (dy + gap) dy (V1 174) (V1 176)) _ e (by omega) c
          · exact r.rlow e (by omega)
        refine mj_T.eq (pc2 := 88) (st2 := []) ?_ rfl rfl rfl rfl
        refine mj_T.pl rfl rfl rfl rfl ?_
        refine mT_get m4 16 cq_d172 (by decide) rfl rfl ?_
        refine mj_T.pl rfl rfl rfl rfl ?_
        refine mT_aald m4 5 cq_d173 (by decide) rfl rfl (by omega) ⟨by omega, by omega⟩ ?_
        refine mj_T.eq (st2 := [.ref (sro (t + 2))]) ?_ rfl rfl rfl rfl
        refine mT_get (v := .int (jn ((fdg (rdv (pcs V1 (sro t)) (pcs V1 (sro (t + 1))) (dy + gap) dy (V1 174) (V1 176)) (cL (sro (t + 2) + 3)) : Int) - 1))) m4 13 (sro_k (t := t + 2) (by omega)).1 (by decide) rfl (congrArg (fun z : Int => some (Value.int (jn z))) (hX3)) ?_
        refine mj_T.if0 (a := ((fdg (rdv (pcs V1 (sro t)) (pcs V1 (sro (t + 1))) (dy + gap) dy (V1 174) (V1 176)) (cL (sro (t + 2) + 3)) : Int) - 1)) rfl ⟨by have := fdg_le (rdv (pcs V1 (sro t)) (pcs V1 (sro (t + 1))) (dy + gap) dy (V1 174) (V1 176)) (cL (sro (t + 2) + 3)); omega, by have := fdg_le (rdv (pcs V1 (sro t)) (pcs V1 (sro (t + 1))) (dy + gap) dy (V1 174) (V1 176)) (cL (sro (t + 2) + 3)); omega⟩ (fun c5 => ?_) (fun c5 => ?_)
        · simp only [jc, Bool.not_eq_true', Bool.not_eq_false', decide_eq_true_eq, decide_eq_false_iff_not] at c5
          iterate 3 refine mj_T.pl rfl rfl rfl rfl ?_
          refine mj_T.iadd (a := (((t + 2) : Nat) : Int)) (b := 1) rfl ?_
          refine mT_put (v := ((((t + 2) : Nat) : Int) + 1)) m4 16 cq_d172 (by decide) rfl (by simp [jMf, xup]) (by simp [jMf]) rfl (fun h6 m7 => ?_)
          refine mj_T.iinc rfl rfl ?_
          rw [show (((t + 2) : Nat) : Int) + 1 = (((t + 2) + 1 : Nat) : Int) by omega]
          refine mj_T.eq (loc2 := [some (.ref 172), some (.int (jn ((((t + 2) + 1) : Nat) : Int)))]) ?_ rfl rfl rfl rfl
          refine mj_T.pl rfl rfl rfl rfl ?_
          have hfl := fdg_le (rdv (pcs V1 (sro t)) (pcs V1 (sro (t + 1))) (dy + gap) dy (V1 174) (V1 176)) (cL (sro (t + 2) + 3))
          have hfn := fdg_ne (rdv (pcs V1 (sro t)) (pcs V1 (sro (t + 1))) (dy + gap) dy (V1 174) (V1 176)) (cL (sro (t + 2) + 3)) (by omega)
          have hlt : fdg (rdv (pcs V1 (sro t)) (pcs V1 (sro (t + 1))) (dy + gap) dy (V1 174) (V1 176)) (cL (sro (t + 2) + 3)) - 1 < dy := by
            rcases Nat.lt_or_ge (fdg (rdv (pcs V1 (sro t)) (pcs V1 (sro (t + 1))) (dy + gap) dy (V1 174) (V1 176)) (cL (sro (t + 2) + 3)) - 1) dy with q | q
            · exact q
            · exact absurd (r.rlow _ q) hfn
          have hpF : pm (pcs V3 (sro (t + 2))) (rdv (pcs V1 (sro t)) (pcs V1 (sro (t + 1))) (dy + gap) dy (V1 174) (V1 176)) := by
            have hl : ∀ i, ¬ i < cL (sro (t + 2) + 3) → (rdv (pcs V1 (sro t)) (pcs V1 (sro (t + 1))) (dy + gap) dy (V1 174) (V1 176)) i = 0 := fun i hi => r.rlow i (by omega)
            rcases hpm with q | q
            · refine Or.inl fun i => ?_
              by_cases c : i < cL (sro (t + 2) + 3)
              · rw [pcs_in c, q i c]
              · rw [pcs_out c, hl i c]
            · refine Or.inr fun i => ?_
              by_cases c : i < cL (sro (t + 2) + 3)
              · rw [pcs_in c, q i c]
              · rw [pcs_out c, hl i c]
                rfl
          have hFz : ∀ i, fdg (rdv (pcs V1 (sro t)) (pcs V1 (sro (t + 1))) (dy + gap) dy (V1 174) (V1 176)) (cL (sro (t + 2) + 3)) - 1 < i → pcs V3 (sro (t + 2)) i = 0 := fun i hi => by
            have q0 : (rdv (pcs V1 (sro t)) (pcs V1 (sro (t + 1))) (dy + gap) dy (V1 174) (V1 176)) i = 0 := by
              by_cases c : i < cL (sro (t + 2) + 3)
              · exact fdg_zero (rdv (pcs V1 (sro t)) (pcs V1 (sro (t + 1))) (dy + gap) dy (V1 174) (V1 176)) _ i (by omega) c
              · exact r.rlow i (by omega)
            rcases hpF with q | q
            · rw [q i, q0]
            · rw [q i, q0]
              rfl
          have hFn : pcs V3 (sro (t + 2)) (fdg (rdv (pcs V1 (sro t)) (pcs V1 (sro (t + 1))) (dy + gap) dy (V1 174) (V1 176)) (cL (sro (t + 2) + 3)) - 1) ≠ 0 := by
            rcases hpF with q | q
            · rw [q]
              exact hfn
            · rw [q]
              omega
          have r3 : RB A B ma na (pcs V3 (sro (t + 1))) (pcs V3 (sro (t + 2))) dy (fdg (rdv (pcs V1 (sro t)) (pcs V1 (sro (t + 1))) (dy + gap) dy (V1 174) (V1 176)) (cL (sro (t + 2) + 3)) - 1) (V3 174) (V3 176) := by
            rw [eq_3, e174, e176]
            exact r.next hm hn bA bB h1 hpF hlt hFz hFn
          have cd3 : CD A B (pcs V3 (sro (t + 1))) (pcs V3 (sro (t + 2))) := by
            rw [eq_3]
            exact CD.next r.1 h1 hpF cd
          refine mR_go_loop hm hn bA bB u (t + 1) (by omega) V3 _ _ _ _ m7 r3 cd3 ?_ ?_ (by omega) ?_ hb3 h813 ?_ (dg3.oth (by decide +kernel))
          · exact (congrFun ((xup_oth (by omega)).trans (fX (sro (t + 1)) (by omega) s12)) 2).trans iq
          · exact (congrFun (xup_oth (b := sro (t + 2)) (by omega)) 2).trans (hX3.trans (by omega))
          · rw [xup_at]
            omega
          · have f4 := fr3 fX
            exact ⟨f4.1, fun a a1 a2 a3 => (xup_oth a2).trans (f4.2 a a1 a2 a3)⟩
        · simp only [jc, Bool.not_eq_true', Bool.not_eq_false', decide_eq_true_eq, decide_eq_false_iff_not] at c5
          refine mj_T.ret rfl rfl rfl ⟨V3, X3, _, m4, ⟨t + 1, dy, by omega, (congrFun (fX 172 (by decide) (by omega)) 2).trans hk, (congrFun (fX (sro (t + 1)) (by omega) s12) 2).trans iq, hdq, ?_, ?_, ?_, ?_⟩, hb3, h813, fr3 fX, dg3, rfl⟩
          · rw [eq_3]
            exact r.1.2.2.1
          · rw [eq_3]
            exact r.1.2.1
          · rw [eq_3]
            exact r.y60
          · rw [eq_3]
            exact CD.last r.1 h1 (fun e => hz0 (by omega) e) cd
theorem pcs_jvu {V : Nat → Int} {a p : Nat} {v : Int} (h : a < p + 4) : pcs (jvu V a v) p = pcs V p := funext fun e => by
  unfold pcs
  by_cases c : e < cL (p + 3)
  · rw [if_pos c, if_pos c, jvu_ne _ _ _ (by omega)]
  · rw [if_neg c, if_neg c]
theorem qdv_0 (G : pz_P) {x : pz_P} (h : ∀ i, x i = 0) : qdv G x := by
  rw [show x = pz_0 from funext h]
  exact qdv.z G
theorem mR_goOn (m : jM g n V X h) (dg : DG X) {ma na : Nat} (hX0 : X 180 2 = (ma : Int)) (hA : ∀ i, ma < i → pcs V 180 i = 0) (hm : ma ≤ 12) (bA : ∀ e, (pcs V 180 e).natAbs ≤ bM) (hb : ∀ j, j < 14 → V (sro j + 1) = 0) (h81 : V 81 = 0) (hX1 : X 210 2 = (na : Int)) (hB : ∀ i, na < i → pcs V 210 i = 0) (hB0 : pcs V 210 na ≠ 0) (hn : na ≤ 12) (hmn : na ≤ ma) (bB : ∀ e, (pcs V 210 e).natAbs ≤ bM) : mj_Ok (D + 6) 70 [.ref 172] h (fun z => ∃ V2 X2 h2, jM g n V2 X2 h2 ∧ GEnd (pcs V 180) (pcs V 210) V2 X2 ∧ (∀ j, j < 14 → V2 (sro j + 1) = 0) ∧ V2 81 = 0 ∧ GFr V X V2 X2 ∧ DG X2 ∧ z = (.inl none, h2)) := by
  have hL : cL 173 = 14 := mK_r.2.2.2.1
  have h175 : 3 ≤ cL (174 + 1) := by decide +kernel
  have h177 : 3 ≤ cL (176 + 1) := by decide +kernel
  refine mj_Ok.of (M := mj_m70) rfl rfl rfl ?_
  iterate 2 refine mj_T.pl rfl rfl rfl rfl ?_
  refine mT_get m 16 cq_d172 (by decide) rfl rfl ?_
  refine mj_T.pl rfl rfl rfl rfl ?_
  refine mT_aald m 5 cq_d173 (by decide) rfl rfl (by omega) ⟨by omega, by omega⟩ ?_
  refine mj_T.eq (st2 := [.ref 210, .ref 172]) ?_ rfl rfl rfl rfl
  refine mT_get (v := .int (jn ((na : Nat) : Int))) m 13 cq_d210 (by decide) rfl (congrArg (fun z : Int => some (Value.int (jn z))) ((by first | exact hX1 | exact (congrFun (xup_oth (by decide)) 2).trans hX1))) ?_
  refine mj_T.if0 (a := ((na : Nat) : Int)) rfl ⟨by omega, by omega⟩ (fun c1 => ?_) (fun c1 => ?_)
  · simp only [jc, Bool.not_eq_true', Bool.not_eq_false', decide_eq_true_eq, decide_eq_false_iff_not] at c1
    refine mj_T.pl rfl rfl rfl rfl ?_
    refine mT_put (v := 2) m 16 cq_d172 (by decide) rfl (by simp [jMf, xup]) (by simp [jMf]) rfl (fun h2 m3 => ?_)
    refine mj_T.pl rfl rfl rfl rfl ?_
    refine mT_get m3 16 cq_d172 (by decide) rfl rfl ?_
    refine jT.lc 1 rfl rfl ?_
    refine mj_T.call rfl rfl (Nat.le_of_ble_eq_true rfl) (Nat.le_of_ble_eq_true rfl) (mV_of m3 18 cq_d174 (by decide) rfl (by decide) rfl _) rfl (mj_Ok.up (by omega) (mW_setLong (D := 0) (v := ((1 : Nat) : Int)) m3 cq_d174 ⟨by decide, by decide⟩ (Nat.le_trans (jnl_R (v := 1) (by decide)) h175))) (fun v g4 hq => ?_) (fun i g4 hq => ?_)
    rotate_left
    · obtain ⟨_, _, hq⟩ := hq; cases hq
    obtain ⟨_, m5, hq⟩ := hq
    cases hq
    have m5 := m5.to (V' := (jvu V 174 ((1 : Nat) : Int))) (by rfl) rfl
    refine mj_T.eq (pc2 := 29) (st2 := []) ?_ rfl rfl rfl rfl
    refine mj_T.pl rfl rfl rfl rfl ?_
    refine mT_get m5 16 cq_d172 (by decide) rfl rfl ?_
    refine jT.lc 1 rfl rfl ?_
    refine mj_T.call rfl rfl (Nat.le_of_ble_eq_true rfl) (Nat.le_of_ble_eq_true rfl) (mV_of m5 18 cq_d176 (by decide) rfl (by decide) rfl _) rfl (mj_Ok.up (by omega) (mW_setLong (D := 0) (v := ((1 : Nat) : Int)) m5 cq_d176 ⟨by decide, by decide⟩ (Nat.le_trans (jnl_R (v := 1) (by decide)) h177))) (fun v g6 hq => ?_) (fun i g6 hq => ?_)
    rotate_left
    · obtain ⟨_, _, hq⟩ := hq; cases hq
    obtain ⟨_, m7, hq⟩ := hq
    cases hq
    have m7 := m7.to (V' := (jvu (jvu V 174 ((1 : Nat) : Int)) 176 ((1 : Nat) : Int))) (by rfl) rfl
    refine mj_T.eq (pc2 := 37) (st2 := []) ?_ rfl rfl rfl rfl
    refine mj_T.pl rfl rfl rfl rfl ?_
    refine mj_T.pl (loc' := [some (.ref 172), some (.int (jn 2))]) rfl rfl rfl rfl ?_
    obtain ⟨V1, hV1⟩ : ∃ V1, V1 = (jvu (jvu V 174 ((1 : Nat) : Int)) 176 ((1 : Nat) : Int)) := ⟨_, rfl⟩
    rw [← hV1] at m7
    have p0 : pcs V1 180 = pcs V 180 := by rw [hV1, pcs_jvu (by decide), pcs_jvu (by decide)]
    have p1 : pcs V1 210 = pcs V 210 := by rw [hV1, pcs_jvu (by decide), pcs_jvu (by decide)]
    have o1 : V1 174 = 1 := by rw [hV1, jvu_ne _ _ _ (by decide), jvu_at]; rfl
    have o2 : V1 176 = 1 := by rw [hV1, jvu_at]; rfl
    have oo : ∀ x, x ≠ 174 → x ≠ 176 → V1 x = V x := fun x x1 x2 => by rw [hV1, jvu_ne _ _ _ x2, jvu_ne _ _ _ x1]
    have hb1 : ∀ j, j < 14 → V1 (sro j + 1) = 0 := fun j hj => by
      have := (sro_2 hj).1
      rw [oo _ (by omega) (by omega)]
      exact hb j hj
    have h811 : V1 81 = 0 := (oo 81 (by decide) (by decide)).trans h81
    have fr1 : GFr V X V1 (xup X 172 2 2) := ⟨fun x _ _ _ _ x5 x6 _ => oo x x5 x6, fun a _ a2 _ => xup_oth a2⟩
    refine mj_T.eq (loc2 := [some (.ref 172), some (.int (jn ((0 + 2 : Nat) : Int)))]) ?_ rfl rfl rfl rfl
    refine mR_go_loop (D := D) hm hn bA bB 12 0 (by omega) V1 _ _ ma na m7 ?_ ?_ ((congrFun (xup_oth (by decide)) 2).trans hX0) ((congrFun (xup_oth (by decide)) 2).trans hX1) (by omega) (xup_at _ _ _ _) hb1 h811 fr1 (dg.oth (by decide +kernel))
    · show RB (pcs V 180) (pcs V 210) ma na (pcs V1 180) (pcs V1 210) ma na (V1 174) (V1 176)
      rw [p0, p1, o1, o2]
      exact RB.start hA hB hB0 hmn hm bA bB
    · show CD (pcs V 180) (pcs V 210) (pcs V1 180) (pcs V1 210)
      rw [p0, p1]
      exact CD.start _ _
  · exfalso
    simp only [jc, Bool.not_eq_true', Bool.not_eq_false', decide_eq_true_eq, decide_eq_false_iff_not] at c1
    omega
theorem mR_goOn0 (m : jM g n V X h) (dg : DG X) {ma : Nat} (hX0 : X 180 2 = (ma : Int)) (hA : ∀ i, ma < i → pcs V 180 i = 0) (hm : ma ≤ 12) (bA : ∀ e, (pcs V 180 e).natAbs ≤ bM) (hb : ∀ j, j < 14 → V (sro j + 1) = 0) (h81 : V 81 = 0) (hX1 : X 210 2 = -1) (hB : ∀ i, pcs V 210 i = 0) (hA0 : pcs V 180 ma ≠ 0) : mj_Ok (D + 6) 70 [.ref 172] h (fun z => ∃ V2 X2 h2, jM g n V2 X2 h2 ∧ GEnd (pcs V 180) (pcs V 210) V2 X2 ∧ (∀ j, j < 14 → V2 (sro j + 1) = 0) ∧ V2 81 = 0 ∧ GFr V X V2 X2 ∧ DG X2 ∧ z = (.inl none, h2)) := by
  have hmc : ma < cL (sro 0 + 3) := by rw [(sro_k (t := 0) (by decide)).2]; split <;> omega
  have hL : cL 173 = 14 := mK_r.2.2.2.1
  have h175 : 3 ≤ cL (174 + 1) := by decide +kernel
  have h177 : 3 ≤ cL (176 + 1) := by decide +kernel
  refine mj_Ok.of (M := mj_m70) rfl rfl rfl ?_
  iterate 2 refine mj_T.pl rfl rfl rfl rfl ?_
  refine mT_get m 16 cq_d172 (by decide) rfl rfl ?_
  refine mj_T.pl rfl rfl rfl rfl ?_
  refine mT_aald m 5 cq_d173 (by decide) rfl rfl (by omega) ⟨by omega, by omega⟩ ?_
  refine mj_T.eq (st2 := [.ref 210, .ref 172]) ?_ rfl rfl rfl rfl
  refine mT_get (v := .int (jn (-1))) m 13 cq_d210 (by decide) rfl (congrArg (fun z : Int => some (Value.int (jn z))) ((by first | exact hX1 | exact (congrFun (xup_oth (by decide)) 2).trans hX1))) ?_
  refine mj_T.if0 (a := (-1)) rfl ⟨by omega, by omega⟩ (fun c1 => ?_) (fun c1 => ?_)
  · exfalso
    simp only [jc, Bool.not_eq_true', Bool.not_eq_false', decide_eq_true_eq, decide_eq_false_iff_not] at c1
    omega
  · simp only [jc, Bool.not_eq_true', Bool.not_eq_false', decide_eq_true_eq, decide_eq_false_iff_not] at c1
    iterate 2 refine mj_T.pl rfl rfl rfl rfl ?_
    refine mT_put (v := 1) m 16 cq_d172 (by decide) rfl (by simp [jMf, xup]) (by simp [jMf]) rfl (fun h2 m3 => ?_)
    refine mj_T.pl rfl rfl rfl rfl ?_
    refine mT_get m3 16 cq_d172 (by decide) rfl rfl ?_
    refine jT.lc 1 rfl rfl ?_
    refine mj_T.call rfl rfl (Nat.le_of_ble_eq_true rfl) (Nat.le_of_ble_eq_true rfl) (mV_of m3 18 cq_d174 (by decide) rfl (by decide) rfl _) rfl (mj_Ok.up (by omega) (mW_setLong (D := 0) (v := ((1 : Nat) : Int)) m3 cq_d174 ⟨by decide, by decide⟩ (Nat.le_trans (jnl_R (v := 1) (by decide)) h175))) (fun v g4 hq => ?_) (fun i g4 hq => ?_)
    rotate_left
    · obtain ⟨_, _, hq⟩ := hq; cases hq
    obtain ⟨_, m5, hq⟩ := hq
    cases hq
    have m5 := m5.to (V' := (jvu V 174 ((1 : Nat) : Int))) (by rfl) rfl
    refine mj_T.eq (pc2 := 29) (st2 := []) ?_ rfl rfl rfl rfl
    refine mj_T.pl rfl rfl rfl rfl ?_
    refine mT_get m5 16 cq_d172 (by decide) rfl rfl ?_
    refine jT.lc 1 rfl rfl ?_
    refine mj_T.call rfl rfl (Nat.le_of_ble_eq_true rfl) (Nat.le_of_ble_eq_true rfl) (mV_of m5 18 cq_d176 (by decide) rfl (by decide) rfl _) rfl (mj_Ok.up (by omega) (mW_setLong (D := 0) (v := ((1 : Nat) : Int)) m5 cq_d176 ⟨by decide, by decide⟩ (Nat.le_trans (jnl_R (v := 1) (by decide)) h177))) (fun v g6 hq => ?_) (fun i g6 hq => ?_)
    rotate_left
    · obtain ⟨_, _, hq⟩ := hq; cases hq
    obtain ⟨_, m7, hq⟩ := hq
    cases hq
    have m7 := m7.to (V' := (jvu (jvu V 174 ((1 : Nat) : Int)) 176 ((1 : Nat) : Int))) (by rfl) rfl
    refine mj_T.eq (pc2 := 37) (st2 := []) ?_ rfl rfl rfl rfl
    refine mj_T.pl rfl rfl rfl rfl ?_
    refine mj_T.pl (loc' := [some (.ref 172), some (.int (jn 2))]) rfl rfl rfl rfl ?_
    obtain ⟨V1, hV1⟩ : ∃ V1, V1 = (jvu (jvu V 174 ((1 : Nat) : Int)) 176 ((1 : Nat) : Int)) := ⟨_, rfl⟩
    rw [← hV1] at m7
    have p0 : pcs V1 180 = pcs V 180 := by rw [hV1, pcs_jvu (by decide), pcs_jvu (by decide)]
    have p1 : pcs V1 210 = pcs V 210 := by rw [hV1, pcs_jvu (by decide), pcs_jvu (by decide)]
    have o1 : V1 174 = 1 := by rw [hV1, jvu_ne _ _ _ (by decide), jvu_at]; rfl
    have o2 : V1 176 = 1 := by rw [hV1, jvu_at]; rfl
    have oo : ∀ x, x ≠ 174 → x ≠ 176 → V1 x = V x := fun x x1 x2 => by rw [hV1, jvu_ne _ _ _ x2, jvu_ne _ _ _ x1]
    have hb1 : ∀ j, j < 14 → V1 (sro j + 1) = 0 := fun j hj => by
      have := (sro_2 hj).1
      rw [oo _ (by omega) (by omega)]
      exact hb j hj
    have h811 : V1 81 = 0 := (oo 81 (by decide) (by decide)).trans h81
    have fr1 : GFr V X V1 (xup X 172 2 1) := ⟨fun x _ _ _ _ x5 x6 _ => oo x x5 x6, fun a _ a2 _ => xup_oth a2⟩
    iterate 2 refine mj_T.pl rfl rfl rfl rfl ?_
    refine mT_get m7 16 cq_d172 (by decide) rfl rfl ?_
    refine mT_alen m7 5 cq_d173 (by decide) rfl ?_
    refine mj_T.icmp (a := 2) (b := ((cL 173 : Nat) : Int)) rfl ⟨by omega, by omega⟩ ⟨by omega, by omega⟩ (fun c8 => ?_) (fun c8 => ?_)
    · exfalso
      simp only [jc, decide_eq_true_eq, decide_eq_false_iff_not, hL] at c8
      omega
    · simp only [jc, decide_eq_true_eq, decide_eq_false_iff_not, hL] at c8
      refine mj_T.pl rfl rfl rfl rfl ?_
      refine mT_get m7 16 cq_d172 (by decide) rfl rfl ?_
      iterate 2 refine mj_T.pl rfl rfl rfl rfl ?_
      refine mj_T.isub (a := 2) (b := 1) rfl ?_
      rw [show (2 : Int) - 1 = ((1 : Nat) : Int) by decide]
      refine mT_aald m7 5 cq_d173 (by decide) rfl rfl (by omega) ⟨by omega, by omega⟩ ?_
      refine mj_T.eq (st2 := [.ref 210]) ?_ rfl rfl rfl rfl
      refine mT_get (v := .int (jn (-1))) m7 13 cq_d210 (by decide) rfl (congrArg (fun z : Int => some (Value.int (jn z))) ((by first | exact hX1 | exact (congrFun (xup_oth (by decide)) 2).trans hX1))) ?_
      refine mj_T.if0 (a := (-1)) rfl ⟨by omega, by omega⟩ (fun c9 => ?_) (fun c9 => ?_)
      · simp only [jc, Bool.not_eq_true', Bool.not_eq_false', decide_eq_true_eq, decide_eq_false_iff_not] at c9
        refine mj_T.ret rfl rfl rfl ⟨V1, _, _, m7, ⟨0, ma, by decide, xup_at _ _ _ _, (congrFun (xup_oth (by decide)) 2).trans hX0, hmc, ?_, ?_, ?_, ?_⟩, hb1, h811, fr1, dg.oth (by decide +kernel), rfl⟩
        · show pcs V1 180 ma ≠ 0
          rw [p0]
          exact hA0
        · show ∀ e, ma < e → pcs V1 180 e = 0
          rw [p0]
          exact hA
        · show ∀ e, jnl (pcs V1 180 e).natAbs ≤ 60
          rw [p0]
          exact fun e => jnl_le_lt.mpr (Nat.lt_of_le_of_lt (Nat.le_trans (bA e) (by rw [← bdf_one]; exact bdf_mono (by decide))) size_3)
        · show ∀ G, (qdv G (pcs V 180) ∧ qdv G (pcs V 210)) ↔ qdv G (pcs V1 180)
          rw [p0]
          exact fun G => ⟨fun k => k.1, fun k => ⟨k, qdv_0 G hB⟩⟩
      · exfalso
        simp only [jc, Bool.not_eq_true', Bool.not_eq_false', decide_eq_true_eq, decide_eq_false_iff_not] at c9
        omega
end MGO
