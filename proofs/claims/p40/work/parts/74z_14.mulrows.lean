/-! The desk of the class, exactly: rows are multiplied. -/
/-- a row as a polynomial -/
def rw13 (A : Nat → Int) : pz_P := fun i => if i < 13 then A i else 0
/-- what a register may take -/
def sml (A : Nat → Int) : Prop := ∀ i, i < 13 → (A i).natAbs ≤ 999999999999999999
def fit13 (P : pz_P) : Prop := sml P ∧ ∀ i, 13 ≤ i → P i = 0
/-- all but the desk's own numbers stay -/
def dF (V V' : Nat → Int) : Prop := ∀ a, (a < 20 ∨ 172 ≤ a ∨ a = 21 ∨ a = 51 ∨ a = 81 ∨ a = 111) → V' a = V a
def dG4 (X : Nat → Nat → Int) : Prop := (-1 ≤ X 20 2 ∧ X 20 2 < 13) ∧ (-1 ≤ X 50 2 ∧ X 50 2 < 13) ∧ (-1 ≤ X 80 2 ∧ X 80 2 < 13) ∧ (-1 ≤ X 110 2 ∧ X 110 2 < 25)
def xF (S : Nat → Prop) (X X' : Nat → Nat → Int) : Prop := (∀ a, a ≠ 20 → a ≠ 50 → a ≠ 80 → a ≠ 110 → ¬ S a → X' a = X a) ∧ (dG4 X → dG4 X')
theorem fdgr {f : Nat → Int} {n m : Nat} (h : n ≤ m) : -1 ≤ (fdg f n : Int) - 1 ∧ (fdg f n : Int) - 1 < (m : Int) := by
  have := fdg_le f n
  omega
theorem dF.rf (V : Nat → Int) : dF V V := fun _ _ => rfl
theorem dF.tr {V V' V'' : Nat → Int} (h : dF V V') (k : dF V' V'') : dF V V'' := fun a ha => (k a ha).trans (h a ha)
theorem dF.pfl {V : Nat → Int} {p k : Nat} {w : Nat → Int} (h : (p = 20 ∧ k = 13) ∨ (p = 50 ∧ k = 13) ∨ (p = 80 ∧ k = 13) ∨ (p = 110 ∧ k = 25)) : dF V (pfl V p w k) := fun a ha => pfl_off _ _ _ (by omega)
theorem dF.scr (V : Nat → Int) (z1 z2 : Int) : dF V (scr V z1 z2) := fun a ha => scr_off _ _ _ (by omega) (by omega)
theorem dF.jvu {V : Nat → Int} {a : Nat} {v : Int} (h : 24 ≤ a ∧ a < 172 ∧ a ≠ 51 ∧ a ≠ 81 ∧ a ≠ 111) : dF V (jvu V a v) := fun x hx => jvu_ne _ _ _ (by omega)
theorem xF.rf (S : Nat → Prop) (X : Nat → Nat → Int) : xF S X X := ⟨fun _ _ _ _ _ _ => rfl, fun q => q⟩
theorem xF.tr {S : Nat → Prop} {X X' X'' : Nat → Nat → Int} (h : xF S X X') (k : xF S X' X'') : xF S X X'' := ⟨fun a h1 h2 h3 h4 h5 => (k.1 a h1 h2 h3 h4 h5).trans (h.1 a h1 h2 h3 h4 h5), fun q => k.2 (h.2 q)⟩
theorem xF.deg {S : Nat → Prop} {X : Nat → Nat → Int} {p : Nat} {v : Int} (h : p = 20 ∨ p = 50 ∨ p = 80 ∨ p = 110) (hv : (-1 ≤ v ∧ v < ((13 : Nat) : Int)) ∨ (p = 110 ∧ -1 ≤ v ∧ v < ((25 : Nat) : Int)) := by first | exact Or.inl (fdgr (by decide +kernel)) | exact Or.inr ⟨rfl, fdgr (by decide +kernel)⟩ | omega) : xF S X (xup X p 2 v) := ⟨fun a h1 h2 h3 h4 h5 => funext fun j => xup_ne _ _ (Or.inl (by omega)), fun q => by
  obtain ⟨q1, q2, q3, q4⟩ := q
  have e : ∀ x, (x = 20 ∨ x = 50 ∨ x = 80 ∨ x = 110) → (-1 ≤ X x 2 ∧ X x 2 < if x = 110 then 25 else 13) → (-1 ≤ xup X p 2 v x 2 ∧ xup X p 2 v x 2 < if x = 110 then 25 else 13) := fun x hx y => by
    by_cases c : x = p
    · subst c
      rw [xup_at]
      split <;> omega
    · rw [xup_ne _ _ (Or.inl c)]
      exact y
  exact ⟨e 20 (by omega) q1, e 50 (by omega) q2, e 80 (by omega) q3, e 110 (by omega) q4⟩⟩
theorem xF.row {S : Nat → Prop} {X : Nat → Nat → Int} {r k : Nat} {w : Nat → Int} (h : S r) (kr : cK r = 2 := by assumption) : xF S X (xfl X r w k) := ⟨fun a h1 h2 h3 h4 h5 => xfl_off _ _ _ (fun e => h5 (by rw [e]; exact h)), fun q => by
  have e : ∀ x, cK x = 13 → xfl X r w k x = X x := fun x hx => xfl_off _ _ _ (fun y => by rw [y, kr] at hx; exact absurd hx (by decide))
  unfold dG4
  rw [e 20 cq_d20, e 50 cq_d50, e 80 cq_d80, e 110 cq_d110]
  exact q⟩
theorem xF.mono {S S' : Nat → Prop} {X X' : Nat → Nat → Int} (hS : ∀ a, S a → S' a) (h : xF S X X') : xF S' X X' := ⟨fun a h1 h2 h3 h4 h5 => h.1 a h1 h2 h3 h4 (fun q => h5 (hS a q)), h.2⟩
theorem rw13_in {A : Nat → Int} {i : Nat} (h : i < 13) : rw13 A i = A i := if_pos h
theorem rw13_out {A : Nat → Int} {i : Nat} (h : 13 ≤ i) : rw13 A i = 0 := if_neg (by omega)
theorem kR_ne {r : Nat} (kr : cK r = 2) : r ≠ 20 ∧ r ≠ 50 ∧ r ≠ 80 ∧ r ≠ 110 := by
  have a := cq_d20
  have b := cq_d50
  have c := cq_d80
  have d := cq_d110
  refine ⟨fun e => ?_, fun e => ?_, fun e => ?_, fun e => ?_⟩ <;> subst e <;> omega
theorem pok_fit {V : Nat → Int} {p m : Nat} (hm : m = cL (p + 3)) (h13 : 13 ≤ m) (P : pz_P) (hP : ∀ i, i < m → V (p + 4 + 2 * i) = P i) (hz : ∀ i, m ≤ i → P i = 0) : pok V p (cL (p + 3)) ↔ fit13 P := by
  rw [← hm]
  constructor
  · intro h
    refine ⟨fun i hi => ?_, fun i hi => ?_⟩
    · have := h i (by omega)
      rw [if_pos (by omega), hP i (by omega), jnl_two] at this
      exact this
    · by_cases q : i < m
      · have := h i q
        rw [if_neg (by omega), hP i q] at this
        have := jnl_eq0.mp (Nat.le_zero.mp this)
        omega
      · exact hz i (by omega)
  · intro h i hi
    rw [hP i hi]
    split
    · exact jnl_two.mpr (h.1 i (by omega))
    · rw [h.2 i (by omega)]
      exact Nat.le_of_eq jnl_zero
theorem pz_mul_out {A B : Nat → Int} {i : Nat} (h : 25 ≤ i) : pz_mul (rw13 A) (rw13 B) i = 0 := pz_lt.mul (a := 13) (b := 13) (c := 25) (fun x hx => rw13_out hx) (fun x hx => rw13_out hx) (by decide) i h
theorem fit_mul : 13 * (999999999999999999 * 999999999999999999) < jB ^ 6 := by decide +kernel
section MMR
variable {g h : mj_H} {n D a b r p : Nat} {V : Nat → Int} {X : Nat → Nat → Int}
theorem mP_load1 (m : jM g n V X h) (kp : cK p = 13) (kr : cK r = 2) (hm : cL (p + 3) = 13) (hX : sml (X r)) (hcap : ∀ i, i < 13 → 2 ≤ cL (p + 4 + 2 * i + 1)) : mj_Ok (D + 2) 40 [.ref p, .ref r, .long (jl ((1 : Nat) : Int))] h (fun z => ∃ h2, jM g n (pfl V p (X r) 13) (xup X p 2 ((fdg (X r) 13 : Int) - 1)) h2 ∧ z = (.inl none, h2)) := by
  have e : (fun e => (X r e).tdiv ((1 : Nat) : Int)) = X r := funext fun e => Int.tdiv_one _
  have h1 := mP_load (D := D) m (d := ((1 : Nat) : Int)) kp kr hm ⟨by decide, by decide⟩ hX hcap
  rw [e] at h1
  exact h1
theorem mul_cl {A B : Nat → Int} (hA : sml A) (hB : sml B) (e : Nat) : jnl (pz_mul (rw13 A) (rw13 B) e).natAbs ≤ 1500 := by
  have bd : ∀ A : Nat → Int, sml A → ∀ i, (rw13 A i).natAbs ≤ 999999999999999999 := fun A hA i => by
    unfold rw13
    split
    · exact hA i (by omega)
    · decide
  have q1 := tw_abs (bd A hA) (bd B hB) 13 0 e
  rw [tw_end (fun i hi => by unfold rw13; exact if_neg (by omega))] at q1
  exact jnl_B q1 (jB_15 (m := 6) (by decide +kernel) (by decide))
/-- what a product of two rows needs -/
theorem mD_times2 (m : jM g n (pfl (pfl V 20 (X a) 13) 50 (X b) 13) (xup (xup X 20 2 ((fdg (X a) 13 : Int) - 1)) 50 2 ((fdg (X b) 13 : Int) - 1)) h) (ka : cK a = 2) (kb : cK b = 2) (hb_a : sml (X a)) (hb_b : sml (X b)) : mj_Ok (D + 3) 14 [.ref 19, .ref 110, .ref 20, .ref 50] h (fun r => ∃ (z1 z2 : Int) (h2 : mj_H), jM g n (pfl (scr (pfl (pfl V 20 (X a) 13) 50 (X b) 13) z1 z2) 110 (pz_mul (rw13 (X a)) (rw13 (X b))) 25) (xup (xup (xup X 20 2 ((fdg (X a) 13 : Int) - 1)) 50 2 ((fdg (X b) 13 : Int) - 1)) 110 2 ((fdg (pz_mul (rw13 (X a)) (rw13 (X b))) 25 : Int) - 1)) h2 ∧ r = (.inl (some (.int (jn 1))), h2)) := by
  have p20 : cL (20 + 3) = 13 := mK_z.1
  have p50 : cL (50 + 3) = 13 := mK_z.2.1
  have p110 : cL (110 + 3) = 25 := mK_z.2.2.2.1
  have eA : pcs (pfl (pfl V 20 (X a) 13) 50 (X b) 13) 20 = rw13 (X a) := funext fun i => by
    unfold pcs rw13
    rw [p20]
    split
    · rw [pfl_off _ _ _ (by omega), pfl_at _ _ _ (by omega)]
    · rfl
  have eB : pcs (pfl (pfl V 20 (X a) 13) 50 (X b) 13) 50 = rw13 (X b) := funext fun i => by
    unfold pcs rw13
    rw [p50]
    split
    · rw [pfl_at _ _ _ (by omega)]
    · rfl
  have hA := fdg_le (X a) 13
  have hB := fdg_le (X b) 13
  have bd : ∀ A : Nat → Int, sml A → ∀ i, (rw13 A i).natAbs ≤ 999999999999999999 := fun A hA i => by
    unfold rw13
    split
    · exact hA i (by omega)
    · decide
  refine (mD_times (D := D) (t := 110) m (da := fdg (X a) 13) (db := fdg (X b) 13) (al := 999999999999999999) (be := 999999999999999999) (c := 6) cq_d110 (Or.inr rfl) ((xup_ne _ _ (Or.inl (by decide))).trans (xup_at _ _ _ _)) (xup_at _ _ _ _) hA hB (fun i h1 h2 => ?_) (fun i => ?_) (fun i => ?_) (by decide) (fun e he => ?_) fit_mul (jB_15 (m := 3) (by decide +kernel) (by decide)) (jB_15 (m := 3) (by decide +kernel) (by decide)) (fun i h1 h2 => ?_)).to (fun r hr => ?_)
  · rw [pfl_at _ _ _ h2]
    exact fdg_zero _ _ _ h1 h2
  · rw [eA]
    exact bd _ hb_a i
  · rw [eB]
    exact bd _ hb_b i
  · exact Nat.le_of_eq (mK_z.2.2.2.2.2.1 e (by omega)).symm
  · rw [pfl_off _ _ _ (by omega), pfl_at _ _ _ h2]
    exact fdg_zero _ _ _ h1 h2
  · rw [eA, eB, p110] at hr
    rcases hr with ⟨_, h1⟩ | ⟨h1, _⟩
    · exact h1
    · omega
theorem mD_mulRows (m : jM g n V X h) (ka : cK a = 2) (kb : cK b = 2) (hb_a : sml (X a)) (hb_b : sml (X b)) (kr : cK r = 2) : mj_Ok (D + 4) 11 [.ref 19, .ref a, .ref b, .ref r] h (fun z => ∃ V2 X2 h2, jM g n V2 X2 h2 ∧ dF V V2 ∧ xF (fun x => x = r) X X2 ∧ ((fit13 (pz_mul (rw13 (X a)) (rw13 (X b))) ∧ z = (.inl (some (.int (jn 1))), h2) ∧ ∀ i, i < 13 → X2 r i = (pz_mul (rw13 (X a)) (rw13 (X b))) i) ∨ (¬ fit13 (pz_mul (rw13 (X a)) (rw13 (X b))) ∧ z = (.inl (some (.int (jn 0))), h2)))) := by
  refine mj_Ok.of (M := mj_m11) rfl rfl rfl ?_
  refine mj_T.pl rfl rfl rfl rfl ?_
  refine mT_get m 11 cq_d19 (by decide) rfl rfl ?_
  refine mj_T.pl rfl rfl rfl rfl ?_
  refine jT.lc 1 rfl rfl ?_
  refine mj_T.call rfl rfl (Nat.le_of_ble_eq_true rfl) (Nat.le_of_ble_eq_true rfl) (mV_of m 13 cq_d20 (by decide) rfl (by decide) rfl _) rfl (mj_Ok.up (by omega) (mP_load1 (D := 0) m cq_d20 ka (by decide +kernel) (by exact hb_a) (fun i hi => by have := mK_z.2.2.2.2.1 i hi; omega))) (fun v g1 hq => ?_) (fun i g1 hq => ?_)
  rotate_left
  · obtain ⟨_, _, hq⟩ := hq; cases hq
  obtain ⟨_, m2, hq⟩ := hq
  cases hq
  refine mj_T.eq (pc2 := 9) (st2 := []) ?_ rfl rfl rfl rfl
  refine mj_T.pl rfl rfl rfl rfl ?_
  refine mT_get m2 11 cq_d19 (by decide) rfl rfl ?_
  refine mj_T.pl rfl rfl rfl rfl ?_
  refine jT.lc 1 rfl rfl ?_
  refine mj_T.call rfl rfl (Nat.le_of_ble_eq_true rfl) (Nat.le_of_ble_eq_true rfl) (mV_of m2 13 cq_d50 (by decide) rfl (by decide) rfl _) rfl (mj_Ok.up (by omega) (mP_load1 (D := 0) m2 cq_d50 kb (by decide +kernel) (by rw [show (xup X 20 2 ((fdg (X a) 13 : Int) - 1)) b = X b from (funext fun j => xup_ne _ _ (Or.inl (kR_ne kb).1))]; exact hb_b) (fun i hi => by have := mK_z.2.2.2.2.1 i hi; omega))) (fun v g3 hq => ?_) (fun i g3 hq => ?_)
  rotate_left
  · obtain ⟨_, _, hq⟩ := hq; cases hq
  obtain ⟨_, m4, hq⟩ := hq
  cases hq
  rw [show (xup X 20 2 ((fdg (X a) 13 : Int) - 1)) b = X b from (funext fun j => xup_ne _ _ (Or.inl (kR_ne kb).1))] at m4
  refine mj_T.eq (pc2 := 18) (st2 := []) ?_ rfl rfl rfl rfl
  iterate 2 refine mj_T.pl rfl rfl rfl rfl ?_
  refine mT_get m4 11 cq_d19 (by decide) rfl rfl ?_
  refine mj_T.pl rfl rfl rfl rfl ?_
  refine mT_get m4 11 cq_d19 (by decide) rfl rfl ?_
  refine mj_T.pl rfl rfl rfl rfl ?_
  refine mT_get m4 11 cq_d19 (by decide) rfl rfl ?_
  have kn := kR_ne kr
  refine mj_T.call rfl rfl (Nat.le_of_ble_eq_true rfl) (Nat.le_of_ble_eq_true rfl) (mV_of m4 11 cq_d19 (by decide) rfl (by decide) rfl _) rfl (mD_times2 (D := D) m4 ka kb hb_a hb_b) (fun v g1 hq => ?_) (fun i g1 hq => ?_)
  rotate_left
  · obtain ⟨_, _, _, _, hq⟩ := hq; cases hq
  obtain ⟨z1, z2, _, m9, hq⟩ := hq
  cases hq
  refine mj_T.eq (pc2 := 34) (st2 := [.int (jn 1)]) ?_ rfl rfl rfl rfl
  refine mj_T.if0 (a := 1) rfl ⟨by omega, by omega⟩ (fun c41 => ?_) (fun c41 => ?_)
  · exfalso
    simp [jc] at c41
  · simp only [jc, Bool.not_eq_true', Bool.not_eq_false', decide_eq_true_eq, decide_eq_false_iff_not] at c41
    refine mj_T.pl rfl rfl rfl rfl ?_
    refine mT_get m9 11 cq_d19 (by decide) rfl rfl ?_
    refine mj_T.pl rfl rfl rfl rfl ?_
    have p110 : cL (110 + 3) = 25 := mK_z.2.2.2.1
    have hfi := pok_fit (V := (pfl (scr (pfl (pfl V 20 (X a) 13) 50 (X b) 13) z1 z2) 110 (pz_mul (rw13 (X a)) (rw13 (X b))) 25)) (p := 110) (m := 25) p110.symm (by decide) (pz_mul (rw13 (X a)) (rw13 (X b))) (fun i hi => pfl_at _ _ _ hi) (fun i hi => pz_mul_out hi)
    have hd : dF V (pfl (scr (pfl (pfl V 20 (X a) 13) 50 (X b) 13) z1 z2) 110 (pz_mul (rw13 (X a)) (rw13 (X b))) 25) := (dF.pfl (by omega)).tr ((dF.pfl (by omega)).tr ((dF.scr _ z1 z2).tr (dF.pfl (by omega))))
    have hx : xF (fun x => x = r) X (xup (xup (xup X 20 2 ((fdg (X a) 13 : Int) - 1)) 50 2 ((fdg (X b) 13 : Int) - 1)) 110 2 ((fdg (pz_mul (rw13 (X a)) (rw13 (X b))) 25 : Int) - 1)) := (xF.deg (by omega)).tr ((xF.deg (by omega)).tr (xF.deg (by omega)))
    refine mj_T.call rfl rfl (Nat.le_of_ble_eq_true rfl) (Nat.le_of_ble_eq_true rfl) (mV_of m9 13 cq_d110 (by decide) rfl (by decide) rfl _) rfl (mj_Ok.up (by omega) (mP_store (D := 0) m9 cq_d110 (pcl_pfl (by omega) (fun e _ => mul_cl hb_a hb_b e)) kr (by omega))) (fun v g1 hq => ?_) (fun i g1 hq => ?_)
    rotate_left
    · rcases hq with ⟨_, _, _, hq⟩ | ⟨_, hq⟩ <;> cases hq
    rcases hq with ⟨ho, _, m8, hq⟩ | ⟨ho, hq⟩
    · cases hq
      refine mj_T.eq (pc2 := 45) (st2 := [.int (jn 1)]) ?_ rfl rfl rfl rfl
      refine mj_T.if0 (a := 1) rfl ⟨by omega, by omega⟩ (fun c82 => ?_) (fun c82 => ?_)
      · exfalso
        simp [jc] at c82
      · simp only [jc, Bool.not_eq_true', Bool.not_eq_false', decide_eq_true_eq, decide_eq_false_iff_not] at c82
        iterate 2 refine mj_T.pl rfl rfl rfl rfl ?_
        refine mj_T.ret rfl rfl rfl ⟨_, _, _, m8, hd, hx.tr (xF.row (S := fun x => x = r) rfl), Or.inl ⟨hfi.mp ho, rfl, fun i hi => ?_⟩⟩
        rw [xfl_at _ _ _ hi]
        exact pfl_at _ _ _ (by omega)
    · cases hq
      refine mj_T.eq (pc2 := 45) (st2 := [.int (jn 0)]) ?_ rfl rfl rfl rfl
      refine mj_T.if0 (a := 0) rfl ⟨by omega, by omega⟩ (fun c81 => ?_) (fun c81 => ?_)
      · simp only [jc, Bool.not_eq_true', Bool.not_eq_false', decide_eq_true_eq, decide_eq_false_iff_not] at c81
        refine mj_T.pl rfl rfl rfl rfl ?_
        exact mj_T.ret rfl rfl rfl ⟨_, _, _, m9, hd, hx, Or.inr ⟨fun q => ho (hfi.mpr q), rfl⟩⟩
      · exfalso
        simp [jc] at c81
end MMR
