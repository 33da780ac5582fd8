/-! The desk of the class, exactly: a step of an elimination. -/
/-- the desk's two numbers -/
def scr (V : Nat → Int) (z1 z2 : Int) : Nat → Int := jvu (jvu V 164 z1) 166 z2
theorem scr_self (V : Nat → Int) : scr V (V 164) (V 166) = V := funext fun a => by
  simp only [scr, jvu]
  split
  · rename_i e
    rw [e]
  · split
    · rename_i e
      rw [e]
    · rfl
theorem scr_scr (V : Nat → Int) (a b c d : Int) : scr (scr V a b) c d = scr V c d := funext fun x => by
  simp only [scr, jvu]
  (repeat' split) <;> rfl
theorem scr_off (V : Nat → Int) (z1 z2 : Int) {a : Nat} (h1 : a ≠ 164) (h2 : a ≠ 166) : scr V z1 z2 a = V a := by
  unfold scr
  rw [jvu_ne _ _ _ h2, jvu_ne _ _ _ h1]
theorem scr_1 (V : Nat → Int) (z1 z2 : Int) : scr V z1 z2 164 = z1 := by
  unfold scr
  rw [jvu_ne _ _ _ (by decide), jvu_at]
theorem scr_2 (V : Nat → Int) (z1 z2 : Int) : scr V z1 z2 166 = z2 := by
  unfold scr
  rw [jvu_at]
theorem scr_p1 (V : Nat → Int) (z1 z2 A : Int) : jvu (scr V z1 z2) 164 A = scr V A z2 := funext fun x => by
  simp only [scr, jvu]
  (repeat' split) <;> first | rfl | omega
theorem scr_p2 (V : Nat → Int) (z1 z2 A : Int) : jvu (scr V z1 z2) 166 A = scr V z1 A := funext fun x => by
  simp only [scr, jvu]
  (repeat' split) <;> first | rfl | omega
theorem pfl_jvu {V : Nat → Int} {p a k : Nat} {w : Nat → Int} {v : Int} (h : a < p + 4 ∨ p + 4 + 2 * k ≤ a) : jvu (pfl V p w k) a v = pfl (jvu V a v) p w k := funext fun x => by
  simp only [pfl, jvu]
  by_cases c : x = a
  · rw [if_pos c, if_neg (by omega), if_pos c]
  · rw [if_neg c]
    by_cases d : p + 4 ≤ x ∧ x < p + 4 + 2 * k ∧ (x - p) % 2 = 0
    · rw [if_pos d, if_pos d]
    · rw [if_neg d, if_neg d, if_neg c]
theorem pfl_upd {V : Nat → Int} {p k e : Nat} {w : Nat → Int} {v : Int} (h : e < k) : jvu (pfl V p w k) (p + 4 + 2 * e) v = pfl V p (jvu w e v) k := funext fun x => by
  simp only [pfl, jvu]
  by_cases c : x = p + 4 + 2 * e
  · rw [if_pos c, if_pos (by omega), if_pos (by omega)]
  · rw [if_neg c]
    by_cases d : p + 4 ≤ x ∧ x < p + 4 + 2 * k ∧ (x - p) % 2 = 0
    · rw [if_pos d, if_pos d, if_neg (by omega)]
    · rw [if_neg d, if_neg d]
theorem pfl_congr {V : Nat → Int} {p k : Nat} {w w' : Nat → Int} (h : ∀ e, e < k → w' e = w e) : pfl V p w' k = pfl V p w k := funext fun x => by
  unfold pfl
  split
  · rw [h _ (by omega)]
  · rfl
theorem lk_off {V : Nat → Int} {z1 z2 : Int} {p k a : Nat} {w : Nat → Int} (h : a < p + 4 ∨ p + 4 + 2 * k ≤ a) (h1 : a ≠ 164) (h2 : a ≠ 166) : pfl (scr V z1 z2) p w k a = V a := by
  rw [pfl_off _ _ _ h, scr_off _ _ _ h1 h2]
theorem lk_1 {V : Nat → Int} {z1 z2 : Int} {p k : Nat} {w : Nat → Int} (h : 164 < p + 4 ∨ p + 4 + 2 * k ≤ 164) : pfl (scr V z1 z2) p w k 164 = z1 := by
  rw [pfl_off _ _ _ h, scr_1]
theorem lk_2 {V : Nat → Int} {z1 z2 : Int} {p k : Nat} {w : Nat → Int} (h : 166 < p + 4 ∨ p + 4 + 2 * k ≤ 166) : pfl (scr V z1 z2) p w k 166 = z2 := by
  rw [pfl_off _ _ _ h, scr_2]
theorem lk_p1 {V : Nat → Int} {z1 z2 A : Int} {p k : Nat} {w : Nat → Int} (h : 164 < p + 4 ∨ p + 4 + 2 * k ≤ 164) : jvu (pfl (scr V z1 z2) p w k) 164 A = pfl (scr V A z2) p w k := by
  rw [pfl_jvu h, scr_p1]
theorem lk_p2 {V : Nat → Int} {z1 z2 A : Int} {p k : Nat} {w : Nat → Int} (h : 166 < p + 4 ∨ p + 4 + 2 * k ≤ 166) : jvu (pfl (scr V z1 z2) p w k) 166 A = pfl (scr V z1 A) p w k := by
  rw [pfl_jvu h, scr_p2]
theorem jnl_mulB {a b : Int} {al be m : Nat} (ha : a.natAbs ≤ al) (hb : b.natAbs ≤ be) (h : al * be < jB ^ m) : jnl (a * b).natAbs ≤ m := by
  rw [jnl_le_lt, Int.natAbs_mul]
  exact Nat.lt_of_le_of_lt (Nat.mul_le_mul ha hb) h
theorem jnl_B {a : Int} {al m : Nat} (ha : a.natAbs ≤ al) (h : al < jB ^ m) : jnl a.natAbs ≤ m := jnl_le_lt.mpr (by omega)
/-- a step of an elimination -/
def elw (F B : Nat → Int) (db s : Nat) : Nat → Int := fun e => if e ≤ db + s then B db * F e - F (db + s) * (if e < s then 0 else B (e - s)) else F e
theorem elw_abs {F B : Nat → Int} {db s al be : Nat} (hF : ∀ e, (F e).natAbs ≤ al) (hB : ∀ e, (B e).natAbs ≤ be) (h1 : 1 ≤ be) (e : Nat) : (elw F B db s e).natAbs ≤ 2 * (al * be) := by
  unfold elw
  have a1 := Nat.mul_le_mul (hB db) (hF e)
  have a2 : (F (db + s) * (if e < s then 0 else B (e - s))).natAbs ≤ al * be := by
    rw [Int.natAbs_mul]
    exact Nat.mul_le_mul (hF _) (by split; exact Nat.zero_le _; exact hB _)
  rw [← Int.natAbs_mul, Nat.mul_comm be al] at a1
  split
  · omega
  · have := hF e
    have a3 : al ≤ al * be := Nat.le_mul_of_pos_right _ h1
    omega
section MEL
variable {g h : mj_H} {n D p : Nat} {V : Nat → Int} {X : Nat → Nat → Int}
theorem mD_elim_loop {db s al be : Nat} (kp : cK p = 13) (hp : p ≠ 80) (hd : X p 2 = (db : Int)) (hdb : db < cL (p + 3)) (hs : db + s < 13) (hF : ∀ e, e < 13 → (V (80 + 4 + 2 * e)).natAbs ≤ al) (hB : ∀ e, e < cL (p + 3) → (V (p + 4 + 2 * e)).natAbs ≤ be) (hfit : 2 * (al * be) < jB ^ 236) (hc1 : al < jB ^ 1500) (hc2 : be < jB ^ 1500) {Q : mj_R → Prop} (hend : ∀ (z1 z2 : Int) (l7 : Option Value) (h : mj_H), jM g n (pfl (scr V z1 z2) 80 (elw (pco V 80) (pco V p) db s) (db + s)) X h → mj_T (D + 2) mj_m17 101 [some (.ref 19), some (.ref 80), some (.ref p), some (.int (jn (s : Int))), some (.ref (80 + 4 + 2 * (db + s))), some (.ref (p + 4 + 2 * db)), some (.int (jn ((db + s : Nat) : Int))), l7] [] h Q) : ∀ k i, i + k = db + s → ∀ (z1 z2 : Int) (l7 : Option Value) (h : mj_H), jM g n (pfl (scr V z1 z2) 80 (elw (pco V 80) (pco V p) db s) i) X h → mj_T (D + 2) mj_m17 21 [some (.ref 19), some (.ref 80), some (.ref p), some (.int (jn (s : Int))), some (.ref (80 + 4 + 2 * (db + s))), some (.ref (p + 4 + 2 * db)), some (.int (jn (i : Int))), l7] [] h Q
  | 0, i, hi, z1, z2, l7, h, m => by
    have hbp := (mK_p kp).2.2.1
    iterate 2 refine mj_T.pl rfl rfl rfl rfl ?_
    refine mT_get (v := .int (jn ((db : Nat) : Int))) m 13 kp (by decide) rfl (congrArg (fun z : Int => some (Value.int (jn z))) (hd)) ?_
    refine mj_T.pl rfl rfl rfl rfl ?_
    refine mj_T.iadd (a := ((db : Nat) : Int)) (b := ((s : Nat) : Int)) rfl ?_
    refine mj_T.icmp (a := ((i : Nat) : Int)) (b := (((db : Nat) : Int) + ((s : Nat) : Int))) rfl ⟨by omega, by omega⟩ ⟨by omega, by omega⟩ (fun c1 => ?_) (fun c1 => ?_)
    · simp only [jc, Bool.not_eq_true', Bool.not_eq_false', decide_eq_true_eq, decide_eq_false_iff_not] at c1
      rw [show i = db + s by omega] at m ⊢
      exact hend z1 z2 l7 _ m
    · exfalso
      simp only [jc, Bool.not_eq_true', Bool.not_eq_false', decide_eq_true_eq, decide_eq_false_iff_not] at c1
      omega
  | k + 1, i, hi, z1, z2, l7, h, m => by
    have hbp := (mK_p kp).2.2.1
    have hf := mP_far kp cq_d80 hp
    have hpp := mP_pos kp
    have h83 : cL (80 + 3) = 13 := mK_z.2.2.1
    have c1 : cL (164 + 1) = 240 := mK_z.2.2.2.2.2.2.2.1
    have c2 : cL (166 + 1) = 240 := mK_z.2.2.2.2.2.2.2.2.1
    have c3 := (mK_z.2.2.2.2.1 i (by omega)).2.2
    rw [h83] at hf
    have hfit1 : al * be < jB ^ 236 := by omega
    have a1 := Nat.mul_le_mul (hF i (by omega)) (hB db hdb)
    rw [← Int.natAbs_mul] at a1
    have hr1 : jnl (V (80 + 4 + 2 * i) * V (p + 4 + 2 * db)).natAbs ≤ 236 := jnl_B a1 hfit1
    have hr2 : s ≤ i → jnl (V (80 + 4 + 2 * i) * V (p + 4 + 2 * db) + -1 * (V (80 + 4 + 2 * (db + s)) * V (p + 4 + 2 * (i - s)))).natAbs ≤ 236 := fun hsi => by
      have a2 := Nat.mul_le_mul (hF (db + s) (by omega)) (hB (i - s) (by omega))
      rw [← Int.natAbs_mul] at a2
      exact jnl_B (al := 2 * (al * be)) (by omega) hfit
    have hw : elw (pco V 80) (pco V p) db s i = if i < s then V (80 + 4 + 2 * i) * V (p + 4 + 2 * db) else V (80 + 4 + 2 * i) * V (p + 4 + 2 * db) + -1 * (V (80 + 4 + 2 * (db + s)) * V (p + 4 + 2 * (i - s))) := by
      unfold elw pco
      rw [if_pos (by omega), Int.mul_comm (V (p + 4 + 2 * db))]
      split
      · rw [Int.mul_zero, Int.sub_zero]
      · omega
    iterate 2 refine mj_T.pl rfl rfl rfl rfl ?_
    refine mT_get (v := .int (jn ((db : Nat) : Int))) m 13 kp (by decide) rfl (congrArg (fun z : Int => some (Value.int (jn z))) (hd)) ?_
    refine mj_T.pl rfl rfl rfl rfl ?_
    refine mj_T.iadd (a := ((db : Nat) : Int)) (b := ((s : Nat) : Int)) rfl ?_
    refine mj_T.icmp (a := ((i : Nat) : Int)) (b := (((db : Nat) : Int) + ((s : Nat) : Int))) rfl ⟨by omega, by omega⟩ ⟨by omega, by omega⟩ (fun c1 => ?_) (fun c1 => ?_)
    · exfalso
      simp only [jc, Bool.not_eq_true', Bool.not_eq_false', decide_eq_true_eq, decide_eq_false_iff_not] at c1
      omega
    · simp only [jc, Bool.not_eq_true', Bool.not_eq_false', decide_eq_true_eq, decide_eq_false_iff_not] at c1
      iterate 2 refine mj_T.pl rfl rfl rfl rfl ?_
      refine mj_T.call rfl rfl (Nat.le_of_ble_eq_true rfl) (Nat.le_of_ble_eq_true rfl) (mV_of m 13 cq_d80 (by decide) rfl (by decide) rfl _) rfl (mj_Ok.up (by omega) (mP_at (D := 0) m cq_d80 (e := i) (by omega))) (fun v g2 hq => ?_) (fun i g2 hq => ?_)
      rotate_left
      · cases hq
      cases hq
      refine mj_T.eq (pc2 := 38) (st2 := [.ref (80 + 4 + 2 * i)]) ?_ rfl rfl rfl rfl
      refine mj_T.pl (loc' := [some (.ref 19), some (.ref 80), some (.ref p), some (.int (jn ((s : Nat) : Int))), some (.ref (80 + 4 + 2 * (db + s))), some (.ref (p + 4 + 2 * db)), some (.int (jn ((i : Nat) : Int))), some (.ref (80 + 4 + 2 * i))]) rfl rfl rfl rfl ?_
      refine mj_T.pl rfl rfl rfl rfl ?_
      refine mT_get m 11 cq_d19 (by decide) rfl rfl ?_
      iterate 2 refine mj_T.pl rfl rfl rfl rfl ?_
      refine mj_T.call rfl rfl (Nat.le_of_ble_eq_true rfl) (Nat.le_of_ble_eq_true rfl) (mV_of m 18 cq_d164 (by decide) rfl (by decide) rfl _) rfl (mj_Ok.up (by omega) (mW_setProduct (D := 0) m cq_d164 ((mK_p cq_d80).2.2.2 _ (by omega)) ((mK_p kp).2.2.2 _ (by omega)) (by omega) (by omega) (by omega) (by rw [lk_off (a := 80 + 4 + 2 * i) (by omega) (by omega) (by omega), lk_off (a := p + 4 + 2 * db) (by omega) (by omega) (by omega)]; exact Nat.le_trans (jnl_mulB (hF i (by omega)) (hB db hdb) hfit1) (by omega)) (hca := by rw [lk_off (a := 80 + 4 + 2 * i) (by omega) (by omega) (by omega)]; exact jnl_B (hF i (by omega)) hc1) (hcb := by rw [lk_off (a := p + 4 + 2 * db) (by omega) (by omega) (by omega)]; exact jnl_B (hB db hdb) hc2))) (fun v g3 hq => ?_) (fun i g3 hq => ?_)
      rotate_left
      · obtain ⟨_, _, hq⟩ := hq; cases hq
      obtain ⟨_, m4, hq⟩ := hq
      cases hq
      rw [lk_off (a := 80 + 4 + 2 * i) (by omega) (by omega) (by omega), lk_off (a := p + 4 + 2 * db) (by omega) (by omega) (by omega), lk_p1 (by omega)] at m4
      refine mj_T.eq (pc2 := 51) (st2 := []) ?_ rfl rfl rfl rfl
      iterate 2 refine mj_T.pl rfl rfl rfl rfl ?_
      refine mj_T.icmp (a := ((i : Nat) : Int)) (b := ((s : Nat) : Int)) rfl ⟨by omega, by omega⟩ ⟨by omega, by omega⟩ (fun c5 => ?_) (fun c5 => ?_)
      · simp only [jc, Bool.not_eq_true', Bool.not_eq_false', decide_eq_true_eq, decide_eq_false_iff_not] at c5
        iterate 2 refine mj_T.pl rfl rfl rfl rfl ?_
        refine mT_get m4 11 cq_d19 (by decide) rfl rfl ?_
        refine mj_T.call rfl rfl (Nat.le_of_ble_eq_true rfl) (Nat.le_of_ble_eq_true rfl) (mV_of m4 18 ((mK_p cq_d80).2.2.2 _ (by omega)) (by decide) rfl (by decide) rfl _) rfl (mj_Ok.up (by omega) (mW_set (D := 0) m4 ((mK_p cq_d80).2.2.2 _ (by omega)) cq_d164 (by omega) (by rw [lk_1 (by omega)]; exact Nat.le_trans hr1 (by omega)))) (fun v g6 hq => ?_) (fun i g6 hq => ?_)
        rotate_left
        · obtain ⟨_, _, hq⟩ := hq; cases hq
        obtain ⟨_, m7, hq⟩ := hq
        cases hq
        rw [lk_1 (by omega)] at m7
        refine mj_T.eq (pc2 := 95) (st2 := []) ?_ rfl rfl rfl rfl
        refine mj_T.iinc rfl rfl ?_
        rw [show ((i : Nat) : Int) + 1 = ((i + 1 : Nat) : Int) by omega]
        refine mj_T.eq (loc2 := [some (.ref 19), some (.ref 80), some (.ref p), some (.int (jn ((s : Nat) : Int))), some (.ref (80 + 4 + 2 * (db + s))), some (.ref (p + 4 + 2 * db)), some (.int (jn (((i + 1) : Nat) : Int))), some (.ref (80 + 4 + 2 * i))]) ?_ rfl rfl rfl rfl
        refine mj_T.pl rfl rfl rfl rfl ?_
        refine mD_elim_loop kp hp hd hdb hs hF hB hfit hc1 hc2 hend k (i + 1) (by omega) (V (80 + 4 + 2 * i) * V (p + 4 + 2 * db)) z2 (some (.ref (80 + 4 + 2 * i))) _ (m7.to ?_ rfl)
        rw [pfl_succ]
        congr 1
        rw [hw, if_pos (by omega)]
      · simp only [jc, Bool.not_eq_true', Bool.not_eq_false', decide_eq_true_eq, decide_eq_false_iff_not] at c5
        refine mj_T.pl rfl rfl rfl rfl ?_
        refine mT_get m4 11 cq_d19 (by decide) rfl rfl ?_
        iterate 4 refine mj_T.pl rfl rfl rfl rfl ?_
        refine mj_T.isub (a := ((i : Nat) : Int)) (b := ((s : Nat) : Int)) rfl ?_
        rw [show (((i : Nat) : Int) - ((s : Nat) : Int)) = (((i - s) : Nat) : Int) by omega]
        refine mj_T.call rfl rfl (Nat.le_of_ble_eq_true rfl) (Nat.le_of_ble_eq_true rfl) (mV_of m4 13 kp (by decide) rfl (by decide) rfl _) rfl (mj_Ok.up (by omega) (mP_at (D := 0) m4 kp (e := (i - s)) (by omega))) (fun v g8 hq => ?_) (fun i g8 hq => ?_)
        rotate_left
        · cases hq
        cases hq
        refine mj_T.eq (pc2 := 71) (st2 := [.ref (p + 4 + 2 * (i - s)), .ref (80 + 4 + 2 * (db + s)), .ref 166]) ?_ rfl rfl rfl rfl
        refine mj_T.call rfl rfl (Nat.le_of_ble_eq_true rfl) (Nat.le_of_ble_eq_true rfl) (mV_of m4 18 cq_d166 (by decide) rfl (by decide) rfl _) rfl (mj_Ok.up (by omega) (mW_setProduct (D := 0) m4 cq_d166 ((mK_p cq_d80).2.2.2 _ (by omega)) ((mK_p kp).2.2.2 _ (by omega)) (by omega) (by omega) (by omega) (by rw [lk_off (a := 80 + 4 + 2 * (db + s)) (by omega) (by omega) (by omega), lk_off (a := p + 4 + 2 * (i - s)) (by omega) (by omega) (by omega)]; exact Nat.le_trans (jnl_mulB (hF (db + s) (by omega)) (hB (i - s) (by omega)) hfit1) (by omega)) (hca := by rw [lk_off (a := 80 + 4 + 2 * (db + s)) (by omega) (by omega) (by omega)]; exact jnl_B (hF (db + s) (by omega)) hc1) (hcb := by rw [lk_off (a := p + 4 + 2 * (i - s)) (by omega) (by omega) (by omega)]; exact jnl_B (hB (i - s) (by omega)) hc2))) (fun v g9 hq => ?_) (fun i g9 hq => ?_)
        rotate_left
        · obtain ⟨_, _, hq⟩ := hq; cases hq
        obtain ⟨_, m10, hq⟩ := hq
        cases hq
        rw [lk_off (a := 80 + 4 + 2 * (db + s)) (by omega) (by omega) (by omega), lk_off (a := p + 4 + 2 * (i - s)) (by omega) (by omega) (by omega), lk_p2 (by omega)] at m10
        refine mj_T.eq (pc2 := 74) (st2 := []) ?_ rfl rfl rfl rfl
        refine mj_T.pl rfl rfl rfl rfl ?_
        refine mT_get m10 11 cq_d19 (by decide) rfl rfl ?_
        refine mj_T.pl rfl rfl rfl rfl ?_
        refine mT_get m10 11 cq_d19 (by decide) rfl rfl ?_
        refine mj_T.pl rfl rfl rfl rfl ?_
        refine mj_T.call rfl rfl (Nat.le_of_ble_eq_true rfl) (Nat.le_of_ble_eq_true rfl) (mV_of m10 18 cq_d164 (by decide) rfl (by decide) rfl _) rfl (mj_Ok.up (by omega) (mW_plus (D := 0) (f := -1) m10 cq_d164 cq_d166 (by omega) (Or.inr rfl) (by rw [lk_2 (by omega)]; exact Nat.le_trans (jnl_mulB (hF (db + s) (by omega)) (hB (i - s) (by omega)) hfit1) (by omega)) (by rw [lk_1 (by omega), lk_2 (by omega)]; exact Nat.le_trans (hr2 (by omega)) (by omega)))) (fun v g11 hq => ?_) (fun i g11 hq => ?_)
        rotate_left
        · obtain ⟨_, _, hq⟩ := hq; cases hq
        obtain ⟨_, m12, hq⟩ := hq
        cases hq
        rw [lk_1 (by omega), lk_2 (by omega), lk_p1 (by omega)] at m12
        refine mj_T.eq (pc2 := 86) (st2 := []) ?_ rfl rfl rfl rfl
        iterate 2 refine mj_T.pl rfl rfl rfl rfl ?_
        refine mT_get m12 11 cq_d19 (by decide) rfl rfl ?_
        refine mj_T.call rfl rfl (Nat.le_of_ble_eq_true rfl) (Nat.le_of_ble_eq_true rfl) (mV_of m12 18 ((mK_p cq_d80).2.2.2 _ (by omega)) (by decide) rfl (by decide) rfl _) rfl (mj_Ok.up (by omega) (mW_set (D := 0) m12 ((mK_p cq_d80).2.2.2 _ (by omega)) cq_d164 (by omega) (by rw [lk_1 (by omega)]; exact Nat.le_trans (hr2 (by omega)) (by omega)))) (fun v g13 hq => ?_) (fun i g13 hq => ?_)
        rotate_left
        · obtain ⟨_, _, hq⟩ := hq; cases hq
        obtain ⟨_, m14, hq⟩ := hq
        cases hq
        rw [lk_1 (by omega)] at m14
        refine mj_T.eq (pc2 := 95) (st2 := []) ?_ rfl rfl rfl rfl
        refine mj_T.iinc rfl rfl ?_
        rw [show ((i : Nat) : Int) + 1 = ((i + 1 : Nat) : Int) by omega]
        refine mj_T.eq (loc2 := [some (.ref 19), some (.ref 80), some (.ref p), some (.int (jn ((s : Nat) : Int))), some (.ref (80 + 4 + 2 * (db + s))), some (.ref (p + 4 + 2 * db)), some (.int (jn (((i + 1) : Nat) : Int))), some (.ref (80 + 4 + 2 * i))]) ?_ rfl rfl rfl rfl
        refine mj_T.pl rfl rfl rfl rfl ?_
        refine mD_elim_loop kp hp hd hdb hs hF hB hfit hc1 hc2 hend k (i + 1) (by omega) ((V (80 + 4 + 2 * i) * V (p + 4 + 2 * db)) + -1 * (V (80 + 4 + 2 * (db + s)) * V (p + 4 + 2 * (i - s)))) (V (80 + 4 + 2 * (db + s)) * V (p + 4 + 2 * (i - s))) (some (.ref (80 + 4 + 2 * i))) _ (m14.to ?_ rfl)
        rw [pfl_succ]
        congr 1
        rw [hw, if_neg (by omega)]
theorem pfl_jvu2 {V : Nat → Int} {p k c : Nat} {w : Nat → Int} {v : Int} (h : c < k) : jvu (pfl V p w c) (p + 4 + 2 * c) v = pfl V p (fun e => if e = c then v else if e < c then w e else V (p + 4 + 2 * e)) k := funext fun x => by
  simp only [pfl, jvu]
  by_cases q : x = p + 4 + 2 * c
  · rw [if_pos q, if_pos (by omega), if_pos (by omega)]
  · rw [if_neg q]
    by_cases r : p + 4 ≤ x ∧ x < p + 4 + 2 * k ∧ (x - p) % 2 = 0
    · by_cases t : (x - p - 4) / 2 < c
      · rw [if_pos (show p + 4 ≤ x ∧ x < p + 4 + 2 * c ∧ (x - p) % 2 = 0 by omega), if_pos r, if_neg (show ¬ (x - p - 4) / 2 = c by omega), if_pos t]
      · rw [if_neg (show ¬ (p + 4 ≤ x ∧ x < p + 4 + 2 * c ∧ (x - p) % 2 = 0) by omega), if_pos r, if_neg (show ¬ (x - p - 4) / 2 = c by omega), if_neg t, show p + 4 + 2 * ((x - p - 4) / 2) = x by omega]
    · rw [if_neg (show ¬ (p + 4 ≤ x ∧ x < p + 4 + 2 * c ∧ (x - p) % 2 = 0) by omega), if_neg r]
theorem mD_elim (m : jM g n V X h) {db s al be : Nat} (kp : cK p = 13) (hp : p ≠ 80) (hd : X p 2 = (db : Int)) (hdb : db < cL (p + 3)) (hs : db + s < 13) (hF : ∀ e, e < 13 → (V (80 + 4 + 2 * e)).natAbs ≤ al) (hB : ∀ e, e < cL (p + 3) → (V (p + 4 + 2 * e)).natAbs ≤ be) (hfit : 2 * (al * be) < jB ^ 236) (hc1 : al < jB ^ 1500) (hc2 : be < jB ^ 1500) : mj_Ok (D + 3) 17 [.ref 19, .ref 80, .ref p, .int (jn (s : Int))] h (fun r => ∃ (z1 z2 : Int) (h2 : mj_H), jM g n (pfl (scr V z1 z2) 80 (elw (pco V 80) (pco V p) db s) 13) X h2 ∧ r = (.inl none, h2)) := by
  have hbp := (mK_p kp).2.2.1
  have h83 : cL (80 + 3) = 13 := mK_z.2.2.1
  refine mj_Ok.of (M := mj_m17) rfl rfl rfl ?_
  iterate 2 refine mj_T.pl rfl rfl rfl rfl ?_
  refine mT_get (v := .int (jn ((db : Nat) : Int))) m 13 kp (by decide) rfl (congrArg (fun z : Int => some (Value.int (jn z))) (hd)) ?_
  refine mj_T.pl rfl rfl rfl rfl ?_
  refine mj_T.iadd (a := ((db : Nat) : Int)) (b := ((s : Nat) : Int)) rfl ?_
  rw [show (((db : Nat) : Int) + ((s : Nat) : Int)) = (((db + s) : Nat) : Int) by omega]
  refine mj_T.call rfl rfl (Nat.le_of_ble_eq_true rfl) (Nat.le_of_ble_eq_true rfl) (mV_of m 13 cq_d80 (by decide) rfl (by decide) rfl _) rfl (mj_Ok.up (by omega) (mP_at (D := 0) m cq_d80 (e := (db + s)) (by omega))) (fun v g1 hq => ?_) (fun i g1 hq => ?_)
  rotate_left
  · cases hq
  cases hq
  refine mj_T.eq (pc2 := 10) (st2 := [.ref (80 + 4 + 2 * (db + s))]) ?_ rfl rfl rfl rfl
  refine mj_T.pl (loc' := [some (.ref 19), some (.ref 80), some (.ref p), some (.int (jn ((s : Nat) : Int))), some (.ref (80 + 4 + 2 * (db + s))), none, none, none]) rfl rfl rfl rfl ?_
  refine mj_T.pl rfl rfl rfl rfl ?_
  refine mj_T.call rfl rfl (Nat.le_of_ble_eq_true rfl) (Nat.le_of_ble_eq_true rfl) (mV_of m 13 kp (by decide) rfl (by decide) rfl _) rfl (mj_Ok.up (by omega) (mP_lead (D := 0) m kp hd hdb)) (fun v g2 hq => ?_) (fun i g2 hq => ?_)
  rotate_left
  · cases hq
  cases hq
  refine mj_T.eq (pc2 := 16) (st2 := [.ref (p + 4 + 2 * db)]) ?_ rfl rfl rfl rfl
  refine mj_T.pl (loc' := [some (.ref 19), some (.ref 80), some (.ref p), some (.int (jn ((s : Nat) : Int))), some (.ref (80 + 4 + 2 * (db + s))), some (.ref (p + 4 + 2 * db)), none, none]) rfl rfl rfl rfl ?_
  refine mj_T.pl rfl rfl rfl rfl ?_
  refine mj_T.pl (loc' := [some (.ref 19), some (.ref 80), some (.ref p), some (.int (jn ((s : Nat) : Int))), some (.ref (80 + 4 + 2 * (db + s))), some (.ref (p + 4 + 2 * db)), some (.int (jn 0)), none]) rfl rfl rfl rfl ?_
  refine mD_elim_loop kp hp hd hdb hs hF hB hfit hc1 hc2 (fun z1 z2 l7 h1 m1 => ?_) (db + s) 0 (by omega) (V 164) (V 166) none _ (m.to (by rw [pfl_zero, scr_self]) rfl)
  refine mj_T.pl rfl rfl rfl rfl ?_
  refine jT.lc 0 rfl rfl ?_
  refine mj_T.call rfl rfl (Nat.le_of_ble_eq_true rfl) (Nat.le_of_ble_eq_true rfl) (mV_of m1 18 ((mK_p cq_d80).2.2.2 _ (by omega)) (by decide) rfl (by decide) rfl _) rfl (mj_Ok.up (by omega) (mW_setLong (D := 0) (v := ((0 : Nat) : Int)) m1 ((mK_p cq_d80).2.2.2 _ (by omega)) jR_0 (by rw [jnl_0]; omega))) (fun v g61 hq => ?_) (fun i g61 hq => ?_)
  rotate_left
  · obtain ⟨_, _, hq⟩ := hq; cases hq
  obtain ⟨_, m62, hq⟩ := hq
  cases hq
  refine mj_T.eq (pc2 := 107) (st2 := []) ?_ rfl rfl rfl rfl
  refine mj_T.ret rfl rfl rfl ⟨z1, z2, _, m62.to ?_ rfl, rfl⟩
  rw [pfl_jvu2 hs]
  refine pfl_congr (fun e he => ?_)
  by_cases q : e = db + s
  · rw [if_pos q, q]
    unfold elw
    rw [if_pos (Nat.le_refl _), if_neg (by omega), Nat.add_sub_cancel]
    show _ = ((0 : Nat) : Int)
    rw [Int.mul_comm]
    exact Int.sub_self _
  · rw [if_neg q]
    by_cases r : e < db + s
    · rw [if_pos r]
    · rw [if_neg r, scr_off _ _ _ (by omega) (by omega)]
      unfold elw
      rw [if_neg (by omega)]
      rfl
end MEL
