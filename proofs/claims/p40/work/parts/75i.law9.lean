/-! The law's loop. -/
theorem jL_sw {D : Nat} {loc : mj_L} {st : List Value} {h : mj_H} {Q : mj_R → Prop} {x : Int32} {pc' : Nat} (kk : Int) (hx : x.toInt = kk) (hp : (if kk < 0 ∨ 46 < kk then (if (0 : Int) ≤ (40 : Nat) + 2032 then some ((((40 : Nat) : Int) + 2032).toNat) else none) else match (#[204, 256, 308, 360, 412, 452, 504, 568, 620, 660, 700, 752, 836, 864, 904, 917, 945, 958, 986, 1014, 1054, 1094, 1122, 1174, 1214, 1254, 1294, 1335, 1391, 1432, 1460, 1536, 1564, 1616, 1668, 1696, 1736, 1776, 1816, 1829, 1905, 1918, 1931, 1959, 1987, 2002, 2019] : Array Int)[(kk - 0).toNat]? with | some off => (if 0 ≤ ((40 : Nat) : Int) + off then some ((((40 : Nat) : Int) + off).toNat) else none) | none => none) = some pc') (k : mj_T D mj_mK pc' loc st h Q) : mj_T D mj_mK 40 loc (.int x :: st) h Q := by
  refine mj_T.step (pc' := pc') (loc' := loc) (st' := st) (h' := h) rfl rfl ?_ k
  subst hx
  simp only [mj_step]
  revert hp
  split
  · intro hp
    split at hp
    · cases hp; rfl
    · cases hp
  · intro hp
    split at hp
    · rename_i off he
      rw [he]
      simp only
      split at hp
      · cases hp; rename_i q; rw [if_pos q]
      · cases hp
    · cases hp
theorem jL_and (x : Int32) : 0 ≤ (x &&& jn 63).toInt ∧ (x &&& jn 63).toInt ≤ 63 := by
  have h1 : (x &&& jn 63).toBitVec.toNat = x.toBitVec.toNat % 64 := by
    rw [Int32.toBitVec_and, BitVec.toNat_and, show (jn 63).toBitVec.toNat = 2 ^ 6 - 1 from by decide, Nat.and_two_pow_sub_one_eq_mod]
  have h2 : (x &&& jn 63).toInt = ((x &&& jn 63).toBitVec.toNat : Int) := by
    show (x &&& jn 63).toBitVec.toInt = _
    rw [BitVec.toInt_eq_toNat_cond, if_pos (by rw [h1]; omega)]
  rw [h2, h1]
  omega
theorem jL_round {n Lx : Nat} {xs : Nat → Int32} {tm er i : Int} {T : Nat → Int} {h : mj_H} {l5 l6 l7 l8 : Option Value} {Q : mj_R → Prop} (hi : 0 ≤ i ∧ i + 6 ≤ Lx) (hL : Lx ≤ 3072) (I : jLi cK cL cR (.inl (100, Lx, fun j => .int (xs j))) 571 563 n tm er T h) (X : jcx er tm T h) (Y : YX tm er T h) (k : ∀ (n' : Nat) (tm' er' : Int) (T' : Nat → Int) (h' : mj_H) (l5 l6 l7 l8 : Option Value), n ≤ n' → n' ≤ n + 1 → jLi cK cL cR (.inl (100, Lx, fun j => .int (xs j))) 571 563 n' tm' er' T' h' → jcx er' tm' T' h' → YX tm' er' T' h' → mj_T 100 mj_mK 2072 [some (.ref 0), some (.ref 1), some (.ref 563), some (.ref 571), some (.int (jn i)), l5, l6, l7, l8] [] h' Q) {x : Int32} (hx : 0 ≤ x.toInt ∧ x.toInt ≤ 63) : mj_T 100 mj_mK 40 [some (.ref 0), some (.ref 1), some (.ref 563), some (.ref 571), some (.int (jn i)), l5, l6, l7, l8] [.int x] h Q := by
  have hc : x.toInt = 0 ∨ x.toInt = 1 ∨ x.toInt = 2 ∨ x.toInt = 3 ∨ x.toInt = 4 ∨ x.toInt = 5 ∨ x.toInt = 6 ∨ x.toInt = 7 ∨ x.toInt = 8 ∨ x.toInt = 9 ∨ x.toInt = 10 ∨ x.toInt = 11 ∨ x.toInt = 12 ∨ x.toInt = 13 ∨ x.toInt = 14 ∨ x.toInt = 15 ∨ x.toInt = 16 ∨ x.toInt = 17 ∨ x.toInt = 18 ∨ x.toInt = 19 ∨ x.toInt = 20 ∨ x.toInt = 21 ∨ x.toInt = 22 ∨ x.toInt = 23 ∨ x.toInt = 24 ∨ x.toInt = 25 ∨ x.toInt = 26 ∨ x.toInt = 27 ∨ x.toInt = 28 ∨ x.toInt = 29 ∨ x.toInt = 30 ∨ x.toInt = 31 ∨ x.toInt = 32 ∨ x.toInt = 33 ∨ x.toInt = 34 ∨ x.toInt = 35 ∨ x.toInt = 36 ∨ x.toInt = 37 ∨ x.toInt = 38 ∨ x.toInt = 39 ∨ x.toInt = 40 ∨ x.toInt = 41 ∨ x.toInt = 42 ∨ x.toInt = 43 ∨ x.toInt = 44 ∨ x.toInt = 45 ∨ x.toInt = 46 ∨ 47 ≤ x.toInt := by omega
  rcases hc with c | c | c | c | c | c | c | c | c | c | c | c | c | c | c | c | c | c | c | c | c | c | c | c | c | c | c | c | c | c | c | c | c | c | c | c | c | c | c | c | c | c | c | c | c | c | c | c
  · exact jL_sw 0 c rfl (jL_0 hi hL I X Y k)
  · exact jL_sw 1 c rfl (jL_1 hi hL I X Y k)
  · exact jL_sw 2 c rfl (jL_2 hi hL I X Y k)
  · exact jL_sw 3 c rfl (jL_3 hi hL I X Y k)
  · exact jL_sw 4 c rfl (jL_4 hi hL I X Y k)
  · exact jL_sw 5 c rfl (jL_5 hi hL I X Y k)
  · exact jL_sw 6 c rfl (jL_6 hi hL I X Y k)
  · exact jL_sw 7 c rfl (jL_7 hi hL I X Y k)
  · exact jL_sw 8 c rfl (jL_8 hi hL I X Y k)
  · exact jL_sw 9 c rfl (jL_9 hi hL I X Y k)
  · exact jL_sw 10 c rfl (jL_10 hi hL I X Y k)
  · exact jL_sw 11 c rfl (jL_11 hi hL I X Y k)
  · exact jL_sw 12 c rfl (jL_12 hi hL I X Y k)
  · exact jL_sw 13 c rfl (jL_13 hi hL I X Y k)
  · exact jL_sw 14 c rfl (jL_14 hi hL I X Y k)
  · exact jL_sw 15 c rfl (jL_15 hi hL I X Y k)
  · exact jL_sw 16 c rfl (jL_16 hi hL I X Y k)
  · exact jL_sw 17 c rfl (jL_17 hi hL I X Y k)
  · exact jL_sw 18 c rfl (jL_18 hi hL I X Y k)
  · exact jL_sw 19 c rfl (jL_19 hi hL I X Y k)
  · exact jL_sw 20 c rfl (jL_20 hi hL I X Y k)
  · exact jL_sw 21 c rfl (jL_21 hi hL I X Y k)
  · exact jL_sw 22 c rfl (jL_22 hi hL I X Y k)
  · exact jL_sw 23 c rfl (jL_23 hi hL I X Y k)
  · exact jL_sw 24 c rfl (jL_24 hi hL I X Y k)
  · exact jL_sw 25 c rfl (jL_25 hi hL I X Y k)
  · exact jL_sw 26 c rfl (jL_26 hi hL I X Y k)
  · exact jL_sw 27 c rfl (jL_27 hi hL I X Y k)
  · exact jL_sw 28 c rfl (jL_28 hi hL I X Y k)
  · exact jL_sw 29 c rfl (jL_29 hi hL I X Y k)
  · exact jL_sw 30 c rfl (jL_30 hi hL I X Y k)
  · exact jL_sw 31 c rfl (jL_31 hi hL I X Y k)
  · exact jL_sw 32 c rfl (jL_32 hi hL I X Y k)
  · exact jL_sw 33 c rfl (jL_33 hi hL I X Y k)
  · exact jL_sw 34 c rfl (jL_34 hi hL I X Y k)
  · exact jL_sw 35 c rfl (jL_35 hi hL I X Y k)
  · exact jL_sw 36 c rfl (jL_36 hi hL I X Y k)
  · exact jL_sw 37 c rfl (jL_37 hi hL I X Y k)
  · exact jL_sw 38 c rfl (jL_38 hi hL I X Y k)
  · exact jL_sw 39 c rfl (jL_39 hi hL I X Y k)
  · exact jL_sw 40 c rfl (jL_40 hi hL I X Y k)
  · exact jL_sw 41 c rfl (jL_41 hi hL I X Y k)
  · exact jL_sw 42 c rfl (jL_42 hi hL I X Y k)
  · exact jL_sw 43 c rfl (jL_43 hi hL I X Y k)
  · exact jL_sw 44 c rfl (jL_44 hi hL I X Y k)
  · exact jL_sw 45 c rfl (jL_45 hi hL I X Y k)
  · exact jL_sw 46 c rfl (jL_46 hi hL I X Y k)
  · refine jL_sw x.toInt rfl (pc' := 2072) (by rw [if_pos (Or.inr (by omega))]; rfl) ?_
    exact k n tm er T h _ _ _ _ (Nat.le_refl n) (Nat.le_succ n) I X Y
