/-! The row of Sturm ends in what divides both, up to a factor. -/
/-- G divides x, with fractions -/
def qdv (G x : pz_P) : Prop := ∃ (c : Int) (T : pz_P) (N : Nat), c ≠ 0 ∧ pz_lt T N ∧ pz_sc c x = pz_mul T G
theorem er_rel {F B : pz_P} {db gap : Nat} (hB : ∀ i, db < i → B i = 0) (hF : ∀ i, db + gap < i → F i = 0) : ∀ k, k ≤ gap + 1 → ∃ Q : pz_P, pz_lt Q (gap + 1) ∧ pz_sc ((B db) ^ k) F = pz_add (pz_mul Q B) (er F B db gap k)
  | 0, _ => ⟨pz_0, fun _ _ => rfl, by
    rw [Int.pow_zero, pz_sc_one, pz_mul_0L]
    funext i
    show F i = 0 + F i
    omega⟩
  | k + 1, hk => by
    obtain ⟨Q, hQl, hQ⟩ := er_rel hB hF k (by omega)
    have e := (elw_top (F := er F B db gap k) (db := db) (s := gap - k) hB (fun i hi => er_top hB hF k (by omega) i (by omega))).1
    refine ⟨pz_add (pz_sc (B db) Q) (pz_mono (gap - k) (er F B db gap k (db + (gap - k)))), ?_, ?_⟩
    · refine pz_lt.add (hQl.sc _) (fun i hi => ?_)
      unfold pz_mono
      rw [if_neg (by omega)]
    rw [Int.pow_succ, Int.mul_comm]
    refine jdv_next (lc := B db) (m := gap - k) (t := er F B db gap k (db + (gap - k))) hQ rfl ?_
    funext i
    show elw (er F B db gap k) B db (gap - k) i = B db * er F B db gap k i + -1 * pz_c i (pz_mono (gap - k) (er F B db gap k (db + (gap - k)))) B
    rw [e i, pz_mono_mul]
    unfold pz_sh
    by_cases c : i < gap - k
    · rw [if_pos c, if_neg (by omega), Int.mul_zero, Int.mul_zero]
      omega
    · rw [if_neg c, if_pos (by omega)]
      omega
theorem qdv.add {G x y : pz_P} (h : qdv G x) (k : qdv G y) : qdv G (pz_add x y) := by
  obtain ⟨c, T, N, hc, hT, h⟩ := h
  obtain ⟨d, S, K, hd, hS, k⟩ := k
  refine ⟨c * d, pz_add (pz_sc d T) (pz_sc c S), N + K, Int.mul_ne_zero hc hd, pz_lt.add ((hT.sc d).mono (by omega)) ((hS.sc c).mono (by omega)), ?_⟩
  rw [pz_mul_addL, pz_mul_scL, pz_mul_scL, ← h, ← k]
  funext i
  show c * d * (x i + y i) = d * (c * x i) + c * (d * y i)
  rw [Int.mul_add]
  have e1 : c * d * x i = d * (c * x i) := by ac_rfl
  have e2 : c * d * y i = c * (d * y i) := by ac_rfl
  rw [e1, e2]
theorem qdv.sc {G x : pz_P} (h : qdv G x) (a : Int) : qdv G (pz_sc a x) := by
  obtain ⟨c, T, N, hc, hT, h⟩ := h
  refine ⟨c, pz_sc a T, N, hc, hT.sc a, ?_⟩
  rw [pz_mul_scL, ← h, pz_sc_sc, pz_sc_sc, Int.mul_comm]
theorem qdv.un {G x : pz_P} {a : Int} (ha : a ≠ 0) (h : qdv G (pz_sc a x)) : qdv G x := by
  obtain ⟨c, T, N, hc, hT, h⟩ := h
  exact ⟨c * a, T, N, Int.mul_ne_zero hc ha, hT, by rw [← pz_sc_sc]; exact h⟩
theorem qdv.mul {G x Q : pz_P} {K : Nat} (h : qdv G x) (hQ : pz_lt Q K) : qdv G (pz_mul Q x) := by
  obtain ⟨c, T, N, hc, hT, h⟩ := h
  refine ⟨c, pz_mul Q T, K + N, hc, pz_lt.mul hQ hT (by omega), ?_⟩
  rw [pz_mul_assoc, ← h, pz_mul_scR]
theorem qdv.pm {G x y : pz_P} (h : qdv G x) (p : pm x y) : qdv G y := by
  rcases p with p | p
  · rw [← funext p]
    exact h
  · have : y = pz_sc (-1) x := funext fun i => by
      show y i = -1 * x i
      rw [p i]
      omega
    rw [this]
    exact h.sc _
/-- X and Y have the same common divisors as A and B -/
def CD (A B X Y : pz_P) : Prop := ∀ G : pz_P, (qdv G A ∧ qdv G B) ↔ (qdv G X ∧ qdv G Y)
theorem CD.start (A B : pz_P) : CD A B A B := fun G => Iff.rfl
theorem qdv_rem {X Y R Q G : pz_P} {c : Int} {K : Nat} (hc : c ≠ 0) (hQ : pz_lt Q K) (h : pz_sc c X = pz_add (pz_mul Q Y) R) (hY : qdv G Y) : qdv G X ↔ qdv G R := by
  constructor
  · intro hX
    have e : R = pz_add (pz_sc c X) (pz_sc (-1) (pz_mul Q Y)) := by
      rw [h]
      funext i
      show R i = pz_mul Q Y i + R i + -1 * pz_mul Q Y i
      omega
    rw [e]
    exact (hX.sc c).add ((hY.mul hQ).sc _)
  · intro hR
    refine qdv.un hc ?_
    rw [h]
    exact (hY.mul hQ).add hR
/-- one step of the row -/
theorem CD.next {A B X Y F : pz_P} {m n dx dy : Nat} {la ps : Int} (r : RI A B m n X Y dx dy la ps) (h1 : 1 ≤ dy) (hF : pm F (rdv X Y dx dy la ps)) (k : CD A B X Y) : CD A B Y F := fun G => by
  obtain ⟨d1, d2⟩ := r.div h1
  obtain ⟨r1, r2, r3, r4, r5, r6, r7, r8⟩ := r
  have hRF : pm (er X Y dy (dx - dy) (dx - dy + 1)) (pz_sc (la * ps ^ (dx - dy)) F) := d2.tr ((d1.sy.tr hF.sy).sc _)
  have hl : la * ps ^ (dx - dy) ≠ 0 := Int.mul_ne_zero (by omega) (Int.pow_ne_zero (by omega))
  obtain ⟨Q, hQl, hQ⟩ := er_rel (F := X) (B := Y) (db := dy) (gap := dx - dy) r2 (fun i hi => r1 i (by omega)) (dx - dy + 1) (Nat.le_refl _)
  have hc : (Y dy) ^ (dx - dy + 1) ≠ 0 := Int.pow_ne_zero r3
  rw [k G]
  constructor
  · rintro ⟨hX, hY⟩
    exact ⟨hY, qdv.un hl ((((qdv_rem hc hQl hQ hY).mp hX)).pm hRF)⟩
  · rintro ⟨hY, hFF⟩
    exact ⟨(qdv_rem hc hQl hQ hY).mpr ((hFF.sc _).pm hRF.sy), hY⟩
theorem pz_one_mul (G : pz_P) : pz_mul pz_one G = G := funext fun i => by
  show pz_c i pz_one G = G i
  rw [pz_c_zs, zs_one (p := 0) (by omega) (fun j hj hn => by
    show (if j = 0 then (1 : Int) else 0) * _ = 0
    rw [if_neg hn, Int.zero_mul])]
  show 1 * G (i - 0) = G i
  rw [Int.one_mul, Nat.sub_zero]
theorem qdv.rf (G : pz_P) : qdv G G := ⟨1, pz_one, 1, by decide, fun i hi => if_neg (by omega), by
  rw [pz_sc_one, pz_one_mul]⟩
theorem qdv.z (G : pz_P) : qdv G pz_0 := ⟨1, pz_0, 0, by decide, fun _ _ => rfl, by rw [pz_mul_0L]; funext i; rfl⟩
/-- the last of the row, where nothing is left -/
theorem CD.last {A B X Y : pz_P} {m n dx dy : Nat} {la ps : Int} (r : RI A B m n X Y dx dy la ps) (h1 : 1 ≤ dy) (hz : ∀ i, rdv X Y dx dy la ps i = 0) (k : CD A B X Y) : ∀ G, (qdv G A ∧ qdv G B) ↔ qdv G Y := fun G => by
  have k2 := CD.next (F := pz_0) r h1 (Or.inl fun i => (hz i).symm) k
  rw [k2 G]
  exact ⟨fun h => h.1, fun h => ⟨h, qdv.z G⟩⟩
/-- or where it is a number -/
theorem CD.const {A B X Y : pz_P} {N : Nat} (hX : pz_lt X N) (h0 : Y 0 ≠ 0) (hz : ∀ i, 0 < i → Y i = 0) (k : CD A B X Y) : ∀ G, (qdv G A ∧ qdv G B) ↔ qdv G Y := fun G => by
  rw [k G]
  refine ⟨fun h => h.2, fun h => ⟨?_, h⟩⟩
  have hm : pz_mul X Y = pz_sc (Y 0) X := funext fun i => by
    show pz_c i X Y = Y 0 * X i
    rw [pz_c_zs, zs_one (p := i) (by omega) (fun j hj hn => by rw [hz (i - j) (by omega), Int.mul_zero]), Nat.sub_self, Int.mul_comm]
  refine qdv.un h0 ?_
  rw [← hm]
  exact h.mul hX
