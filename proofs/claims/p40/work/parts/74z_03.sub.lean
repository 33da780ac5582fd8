/-! The row of remainders, each divided by what is known to divide it: the subresultants. -/
/-- a rows of A and b rows of B, n the degree of B -/
def SB (a b n : Nat) (A B : pz_P) : pz_P := dp (a + b - 1) (b + n - 1) (srow a b A B)
/-- X and Y are neighbours of the row of A and B -/
def SI (A B : pz_P) (m n : Nat) (X Y : pz_P) (dx dy : Nat) (la ps : Int) : Prop := ∀ j, j ≤ dy → j < dx → pm (SB (dy - j) (dx - j) dy X Y) (pz_sc (la ^ (dy - j) * ps ^ (dx - j - 1)) (SB (n - j) (m - j) n A B))
theorem SI.start (A B : pz_P) (m n : Nat) : SI A B m n A B m n 1 1 := fun j _ _ => Or.inl fun x => by
  show _ = (1 ^ (n - j) * 1 ^ (m - j - 1)) * _
  rw [Int.one_pow, Int.one_pow, Int.one_mul, Int.one_mul]
/-- R comes out of X by eliminating with Y -/
def SE (X Y R : pz_P) (dx dy : Nat) : Prop := ∀ a b c : Nat, 1 ≤ a → a + (dx - dy) ≤ b → ∀ x, dp (a + b - 1) c (srow a b R Y) x = ((Y dy) ^ (dx - dy + 1)) ^ a * dp (a + b - 1) c (srow a b X Y) x
theorem pz_sc_pm {f g : pz_P} {a b : Int} (h : a = b ∨ a = -b) (q : pm f g) : pm (pz_sc a f) (pz_sc b g) := by
  rcases h with h | h
  · rw [h]
    exact q.sc b
  · refine (q.sc a).tr (Or.inr fun x => ?_)
    show a * g x = -(b * g x)
    rw [h, Int.neg_mul]
theorem Int.pow_ab (l : Int) (k : Nat) : l ^ k = ((l.natAbs : Nat) : Int) ^ k ∨ l ^ k = -((l.natAbs : Nat) : Int) ^ k := by
  have e := Int.natAbs_eq l
  generalize ((l.natAbs : Nat) : Int) = w at e
  induction k with
  | zero => exact Or.inl (by rw [Int.pow_zero, Int.pow_zero])
  | succ k ih =>
    rw [Int.pow_succ, Int.pow_succ]
    rcases e with e | e <;> rcases ih with h | h <;> rw [h, e]
    · exact Or.inl rfl
    · exact Or.inr (Int.neg_mul _ _)
    · exact Or.inr (Int.mul_neg _ _)
    · exact Or.inl (by rw [Int.mul_neg, Int.neg_mul, Int.neg_neg])
/-- the remainder is a known number times a subresultant -/
theorem SI.exact {A B X Y R : pz_P} {m n dx dy : Nat} {la ps : Int} (I : SI A B m n X Y dx dy la ps) (hd : dy ≤ dx) (h1 : 1 ≤ dy) (hY : ∀ i, dy < i → Y i = 0) (hl : Y dy ≠ 0) (E : SE X Y R dx dy) (hR : ∀ i, dy ≤ i → R i = 0) : pm R (pz_sc (la * ps ^ (dx - dy)) (SB (n - (dy - 1)) (m - (dy - 1)) n A B)) := by
  have i1 := I (dy - 1) (by omega) (by omega)
  rw [show dy - (dy - 1) = 1 by omega, show dx - (dy - 1) = 0 + (dx - dy + 1) by omega, show 0 + (dx - dy + 1) - 1 = dx - dy by omega, Int.pow_one] at i1
  have e1 := E 1 (0 + (dx - dy + 1)) (0 + (dx - dy + 1) + dy - 1) (Nat.le_refl 1) (by omega)
  have p1 := dp_peel (a := 1) (b := 0) (n := dy) (R := R) (B := Y) (Nat.le_refl 1) hY (dx - dy + 1) (fun i hi => hR i (by omega)) (by omega)
  have hp : (Y dy) ^ (dx - dy + 1) ≠ 0 := Int.pow_ne_zero hl
  have r1 : ∀ x, dp (1 + 0 - 1) (0 + dy - 1) (srow 1 0 R Y) x = R x := fun x => by
    show srow 1 0 R Y 0 x = R x
    unfold srow pz_sh
    rw [if_pos (by decide), if_neg (by omega)]
    rfl
  have k1 : pm (pz_sc ((Y dy) ^ (dx - dy + 1)) (SB 1 (0 + (dx - dy + 1)) dy X Y)) (pz_sc ((Y dy) ^ (dx - dy + 1)) R) := by
    refine pm.tr (Or.inl fun x => ?_) (p1.tr (Or.inl fun x => ?_))
    · rw [e1 x, Int.pow_one]
      rfl
    · show _ * _ = _ * _
      rw [r1]
  exact ((k1.un hp).sy).tr i1
/-- the number that is known next -/
theorem SI.known {A B X Y : pz_P} {m n dx dy : Nat} {la ps : Int} (I : SI A B m n X Y dx dy la ps) (hd : dy < dx) (hY : ∀ i, dy < i → Y i = 0) : (Y dy).natAbs ^ (dx - dy) = ps.natAbs ^ (dx - dy - 1) * (SB (n - dy) (m - dy) n A B dy).natAbs := by
  have i1 := I dy (Nat.le_refl dy) hd
  rw [Nat.sub_self, Int.pow_zero, Int.one_mul] at i1
  obtain ⟨d, hdd⟩ : ∃ d, dx - dy = d + 1 := ⟨dx - dy - 1, by omega⟩
  rw [hdd] at i1 ⊢
  rw [Nat.add_sub_cancel] at i1 ⊢
  have t1 := dp_tri (A := X) hY d dy
  have e1 : SB 0 (d + 1) dy X Y dy = (Y dy) ^ d * Y dy := by
    unfold SB
    rw [show 0 + (d + 1) - 1 = d by omega, show d + 1 + dy - 1 = d + dy by omega]
    exact t1
  have e2 : (SB 0 (d + 1) dy X Y dy).natAbs = (ps ^ d * SB (n - dy) (m - dy) n A B dy).natAbs := by
    rcases i1 with h | h
    · rw [h dy]
      rfl
    · rw [h dy, Int.natAbs_neg]
      rfl
  rw [e1, Int.natAbs_mul, Int.natAbs_pow, Int.natAbs_mul, Int.natAbs_pow] at e2
  rw [Nat.pow_succ]
  exact e2
theorem SI.step {A B X Y R F : pz_P} {m n dx dy rr : Nat} {la ps la' ps' : Int} (I : SI A B m n X Y dx dy la ps) (hd : dy ≤ dx) (hr : rr < dy) (hY : ∀ i, dy < i → Y i = 0) (hl : Y dy ≠ 0) (E : SE X Y R dx dy) (hR : ∀ i, rr < i → R i = 0) (hF : pm R (pz_sc (la * ps ^ (dx - dy)) F)) (hla0 : la ≠ 0) (hps0 : ps ≠ 0) (hla : la' = ((Y dy).natAbs : Nat)) (hps : (dx = dy ∧ ps = 1 ∧ ps' = 1) ∨ (dy < dx ∧ la' ^ (dx - dy) = ps ^ (dx - dy - 1) * ps')) : SI A B m n Y F dy rr la' ps' := by
  intro j hj _
  obtain ⟨t, ht⟩ : ∃ t, dy - j = t + 1 := ⟨dy - j - 1, by omega⟩
  obtain ⟨δ, hδ⟩ : ∃ δ, dx - dy = δ := ⟨_, rfl⟩
  have hla'0 : la' ≠ 0 := by rw [hla]; omega
  have i1 := I j (by omega) (by omega)
  rw [ht, show dx - j = rr - j + (dx - rr) by omega, show rr - j + (dx - rr) - 1 = δ + t by omega] at i1
  have e1 := E (t + 1) (rr - j + (dx - rr)) (rr - j + (dx - rr) + dy - 1) (by omega) (by omega)
  have p1 := dp_peel (a := t + 1) (b := rr - j) (n := dy) (R := R) (B := Y) (by omega) hY (dx - rr) (fun i hi => hR i (by omega)) (by omega)
  -- R is F, taken times, up to the sign
  have s1 : pm (dp (t + 1 + (rr - j) - 1) (rr - j + dy - 1) (srow (t + 1) (rr - j) R Y)) (pz_sc ((la * ps ^ δ) ^ (t + 1)) (dp (t + 1 + (rr - j) - 1) (rr - j + dy - 1) (srow (t + 1) (rr - j) F Y))) := by
    rw [hδ] at hF
    rcases hF with h | h
    · exact Or.inl fun x => dp_scA (l := la * ps ^ δ) (fun i => h i) (by omega) x
    · have h2 := dp_scA (a := t + 1) (b := rr - j) (c := rr - j + dy - 1) (A := F) (B := Y) (P := R) (l := -(la * ps ^ δ)) (fun i => by rw [h i, Int.neg_mul]; rfl) (by omega)
      have h3 : (-(la * ps ^ δ)) ^ (t + 1) = (la * ps ^ δ) ^ (t + 1) ∨ (-(la * ps ^ δ)) ^ (t + 1) = -(la * ps ^ δ) ^ (t + 1) := by
        generalize la * ps ^ δ = w
        have q1 := Int.pow_ab (-w) (t + 1)
        have q2 := Int.pow_ab w (t + 1)
        rw [Int.natAbs_neg] at q1
        rcases q1 with q1 | q1 <;> rcases q2 with q2 | q2 <;> omega
      exact pm.tr (Or.inl h2) (pz_sc_pm h3 (pm.rf _))
  have t1 := dp_turn (a := t + 1) (b := rr - j) (c := rr - j + dy - 1) (by omega) F Y
  have e4 : dp (rr - j + (t + 1) - 1) (rr - j + dy - 1) (srow (rr - j) (t + 1) Y F) = SB (rr - j) (t + 1) rr Y F := by
    unfold SB
    rw [show rr - j + dy - 1 = t + 1 + rr - 1 by omega]
  rw [e4] at t1
  have big : pm (pz_sc (((Y dy) ^ (δ + 1)) ^ (t + 1)) (pz_sc (la ^ (t + 1) * ps ^ (δ + t)) (SB (n - j) (m - j) n A B))) (pz_sc ((Y dy) ^ (dx - rr)) (pz_sc ((la * ps ^ δ) ^ (t + 1)) (SB (rr - j) (t + 1) rr Y F))) := by
    refine ((i1.sc (((Y dy) ^ (δ + 1)) ^ (t + 1))).sy).tr ?_
    refine pm.tr (Or.inl fun x => ?_) (p1.tr (((s1.tr (t1.sc _))).sc _))
    rw [hδ] at e1
    exact (e1 x).symm
  rw [pz_sc_sc, pz_sc_sc, ← Int.pow_mul] at big
  have big2 : pm (pz_sc (la' ^ ((δ + 1) * (t + 1)) * (la ^ (t + 1) * ps ^ (δ + t))) (SB (n - j) (m - j) n A B)) (pz_sc (la' ^ (dx - rr) * (la * ps ^ δ) ^ (t + 1)) (SB (rr - j) (t + 1) rr Y F)) := by
    have c1 : la' ^ ((δ + 1) * (t + 1)) * (la ^ (t + 1) * ps ^ (δ + t)) = (Y dy) ^ ((δ + 1) * (t + 1)) * (la ^ (t + 1) * ps ^ (δ + t)) ∨ la' ^ ((δ + 1) * (t + 1)) * (la ^ (t + 1) * ps ^ (δ + t)) = -((Y dy) ^ ((δ + 1) * (t + 1)) * (la ^ (t + 1) * ps ^ (δ + t))) := by
      rw [hla]
      rcases Int.pow_ab (Y dy) ((δ + 1) * (t + 1)) with q | q
      · left; rw [q]
      · right; rw [q, Int.neg_mul, Int.neg_neg]
    have c2 : (Y dy) ^ (dx - rr) * (la * ps ^ δ) ^ (t + 1) = la' ^ (dx - rr) * (la * ps ^ δ) ^ (t + 1) ∨ (Y dy) ^ (dx - rr) * (la * ps ^ δ) ^ (t + 1) = -(la' ^ (dx - rr) * (la * ps ^ δ) ^ (t + 1)) := by
      rw [hla]
      rcases Int.pow_ab (Y dy) (dx - rr) with q | q
      · left; rw [q]
      · right; rw [q, Int.neg_mul]
    exact ((pz_sc_pm c1 (pm.rf _)).tr big).tr (pz_sc_pm c2 (pm.rf _))
  -- the numbers
  have num : la' ^ ((δ + 1) * (t + 1)) * (la ^ (t + 1) * ps ^ (δ + t)) = la' ^ (dx - rr) * (la * ps ^ δ) ^ (t + 1) * (la' ^ (rr - j) * ps' ^ t) := by
    rw [Int.mul_pow, ← Int.pow_mul]
    have l1 : la' ^ ((δ + 1) * (t + 1)) = la' ^ (dx - rr) * la' ^ (rr - j) * la' ^ (δ * t) := by
      rw [← Int.pow_add, ← Int.pow_add]
      congr 1
      rw [Nat.add_mul, Nat.mul_add]
      omega
    have l2 : la' ^ (δ * t) * ps ^ (δ + t) = ps ^ (δ * (t + 1)) * ps' ^ t := by
      rcases hps with ⟨q1, q2, q3⟩ | ⟨q1, q2⟩
      · have d0 : δ = 0 := by omega
        subst d0
        rw [q2, q3, Nat.zero_mul, Nat.zero_mul, Int.one_pow, Int.one_pow, Int.pow_zero, Int.one_pow]
      · rw [hδ] at q2
        obtain ⟨d, rfl⟩ : ∃ d, δ = d + 1 := ⟨δ - 1, by omega⟩
        rw [Nat.add_sub_cancel] at q2
        rw [Int.pow_mul, q2, Int.mul_pow, ← Int.pow_mul]
        have q3 : ps ^ ((d + 1) * (t + 1)) = ps ^ (d * t) * ps ^ (d + 1 + t) := by
          rw [← Int.pow_add]
          congr 1
          rw [Nat.add_mul, Nat.mul_add]
          omega
        rw [q3]
        ac_rfl
    rw [l1]
    have l3 : la' ^ (dx - rr) * la' ^ (rr - j) * la' ^ (δ * t) * (la ^ (t + 1) * ps ^ (δ + t)) = la' ^ (dx - rr) * la' ^ (rr - j) * la ^ (t + 1) * (la' ^ (δ * t) * ps ^ (δ + t)) := by ac_rfl
    rw [l3, l2]
    ac_rfl
  rw [num] at big2
  have hne : la' ^ (dx - rr) * (la * ps ^ δ) ^ (t + 1) ≠ 0 := Int.mul_ne_zero (Int.pow_ne_zero hla'0) (Int.pow_ne_zero (Int.mul_ne_zero hla0 (Int.pow_ne_zero hps0)))
  rw [← pz_sc_sc] at big2
  have fin := big2.un hne
  rw [ht, Nat.add_sub_cancel]
  exact fin.sy
