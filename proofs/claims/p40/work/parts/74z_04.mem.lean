/-! The class's memory: V what the whole numbers at their places are (at 170 the divisor), X what all other cells hold. -/
/-- a whole number at a place, with so many limbs of room -/
def wW (h : mj_H) (a n : Nat) (v : Int) : Prop := ∃ q : Nat → Int32, h[a]? = some (.inr (8, [.ref (a + 1), .int (jn (jnl v.natAbs : Nat)), .int (jn (jsg v))])) ∧ h[a + 1]? = some (.inl (0, n, fun j => .int (q j))) ∧ (∀ j, j < jnl v.natAbs → q j = jn (jlb v.natAbs j : Nat)) ∧ jnl v.natAbs ≤ n
/-- a Wide of which no more is known than that it is one -/
def wT (h : mj_H) (a n : Nat) : Prop := ∃ (q : Nat → Int32) (s0 : Nat) (g0 : Int32), s0 ≤ 1000 ∧ h[a]? = some (.inr (8, [.ref (a + 1), .int (jn (s0 : Nat)), .int g0])) ∧ h[a + 1]? = some (.inl (0, n, fun j => .int (q j)))
def dT (h : mj_H) (a n : Nat) : Prop := ∃ (q : Nat → Int32) (s0 : Nat) (g0 : Int32) (f0 : Int64), s0 ≤ 60 ∧ h[a]? = some (.inr (2, [.ref (a + 1), .int (jn (s0 : Nat)), .int g0, .long f0])) ∧ h[a + 1]? = some (.inl (0, n, fun j => .int (q j)))
def wD (h : mj_H) (a n : Nat) (v : Int) : Prop := ∃ q : Nat → Int32, h[a]? = some (.inr (2, [.ref (a + 1), .int (jn (jnl v.natAbs : Nat)), .int (jn (jsg v)), .long (jl (jfa v.natAbs : Nat))])) ∧ h[a + 1]? = some (.inl (0, n, fun j => .int (q j))) ∧ (∀ j, j < jnl v.natAbs → q j = jn (jlb (v.natAbs * jfa v.natAbs) j : Nat)) ∧ jnl v.natAbs ≤ n
/-- a Wide holds the number, or nothing is told of it: where the number has more limbs than any Wide takes -/
def wX (h : mj_H) (a n : Nat) (v : Int) : Prop := wT h a n ∧ (jnl v.natAbs ≤ 1500 → wW h a n v)
def dX (h : mj_H) (a n : Nat) (v : Int) : Prop := dT h a n ∧ (jnl v.natAbs ≤ 1500 → wD h a n v)
/-- the coefficients of a polynomial are known -/
def pcl (V : Nat → Int) (p : Nat) : Prop := ∀ i, i < cL (p + 3) → jnl (V (p + 4 + 2 * i)).natAbs ≤ 1500
theorem wW.T {h : mj_H} {a n : Nat} {v : Int} (hn : n ≤ 1000) (w : wW h a n v) : wT h a n := by
  obtain ⟨q, h1, h2, _, h4⟩ := w
  exact ⟨q, _, _, by omega, h1, h2⟩
theorem wD.T {h : mj_H} {a n : Nat} {v : Int} (hn : n ≤ 60) (w : wD h a n v) : dT h a n := by
  obtain ⟨q, h1, h2, _, h4⟩ := w
  exact ⟨q, _, _, _, by omega, h1, h2⟩
theorem wT.lt {h : mj_H} {a m : Nat} (w : wT h a m) : a + 1 < h.length := by
  obtain ⟨q, _, _, _, _, h2⟩ := w
  exact (List.getElem?_eq_some_iff.mp h2).1
theorem dT.lt {h : mj_H} {a m : Nat} (w : dT h a m) : a + 1 < h.length := by
  obtain ⟨q, _, _, _, _, _, h2⟩ := w
  exact (List.getElem?_eq_some_iff.mp h2).1
/-- the polynomials of the row of Sturm -/
def sro (i : Nat) : Nat := [180, 210, 240, 268, 294, 318, 340, 360, 378, 394, 408, 420, 430, 438].getD i 0
/-- the fields of an object -/
def jMf (X : Nat → Nat → Int) (k a : Nat) : List Value := match k with
  | 10 => [.ref (a + 1), .ref (a + 8), .ref (a + 9), .int (jn (X a 3))]
  | 11 => [.ref 20, .ref 50, .ref 80, .ref 110, .ref 164, .ref 166, .ref 168, .ref 170]
  | 13 => [.ref (a + 3), .ref (a + 1), .int (jn (X a 2))]
  | 14 => [.ref 19, .ref (X a 1).toNat, .int (jn (X a 2)), .int (jn (X a 3)), .int (jn (X a 4)), .ref 456, .ref 466, .ref 476]
  | 15 => [.ref 19, .ref 172, .int (jn (X a 2)), .int (jn (X a 3)), .int (jn (X a 4)), .long (jl (X a 5)), .ref 445, .int (jn (X a 7)), .ref 447, .ref 449, .ref 451, .ref 453]
  | 16 => [.ref 19, .ref 173, .int (jn (X a 2)), .ref 174, .ref 176, .ref 178]
  | 19 => [.ref 2, .ref 12, .int (jn (X a 2)), .int (jn (X a 3)), .ref 13, .ref 15, .ref 17, .ref 19, .ref 172, .ref 444, .ref 455, .ref 477, .ref 479, .ref 481, .ref 482, .int (jn (X a 15))]
  | _ => [.ref (a + 1), .int (jn (X a 1))]
/-- what an array of arrays or objects holds -/
def jMg (k a i : Nat) : Nat := match k with
  | 4 => a + 1 + 2 * i
  | 5 => sro i
  | 6 => a + 1 + i
  | _ => 483 + 10 * i
def jMk (V : Nat → Int) (X : Nat → Nat → Int) (h : mj_H) (k a : Nat) : Prop :=
  if k = 0 then True
  else if k = 18 then wX h a (cL (a + 1)) (V a)
  else if k = 12 then dX h a (cL (a + 1)) (V a)
  else if k = 1 then (cK (a - 1) = 18 ∨ cK (a - 1) = 12) ∨ h[a]? = some (.inl (0, cL a, fun j => .int (jn (X a j))))
  else if k = 2 then h[a]? = some (.inl (1, 13, fun j => .long (jl (X a j))))
  else if k = 3 then h[a]? = some (.inl (2, cL a, fun j => .int (jn (X a j))))
  else if k ≤ 7 then ∃ f : Nat → Value, h[a]? = some (.inl (jak k, cL a, f)) ∧ ∀ i, i < cL a → f i = .ref (jMg k a i)
  else h[a]? = some (.inr (jkc k, jMf X k a))
/-- the class's cells hold that; the others are as in g -/
def jM (g : mj_H) (n : Nat) (V : Nat → Int) (X : Nat → Nat → Int) (h : mj_H) : Prop := h.length = n ∧ (∀ a, cK a = 0 → (a < g.length → h[a]? = g[a]?) ∧ (g.length ≤ a → a < n → h[a]? = some (.inr (99, [.null, .null, .null, .null, .null, .null])))) ∧ ∀ a, jMk V X h (cK a) a
def xup (X : Nat → Nat → Int) (a i : Nat) (v : Int) : Nat → Nat → Int := fun b j => if b = a ∧ j = i then v else X b j
theorem xup_at (X : Nat → Nat → Int) (a i : Nat) (v : Int) : xup X a i v a i = v := if_pos ⟨rfl, rfl⟩
theorem xup_ne (X : Nat → Nat → Int) {a i b j : Nat} (v : Int) (h : b ≠ a ∨ j ≠ i) : xup X a i v b j = X b j := if_neg (by omega)
/-- kinds, place by place -/
theorem mK_1 : ((List.range 563).all (fun a => !(decide (cK a = 18) || decide (cK a = 12)) || (decide (cK (a + 1) = 1) && decide (cL (a + 1) ≤ 1000) && decide (1 ≤ cL (a + 1))))) = true := by decide +kernel
theorem mK_2 : ((List.range 563).all (fun a => !(decide (cK a = 13)) || (decide (cK (a + 1) = 18) && decide (cK (a + 3) = 4) && decide (cL (a + 3) ≤ 25) && decide (1 ≤ cL (a + 3)) && (List.range (cL (a + 3))).all fun i => decide (cK (a + 4 + 2 * i) = 18)))) = true := by decide +kernel
theorem mK_3 : ((List.range 563).all (fun a => !(decide (cK a = 2)) || decide (cL a = 13))) = true := by decide +kernel
theorem mK_0 : ((List.range 563).all (fun a => !(decide (cK a = 12)) || decide (cL (a + 1) = 60))) = true := by decide +kernel
theorem mK_d {a : Nat} (h : cK a = 12) : cL (a + 1) = 60 := by
  have h1 := jall mK_0 (cK_in (a := a) (by omega))
  simpa [h] using h1
theorem mK_w {a : Nat} (h : cK a = 18 ∨ cK a = 12) : cK (a + 1) = 1 ∧ cL (a + 1) ≤ 1000 ∧ 1 ≤ cL (a + 1) := by
  have h1 := jall mK_1 (cK_in (a := a) (by omega))
  rcases h with h | h <;> simpa [h, and_assoc] using h1
theorem mK_p {a : Nat} (h : cK a = 13) : cK (a + 1) = 18 ∧ cK (a + 3) = 4 ∧ (1 ≤ cL (a + 3) ∧ cL (a + 3) ≤ 25) ∧ ∀ i, i < cL (a + 3) → cK (a + 4 + 2 * i) = 18 := by
  have h1 := jall mK_2 (cK_in (a := a) (by omega))
  simp only [h, decide_true, Bool.not_true, Bool.false_or, Bool.and_eq_true, decide_eq_true_eq] at h1
  exact ⟨h1.1.1.1.1, h1.1.1.1.2, ⟨h1.1.2, h1.1.1.2⟩, fun i hi => of_decide_eq_true (jall h1.2 hi)⟩
section JMM
variable {g h : mj_H} {n : Nat} {V : Nat → Int} {X : Nat → Nat → Int}
theorem jM.W (M : jM g n V X h) {a : Nat} (ka : cK a = 18) (hcl : jnl (V a).natAbs ≤ 1500 := by omega) : wW h a (cL (a + 1)) (V a) := by
  have := M.2.2 a
  rw [ka] at this
  exact (show wX h a (cL (a + 1)) (V a) from this).2 hcl
theorem jM.T (M : jM g n V X h) {a : Nat} (ka : cK a = 18) : wT h a (cL (a + 1)) := by
  have := M.2.2 a
  rw [ka] at this
  exact (show wX h a (cL (a + 1)) (V a) from this).1
theorem jM.D (M : jM g n V X h) {a : Nat} (ka : cK a = 12) (hcl : jnl (V a).natAbs ≤ 1500 := by omega) : wD h a (cL (a + 1)) (V a) := by
  have := M.2.2 a
  rw [ka] at this
  exact (show dX h a (cL (a + 1)) (V a) from this).2 hcl
theorem jM.DT (M : jM g n V X h) {a : Nat} (ka : cK a = 12) : dT h a (cL (a + 1)) := by
  have := M.2.2 a
  rw [ka] at this
  exact (show dX h a (cL (a + 1)) (V a) from this).1
theorem jM.L (M : jM g n V X h) {a : Nat} (ka : cK a = 2) : h[a]? = some (.inl (1, 13, fun j => .long (jl (X a j)))) := by
  have := M.2.2 a
  rw [ka] at this
  exact this
theorem jM.O (M : jM g n V X h) {a : Nat} (k : Nat) (ka : cK a = k) (hk : 7 < k ∧ k ≠ 18 ∧ k ≠ 12) : h[a]? = some (.inr (jkc k, jMf X k a)) := by
  have := M.2.2 a
  unfold jMk at this
  rw [ka, if_neg (by omega), if_neg (by omega), if_neg (by omega), if_neg (by omega), if_neg (by omega), if_neg (by omega), if_neg (by omega)] at this
  exact this
theorem jM.A (M : jM g n V X h) {a : Nat} (k : Nat) (ka : cK a = k) (hk : 4 ≤ k ∧ k ≤ 7) : ∃ f : Nat → Value, h[a]? = some (.inl (jak k, cL a, f)) ∧ ∀ i, i < cL a → f i = .ref (jMg k a i) := by
  have := M.2.2 a
  unfold jMk at this
  rw [ka, if_neg (by omega), if_neg (by omega), if_neg (by omega), if_neg (by omega), if_neg (by omega), if_neg (by omega), if_pos (by omega)] at this
  exact this
/-- some cells are exchanged -/
theorem jM.up (M : jM g n V X h) {h' : mj_H} {V' : Nat → Int} {X' : Nat → Nat → Int} (S : Nat → Prop) (hl : h'.length = h.length) (hS : ∀ a, S a → cK a ≠ 0) (hf : ∀ p, ¬ S p → h'[p]? = h[p]?) (hV : ∀ a, ¬ S a → V' a = V a) (hX : ∀ a, ¬ S a → X' a = X a) (hc : ∀ a, cK a = 18 ∨ cK a = 12 → (S a ↔ S (a + 1))) (hn : ∀ a, S a → jMk V' X' h' (cK a) a) : jM g n V' X' h' := by
  refine ⟨by rw [hl]; exact M.1, fun a ha => ?_, fun a => ?_⟩
  · have : ¬ S a := fun q => hS a q ha
    rw [hf a this]
    exact M.2.1 a ha
  · by_cases q : S a
    · exact hn a q
    · have h1 := M.2.2 a
      have e1 := hf a q
      unfold jMk at h1 ⊢
      by_cases k0 : cK a = 0
      · rw [if_pos k0]
        trivial
      rw [if_neg k0] at h1 ⊢
      by_cases k18 : cK a = 18
      · rw [if_pos k18] at h1 ⊢
        have e2 := hf (a + 1) (fun w => q ((hc a (Or.inl k18)).mpr w))
        unfold wX wT wW at h1 ⊢
        rw [e1, e2, hV a q]
        exact h1
      rw [if_neg k18] at h1 ⊢
      by_cases k12 : cK a = 12
      · rw [if_pos k12] at h1 ⊢
        have e2 := hf (a + 1) (fun w => q ((hc a (Or.inr k12)).mpr w))
        unfold dX dT wD at h1 ⊢
        rw [e1, e2, hV a q]
        exact h1
      rw [if_neg k12] at h1 ⊢
      have ef : ∀ k, jMf X' k a = jMf X k a := fun k => by
        unfold jMf
        rw [hX a q]
      rw [e1, hX a q, ef]
      exact h1
theorem wW_set {h : mj_H} {a m : Nat} {v : Int} {q : Nat → Int32} (ha : a + 1 < h.length) (hq : ∀ j, j < jnl v.natAbs → q j = jn (jlb v.natAbs j : Nat)) (hm : jnl v.natAbs ≤ m) : wW ((h.set a (.inr (8, [.ref (a + 1), .int (jn (jnl v.natAbs : Nat)), .int (jn (jsg v))]))).set (a + 1) (.inl (0, m, fun j => .int (q j)))) a m v := by
  refine ⟨q, ?_, ?_, hq, hm⟩
  · rw [List.getElem?_set_ne (by omega), List.getElem?_set_self (by omega)]
  · rw [List.getElem?_set_self (by rw [List.length_set]; omega)]
theorem wW.lt {h : mj_H} {a m : Nat} {v : Int} (w : wW h a m v) : a + 1 < h.length := by
  obtain ⟨q, _, h2, _⟩ := w
  exact (List.getElem?_eq_some_iff.mp h2).1
theorem wD.lt {h : mj_H} {a m : Nat} {v : Int} (w : wD h a m v) : a + 1 < h.length := by
  obtain ⟨q, _, h2, _⟩ := w
  exact (List.getElem?_eq_some_iff.mp h2).1
/-- a whole number is exchanged -/
theorem jM.setW (M : jM g n V X h) {a : Nat} (ka : cK a = 18) {v : Int} {q : Nat → Int32} (hq : ∀ j, j < jnl v.natAbs → q j = jn (jlb v.natAbs j : Nat)) (hm : jnl v.natAbs ≤ cL (a + 1)) : jM g n (jvu V a v) X ((h.set a (.inr (8, [.ref (a + 1), .int (jn (jnl v.natAbs : Nat)), .int (jn (jsg v))]))).set (a + 1) (.inl (0, cL (a + 1), fun j => .int (q j)))) := by
  have k1 := mK_w (Or.inl ka)
  refine M.up (fun x => x = a ∨ x = a + 1) (by rw [List.length_set, List.length_set]) (fun x hx => ?_) (fun p hp => ?_) (fun x hx => jvu_ne _ _ _ (fun e => hx (Or.inl e))) (fun _ _ => rfl) (fun x hx => ?_) (fun x hx => ?_)
  · rcases hx with e | e <;> subst e <;> omega
  · rw [List.getElem?_set_ne (fun e => hp (Or.inr e.symm)), List.getElem?_set_ne (fun e => hp (Or.inl e.symm))]
  · constructor
    · intro q
      rcases q with e | e
      · exact Or.inr (by omega)
      · subst e
        omega
    · intro q
      rcases q with e | e
      · subst e
        have := mK_w hx
        omega
      · exact Or.inl (by omega)
  · rcases hx with e | e
    · subst e
      rw [ka]
      show wX _ x _ _
      rw [jvu_at]
      have w := wW_set (M.T ka).lt hq hm
      exact ⟨w.T k1.2.1, fun _ => w⟩
    · subst e
      rw [k1.1]
      show _ ∨ _
      exact Or.inl (Or.inl ka)
end JMM
