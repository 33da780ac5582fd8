/-! What a text says, with its bounds: none where something is too great. -/
noncomputable def zvf (P : pz_P) : Option pz_P := @ite (Option pz_P) (fit13 P) (Classical.propDecidable _) (some P) none
theorem zvf_y {P : pz_P} (h : fit13 P) : zvf P = some P := by
  unfold zvf
  exact if_pos h
theorem zvf_n {P : pz_P} (h : ¬ fit13 P) : zvf P = none := by
  unfold zvf
  exact if_neg h
noncomputable def zvm : Option pz_P → Option pz_P → Option pz_P
  | some A, some B => zvf (pz_mul A B)
  | _, _ => none
noncomputable def zvp : Option pz_P → Nat → Option pz_P
  | some A, n => zvf (pw A n)
  | none, _ => none
noncomputable def zva : Option pz_P → Int → Option pz_P → Option pz_P
  | some A, s, some B => zvf (fun j => A j + s * B j)
  | _, _, _ => none
def pz_x : pz_P := fun i => if i = 1 then 1 else 0
def pz_k (c : Int) : pz_P := fun i => if i = 0 then c else 0
section RVL
variable (T : Nat → Int) (tm : Nat)
/-- the number that begins at a -/
def rnv (a : Nat) : Int := rvl T (rskp T tm a) (rdgp T tm (rskp T tm a) - rskp T tm a)
noncomputable def zvx (w : Option pz_P) (a : Nat) : Option pz_P := match rtk T tm 94 a with
  | some c => zvp w (rnv T tm c).toNat
  | none => w
/-- the value, as rpr0 reads: what lies ahead of it (a product's or a sum's beginning) and the sign of the next -/
noncomputable def zv0 : Nat → Nat → Nat → Nat → Option pz_P → Int → Option pz_P
  | 0, _, _, _, _, _ => none
  | f + 1, 0, d, a, _, _ =>
    if rskp T tm a < tm ∧ T (rskp T tm a) = 120 then zvx T tm (some pz_x) (rskp T tm a + 1)
    else if rskp T tm a < tm ∧ T (rskp T tm a) = 40 then
      (match rpr0 T tm f 3 (d - 1) (rskp T tm a + 1) with
        | some (true, c) => (match rtk T tm 41 c with
          | some e => zvx T tm (zv0 f 3 (d - 1) (rskp T tm a + 1) none 1) e
          | none => none)
        | _ => none)
    else zvx T tm (some (pz_k (rnv T tm a))) (rdgp T tm (rskp T tm a))
  | f + 1, 1, d, a, P, _ => match rpr0 T tm f 0 d a with
    | some (true, c) => (match rtk T tm 42 c with
      | none => zvm P (zv0 f 0 d a none 1)
      | some e => zv0 f 1 d e (zvm P (zv0 f 0 d a none 1)) 1)
    | _ => none
  | f + 1, 2, d, a, P, s => match rpr0 T tm f 1 d a with
    | some (true, c) => (match rtk T tm 43 c with
      | some e => zv0 f 2 d e (zva P s (zv0 f 1 d a (some pz_one) 1)) 1
      | none => match rtk T tm 45 (rskp T tm c) with
        | some e => zv0 f 2 d e (zva P s (zv0 f 1 d a (some pz_one) 1)) (-1)
        | none => zva P s (zv0 f 1 d a (some pz_one) 1))
    | _ => none
  | f + 1, _ + 3, d, a, _, _ => match rtk T tm 45 a with
    | some e => zv0 f 2 d e (some pz_0) (-1)
    | none => zv0 f 2 d (rskp T tm a) (some pz_0) 1
end RVL
/-- a row holds the value, or something is too great -/
def U0 (w : Option pz_P) (t t2 : Int) (f : Nat → Int) : Prop := (t = 0 ∨ t = 1) ∧ ((∃ A, w = some A ∧ fit13 A ∧ t2 = t ∧ ∀ j, j < 13 → f j = A j) ∨ (w = none ∧ t2 = 1))
theorem U0.t {w : Option pz_P} {t t2 : Int} {f : Nat → Int} (u : U0 w t t2 f) : t2 = 0 ∨ t2 = 1 := by
  rcases u with ⟨h, ⟨A, _, _, h2, _⟩ | ⟨_, h2⟩⟩
  · rw [h2]
    exact h
  · exact Or.inr h2
theorem fit_x : fit13 pz_x := ⟨fun j _ => by
  show (if j = 1 then (1 : Int) else 0).natAbs ≤ _
  split <;> decide, fun i hi => if_neg (by omega)⟩
theorem fit_one : fit13 pz_one := ⟨fun j _ => by
  show (if j = 0 then (1 : Int) else 0).natAbs ≤ _
  split <;> decide, fun i hi => if_neg (by omega)⟩
theorem fit_0 : fit13 pz_0 := ⟨fun j _ => by
  show (0 : Int).natAbs ≤ _
  decide, fun i hi => rfl⟩
theorem fit_k {c : Int} (h : c.natAbs ≤ 999999999999999999) : fit13 (pz_k c) := ⟨fun j _ => by
  show (if j = 0 then c else 0).natAbs ≤ _
  split
  · exact h
  · exact Nat.zero_le _, fun i hi => if_neg (by omega)⟩
theorem rw13_fit {A : pz_P} {f : Nat → Int} (hA : fit13 A) (h : ∀ j, j < 13 → f j = A j) : rw13 f = A := funext fun j => by
  show (if j < 13 then f j else 0) = A j
  by_cases q : j < 13
  · rw [if_pos q, h j q]
  · rw [if_neg q, hA.2 j (by omega)]
/-- a product of rows -/
theorem U0.mul {w v : Option pz_P} {t t1 t2 : Int} {f k : Nat → Int} (a : U0 w t t1 f) (b : U0 v t1 t2 k) : (∃ A B, w = some A ∧ v = some B ∧ t2 = t ∧ rw13 f = A ∧ rw13 k = B) ∨ (zvm w v = none ∧ t2 = 1) := by
  obtain ⟨ht, ⟨A, a1, a2, a3, a4⟩ | ⟨a1, a2⟩⟩ := a
  · obtain ⟨_, ⟨B, b1, b2, b3, b4⟩ | ⟨b1, b2⟩⟩ := b
    · exact Or.inl ⟨A, B, a1, b1, b3.trans a3, rw13_fit a2 a4, rw13_fit b2 b4⟩
    · exact Or.inr ⟨by rw [a1, b1]; rfl, b2⟩
  · obtain ⟨_, ⟨B, b1, b2, b3, b4⟩ | ⟨b1, b2⟩⟩ := b
    · exact Or.inr ⟨by rw [a1]; rfl, b3.trans a2⟩
    · exact Or.inr ⟨by rw [a1]; rfl, b2⟩
