/-! The class's cells by kinds: 1 ints, 2 a row of longs, 3 bytes, 4 to 7 arrays of Wide, Poly, rows, Bench, 10 + c an object of class c, 27 the buffer's Text. Rules for the steps over such a heap. -/
/-- the codes of the fields: 0 int, 1 long, 2 boolean, 4 the Reader's text, 5 a length, 6 a degree, 7 the buffer's length, 8 the divisor's size, 9 how many points, 10 a Wide's size; 100 + k: a cell of kind k, for good -/
def jfs : Nat → List Nat
  | 10 => [106, 101, 101, 9]
  | 11 => [113, 113, 113, 113, 118, 118, 118, 112]
  | 12 => [101, 8, 0, 1]
  | 13 => [104, 118, 6]
  | 14 => [111, 4, 0, 0, 2, 106, 106, 102]
  | 15 => [111, 116, 2, 0, 0, 1, 118, 2, 118, 118, 118, 118]
  | 16 => [111, 105, 0, 118, 118, 118]
  | 17 => [103, 5]
  | 18 => [101, 10, 0]
  | 19 => [110, 107, 0, 0, 127, 117, 117, 111, 116, 115, 114, 118, 118, 102, 102, 0]
  | 27 => [103, 7]
  | _ => []
def jkc (k : Nat) : Nat := if k = 27 then 7 else k - 10
/-- the machine's kind of an array, its least and its greatest length, what it holds -/
def jak : Nat → Nat
  | 1 => 0
  | 2 => 1
  | 3 => 2
  | 4 => 5
  | 5 => 4
  | 6 => 6
  | _ => 3
def jal : Nat → Int
  | 2 => 13
  | 4 => 1
  | 5 => 14
  | 6 => 6
  | 7 => 8
  | _ => 0
def jah : Nat → Int
  | 2 => 13
  | 4 => 25
  | 5 => 14
  | 6 => 9
  | 7 => 8
  | _ => 1000
def jae : Nat → Nat
  | 4 => 18
  | 5 => 13
  | 6 => 2
  | _ => 10
def jlo (tm : Int) : Nat → Int
  | 2 => 0
  | 8 => 0
  | 9 => 0
  | 10 => 0
  | 5 => 0
  | 6 => -1
  | 7 => tm
  | _ => -2147483648
def jhi (tm : Int) : Nat → Int
  | 2 => 1
  | 5 => 340
  | 6 => 30
  | 7 => tm
  | 8 => 60
  | 10 => 1000
  | _ => 2147483647
/-- a field of that code is an int -/
def jci (c : Nat) : Bool := decide (c < 100 ∧ c ≠ 1 ∧ c ≠ 4)
section JTY
variable (K L : Nat → Nat) (R : Nat → Nat → Nat)
/-- the kinds fit -/
def jTY : Prop := (∀ a i c, (jfs (K a))[i]? = some c → 100 ≤ c → K (R a i) = c - 100) ∧ (∀ a, 1 ≤ K a → K a ≤ 7 → jal (K a) ≤ (L a : Int) ∧ (L a : Int) ≤ jah (K a)) ∧ (∀ a i, 4 ≤ K a → K a ≤ 7 → i < L a → K (R a i) = jae (K a)) ∧ (∀ a, K a = 12 → L (R a 0) = 60) ∧ (∀ a, K a = 27 → L (R a 0) = 200) ∧ (∀ a, K a = 17 → L (R a 0) = 340) ∧ (∀ a b, K a = 27 → K b = 27 → a = b) ∧ (∀ a, K a = 10 → L (R a 0) = 6)
def jfv (tm : Int) (c a i : Nat) (v : Value) : Prop :=
  if 100 ≤ c then v = .ref (R a i) else if c = 1 then ∃ x : Int, jR x ∧ v = .long (jl x) else if c = 4 then ∃ b, (K b = 17 ∨ K b = 27) ∧ v = .ref b else ∃ x : Int, jlo tm c ≤ x ∧ x ≤ jhi tm c ∧ v = .int (jn x)
/-- a cell is of that kind -/
def jCf (tm : Int) (k a : Nat) (e : mj_E) : Prop :=
  if k ≤ 7 then ∃ f : Nat → Value, e = .inl (jak k, L a, f) ∧ (∀ i, if k = 1 ∨ k = 3 then ∃ x : Int, jr x ∧ f i = .int (jn x) else if k = 2 then ∃ x : Int, jR x ∧ f i = .long (jl x) else i < L a → f i = .ref (R a i))
  else ∃ fs : List Value, e = .inr (jkc k, fs) ∧ fs.length = (jfs k).length ∧ ∀ i c, (jfs k)[i]? = some c → ∃ v, fs[i]? = some v ∧ jfv K R tm c a i v
/-- the class's cells are of their kinds, the others as in g -/
def jO (g : mj_H) (n : Nat) (tm : Int) (h : mj_H) : Prop := h.length = n ∧ (0 ≤ tm ∧ tm ≤ 200) ∧ (∀ a, K a = 0 → (a < g.length → h[a]? = g[a]?) ∧ (g.length ≤ a → a < n → h[a]? = some (.inr (99, [.null, .null, .null, .null, .null, .null])))) ∧ (∀ a, K a ≠ 0 → ∃ e, h[a]? = some e ∧ jCf K L R tm (K a) a e)
end JTY
/-- what an int field holds; what a place of an array of ints holds -/
def jfI (h : mj_H) (a i : Nat) : Int := match h[a]? with
  | some (.inr (_, fs)) => (match fs[i]? with
    | some (.int x) => x.toInt
    | _ => 0)
  | _ => 0
def jaI (h : mj_H) (a i : Nat) : Int := match h[a]? with
  | some (.inl (_, _, f)) => (match f i with
    | .int x => x.toInt
    | _ => 0)
  | _ => 0
theorem jlo_r {tm : Int} (ht : 0 ≤ tm ∧ tm ≤ 200) (c : Nat) : -2147483648 ≤ jlo tm c := by
  unfold jlo
  split <;> omega
theorem jhi_r {tm : Int} (ht : 0 ≤ tm ∧ tm ≤ 200) (c : Nat) : jhi tm c ≤ 2147483647 := by
  unfold jhi
  split <;> omega
section JTC
variable {K L : Nat → Nat} {R : Nat → Nat → Nat} {g : mj_H} {n : Nat} {tm : Int} {h : mj_H}
theorem jO.obj (o : jO K L R g n tm h) {a k : Nat} (ka : K a = k) (hk : 7 < k) : ∃ fs : List Value, h[a]? = some (.inr (jkc k, fs)) ∧ fs.length = (jfs k).length ∧ ∀ i c, (jfs k)[i]? = some c → ∃ v, fs[i]? = some v ∧ jfv K R tm c a i v := by
  subst ka
  obtain ⟨e, h1, h2⟩ := o.2.2.2 a (by omega)
  unfold jCf at h2
  rw [if_neg (by omega)] at h2
  obtain ⟨fs, h3, h4⟩ := h2
  exact ⟨fs, by rw [h1, h3], h4⟩
theorem jO.arr (o : jO K L R g n tm h) {a k : Nat} (ka : K a = k) (hk : 1 ≤ k) (hk2 : k ≤ 7) : ∃ f : Nat → Value, h[a]? = some (.inl (jak k, L a, f)) ∧ (∀ i, if k = 1 ∨ k = 3 then ∃ x : Int, jr x ∧ f i = .int (jn x) else if k = 2 then ∃ x : Int, jR x ∧ f i = .long (jl x) else i < L a → f i = .ref (R a i)) := by
  subst ka
  obtain ⟨e, h1, h2⟩ := o.2.2.2 a (by omega)
  unfold jCf at h2
  rw [if_pos hk2] at h2
  obtain ⟨f, h3, h4⟩ := h2
  exact ⟨f, by rw [h1, h3], h4⟩
/-- a cell is exchanged for one of its kind -/
theorem jO.set (o : jO K L R g n tm h) {a : Nat} {e : mj_E} (ka : K a ≠ 0) (he : jCf K L R tm (K a) a e) : jO K L R g n tm (h.set a e) := by
  refine ⟨by rw [List.length_set]; exact o.1, o.2.1, fun b hb => ?_, fun b hb => ?_⟩
  · rw [List.getElem?_set_ne (by intro q; rw [q] at ka; exact ka hb)]
    exact o.2.2.1 b hb
  · by_cases q : a = b
    · subst q
      obtain ⟨e0, h1, _⟩ := o.2.2.2 a ka
      refine ⟨e, ?_, he⟩
      rw [List.getElem?_set_self (by exact (List.getElem?_eq_some_iff.mp h1).1)]
    · rw [List.getElem?_set_ne q]
      exact o.2.2.2 b hb
theorem jO.app (o : jO K L R g n tm h) (hg : g.length ≤ n) : jO K L R g (n + 1) tm (h ++ [(.inr (99, [.null, .null, .null, .null, .null, .null]))]) := by
  refine ⟨by rw [List.length_append, o.1]; rfl, o.2.1, fun b hb => ⟨fun hb2 => ?_, fun h1 h2 => ?_⟩, fun b hb => ?_⟩
  · rw [List.getElem?_append_left (by rw [o.1]; omega)]
    exact (o.2.2.1 b hb).1 hb2
  · by_cases c : b < n
    · rw [List.getElem?_append_left (by rw [o.1]; exact c)]
      exact (o.2.2.1 b hb).2 h1 c
    · have c2 : b = h.length := by rw [o.1]; omega
      subst c2
      rw [List.getElem?_append_right (Nat.le_refl _), Nat.sub_self]
      rfl
  · obtain ⟨e0, h1, h2⟩ := o.2.2.2 b hb
    exact ⟨e0, by rw [List.getElem?_append_left (List.getElem?_eq_some_iff.mp h1).1]; exact h1, h2⟩
theorem jO.recv (o : jO K L R g n tm h) {a k : Nat} (ka : K a = k) (hk : 7 < k) : ∃ fs, h[a]? = some (.inr (jkc k, fs)) := by
  obtain ⟨fs, h1, _⟩ := o.obj ka hk
  exact ⟨fs, h1⟩
end JTC
