/-! The class's cells by kinds: 1 ints, 2 a row of longs, 3 bytes, 4 to 7 arrays of Wide, Poly, rows, Bench, 10 + c an object of class c, 27 the buffer's Text. Rules for the steps over such a heap. -/
/-- the codes of the fields: 0 int, 1 long, 2 boolean, 4 the Reader's text, 5 a length, 6 a degree, 7 the buffer's length, 8 the divisor's size, 9 how many points, 10 a Wide's size; 100 + k: a cell of kind k, for good -/
def jfs : Nat → List Nat
  | 10 => [106, 101, 101, 9]
  | 11 => [113, 113, 113, 113, 118, 118, 118, 112]
  | 12 => [101, 8, 0, 1]
  | 13 => [104, 118, 6]
  | 14 => [111, 4, 0, 0, 2, 106, 106, 102]
  | 15 => [111, 116, 2, 0, 0, 1, 118, 2, 118, 118, 118, 118]
  | 16 => [111, 105, 0, 118, 118, 118]
  | 17 => [103, 5]
  | 18 => [101, 10, 0]
  | 19 => [110, 107, 0, 0, 127, 117, 117, 111, 116, 115, 114, 118, 118, 102, 102, 0]
  | 27 => [103, 7]
  | _ => []
def jkc (k : Nat) : Nat := if k = 27 then 7 else k - 10
/-- the machine's kind of an array, its least and its greatest length, what it holds -/
def jak : Nat → Nat
  | 1 => 0
  | 2 => 1
  | 3 => 2
  | 4 => 5
  | 5 => 4
  | 6 => 6
  | _ => 3
def jal : Nat → Int
  | 2 => 13
  | 4 => 1
  | 5 => 14
  | 6 => 6
  | 7 => 8
  | _ => 0
def jah : Nat → Int
  | 2 => 13
  | 4 => 25
  | 5 => 14
  | 6 => 9
  | 7 => 8
  | _ => 1000
def jae : Nat → Nat
  | 4 => 18
  | 5 => 13
  | 6 => 2
  | _ => 10
def jlo (tm : Int) : Nat → Int
  | 2 => 0
  | 8 => 0
  | 9 => 0
  | 10 => 0
  | 5 => 0
  | 6 => -1
  | 7 => tm
  | _ => -2147483648
def jhi (tm : Int) : Nat → Int
  | 2 => 1
  | 5 => 340
  | 6 => 30
  | 7 => tm
  | 8 => 60
  | 10 => 1000
  | _ => 2147483647
/-- a field of that code is an int -/
def jci (c : Nat) : Bool := decide (c < 100 ∧ c ≠ 1 ∧ c ≠ 4)
section JTY
variable (K L : Nat → Nat) (R : Nat → Nat → Nat)
/-- the kinds fit -/
def jTY : Prop := (∀ a i c, (jfs (K a))[i]? = some c → 100 ≤ c → K (R a i) = c - 100) ∧ (∀ a, 1 ≤ K a → K a ≤ 7 → jal (K a) ≤ (L a : Int) ∧ (L a : Int) ≤ jah (K a)) ∧ (∀ a i, 4 ≤ K a → K a ≤ 7 → i < L a → K (R a i) = jae (K a)) ∧ (∀ a, K a = 12 → L (R a 0) = 60) ∧ (∀ a, K a = 27 → L (R a 0) = 200) ∧ (∀ a, K a = 17 → L (R a 0) = 340) ∧ (∀ a b, K a = 27 → K b = 27 → a = b) ∧ (∀ a, K a = 10 → L (R a 0) = 6)
def jfv (tm : Int) (c a i : Nat) (v : Value) : Prop :=
  if 100 ≤ c then v = .ref (R a i) else if c = 1 then ∃ x : Int, jR x ∧ v = .long (jl x) else if c = 4 then ∃ b, (K b = 17 ∨ K b = 27) ∧ v = .ref b else ∃ x : Int, jlo tm c ≤ x ∧ x ≤ jhi tm c ∧ v = .int (jn x)
/-- a cell is of that kind -/
def jCf (tm : Int) (k a : Nat) (e : mj_E) : Prop :=
  if k ≤ 7 then ∃ f : Nat → Value, e = .inl (jak k, L a, f) ∧ (∀ i, if k = 1 ∨ k = 3 then ∃ x : Int, jr x ∧ f i = .int (jn x) else if k = 2 then ∃ x : Int, jR x ∧ f i = .long (jl x) else i < L a → f i = .ref (R a i))
  else ∃ fs : List Value, e = .inr (jkc k, fs) ∧ fs.length = (jfs k).length ∧ ∀ i c, (jfs k)[i]? = some c → ∃ v, fs[i]? = some v ∧ jfv K R tm c a i v
/-- the class's cells are of their kinds, the others as in g -/
def jO (g : mj_H) (n : Nat) (tm : Int) (h : mj_H) : Prop := h.length = n ∧ (0 ≤ tm ∧ tm ≤ 200) ∧ (∀ a, K a = 0 → (a < g.length → h[a]? = g[a]?) ∧ (g.length ≤ a → a < n → h[a]? = some (.inr (99, [.null, .null, .null, .null, .null, .null])))) ∧ (∀ a, K a ≠ 0 → ∃ e, h[a]? = some e ∧ jCf K L R tm (K a) a e)
end JTY
/-- what an int field holds; what a place of an array of ints holds -/
def jfI (h : mj_H) (a i : Nat) : Int := match h[a]? with
  | some (.inr (_, fs)) => (match fs[i]? with
    | some (.int x) => x.toInt
    | _ => 0)
  | _ => 0
def jaI (h : mj_H) (a i : Nat) : Int := match h[a]? with
  | some (.inl (_, _, f)) => (match f i with
    | .int x => x.toInt
    | _ => 0)
  | _ => 0
theorem jlo_r {tm : Int} (ht : 0 ≤ tm ∧ tm ≤ 200) (c : Nat) : -2147483648 ≤ jlo tm c := by
  unfold jlo
  split <;> omega
theorem jhi_r {tm : Int} (ht : 0 ≤ tm ∧ tm ≤ 200) (c : Nat) : jhi tm c ≤ 2147483647 := by
  unfold jhi
  split <;> omega
section JTC
variable {K L : Nat → Nat} {R : Nat → Nat → Nat} {g : mj_H} {n : Nat} {tm : Int} {h : mj_H}
theorem jO.obj (o : jO K L R g n tm h) {a k : Nat} (ka : K a = k) (hk : 7 < k) : ∃ fs : List Value, h[a]? = some (.inr (jkc k, fs)) ∧ fs.length = (jfs k).length ∧ ∀ i c, (jfs k)[i]? = some c → ∃ v, fs[i]? = some v ∧ jfv K R tm c a i v := by
  subst ka
  obtain ⟨e, h1, h2⟩ := o.2.2.2 a (by omega)
  unfold jCf at h2
  rw [if_neg (by omega)] at h2
  obtain ⟨fs, h3, h4⟩ := h2
  exact ⟨fs, by rw [h1, h3], h4⟩
theorem jO.arr (o : jO K L R g n tm h) {a k : Nat} (ka : K a = k) (hk : 1 ≤ k) (hk2 : k ≤ 7) : ∃ f : Nat → Value, h[a]? = some (.inl (jak k, L a, f)) ∧ (∀ i, if k = 1 ∨ k = 3 then ∃ x : Int, jr x ∧ f i = .int (jn x) else if k = 2 then ∃ x : Int, jR x ∧ f i = .long (jl x) else i < L a → f i = .ref (R a i)) := by
  subst ka
  obtain ⟨e, h1, h2⟩ := o.2.2.2 a (by omega)
  unfold jCf at h2
  rw [if_pos hk2] at h2
  obtain ⟨f, h3, h4⟩ := h2
  exact ⟨f, by rw [h1, h3], h4⟩
/-- a cell is exchanged for one of its kind -/
theorem jO.set (o : jO K L R g n tm h) {a : Nat} {e : mj_E} (ka : K a ≠ 0) (he : jCf K L R tm (K a) a e) : jO K L R g n tm (h.set a e) := by
  refine ⟨by rw [List.length_set]; exact o.1, o.2.1, fun b hb => ?_, fun b hb => ?_⟩
  · rw [List.getElem?_set_ne (by intro q; rw [q] at ka; exact ka hb)]
    exact o.2.2.1 b hb
  · by_cases q : a = b
    · subst q
      obtain ⟨e0, h1, _⟩ := o.2.2.2 a ka
      refine ⟨e, ?_, he⟩
      rw [List.getElem?_set_self (by exact (List.getElem?_eq_some_iff.mp h1).1)]
    · rw [List.getElem?_set_ne q]
      exact o.2.2.2 b hb
theorem jO.app (o : jO K L R g n tm h) (hg : g.length ≤ n) : jO K L R g (n + 1) tm (h ++ [(.inr (99, [.null, .null, .null, .null, .null, .null]))]) := by
  refine ⟨by rw [List.length_append, o.1]; rfl, o.2.1, fun b hb => ⟨fun hb2 => ?_, fun h1 h2 => ?_⟩, fun b hb => ?_⟩
  · rw [List.getElem?_append_left (by rw [o.1]; omega)]
    exact (o.2.2.1 b hb).1 hb2
  · by_cases c : b < n
    · rw [List.getElem?_append_left (by rw [o.1]; exact c)]
      exact (o.2.2.1 b hb).2 h1 c
    · have c2 : b = h.length := by rw [o.1]; omega
      subst c2
      rw [List.getElem?_append_right (Nat.le_refl _), Nat.sub_self]
      rfl
  · obtain ⟨e0, h1, h2⟩ := o.2.2.2 b hb
    exact ⟨e0, by rw [List.getElem?_append_left (List.getElem?_eq_some_iff.mp h1).1]; exact h1, h2⟩
theorem jO.recv (o : jO K L R g n tm h) {a k : Nat} (ka : K a = k) (hk : 7 < k) : ∃ fs, h[a]? = some (.inr (jkc k, fs)) := by
  obtain ⟨fs, h1, _⟩ := o.obj ka hk
  exact ⟨fs, h1⟩
end JTC
/-! Rules for the steps over the class's cells. -/
section JTR
variable {D pc : Nat} {M : mj_M} {loc : mj_L} {st : List Value} {h : mj_H} {Q : mj_R → Prop} {r1 r2 r3 r4 r5 : Nat}
variable {K L : Nat → Nat} {R : Nat → Nat → Nat} {g : mj_H} {n : Nat} {tm : Int}
theorem jfv_int {c a i : Nat} {v : Value} (hc : jci c = true) (q : jfv K R tm c a i v) : ∃ x : Int, jlo tm c ≤ x ∧ x ≤ jhi tm c ∧ v = .int (jn x) := by
  have hc := of_decide_eq_true hc
  unfold jfv at q
  rw [if_neg (by omega), if_neg hc.2.1, if_neg hc.2.2] at q
  exact q
theorem jfv_mk {c a i : Nat} {x : Int} (hc : jci c = true) (h1 : jlo tm c ≤ x) (h2 : x ≤ jhi tm c) : jfv K R tm c a i (.int (jn x)) := by
  have hc := of_decide_eq_true hc
  unfold jfv
  rw [if_neg (by omega), if_neg hc.2.1, if_neg hc.2.2]
  exact ⟨x, h1, h2, rfl⟩
theorem jT.getI {a f c i : Nat} (k : Nat) (cd : Nat) (o : jO K L R g n tm h) (hc : M.2.2.2.2.1 pc = some (.getfield f, c, i, r3, r4, r5)) (ka : K a = k) (hk : 7 < k) (hcl : jkc k = c) (hcd : (jfs k)[i]? = some cd) (hci : jci cd = true) (q : ∀ z, jlo tm cd ≤ z → z ≤ jhi tm cd → z = jfI h a i → mj_T D M (pc + 3) loc (.int (jn z) :: st) h Q) : mj_T D M pc loc (.ref a :: st) h Q := by
  obtain ⟨fs, h1, h2, h3⟩ := o.obj ka hk
  obtain ⟨v, h4, h5⟩ := h3 i cd hcd
  obtain ⟨x, h6, h7, h8⟩ := jfv_int hci h5
  subst h8
  have hx : jr x := ⟨by have := jlo_r o.2.1 cd; omega, by have := jhi_r o.2.1 cd; omega⟩
  refine mj_T.step hc rfl (pc' := pc + 3) (loc' := loc) (st' := .int (jn x) :: st) (h' := h) ?_ (q x h6 h7 ?_)
  · simp only [mj_step, h1, hcl, if_true, h4]
  · simp only [jfI, h1, h4, jn_toInt hx]
theorem jT.getL {a f c i : Nat} (k : Nat) (o : jO K L R g n tm h) (hc : M.2.2.2.2.1 pc = some (.getfield f, c, i, r3, r4, r5)) (ka : K a = k) (hk : 7 < k) (hcl : jkc k = c) (hcd : (jfs k)[i]? = some 1) (q : ∀ z, jR z → mj_T D M (pc + 3) loc (.long (jl z) :: st) h Q) : mj_T D M pc loc (.ref a :: st) h Q := by
  obtain ⟨fs, h1, h2, h3⟩ := o.obj ka hk
  obtain ⟨v, h4, h5⟩ := h3 i 1 hcd
  obtain ⟨x, h6, h8⟩ := h5
  subst h8
  exact mj_T.step hc rfl (by simp only [mj_step, h1, hcl, if_true, h4]) (q x h6)
theorem jT.getR {a f c i : Nat} (k cd kk : Nat) (ty : jTY K L R) (o : jO K L R g n tm h) (hc : M.2.2.2.2.1 pc = some (.getfield f, c, i, r3, r4, r5)) (ka : K a = k) (hk : 7 < k) (hcl : jkc k = c) (hcd : (jfs k)[i]? = some cd) (hkk : 100 + kk = cd) (q : K (R a i) = kk → mj_T D M (pc + 3) loc (.ref (R a i) :: st) h Q) : mj_T D M pc loc (.ref a :: st) h Q := by
  obtain ⟨fs, h1, h2, h3⟩ := o.obj ka hk
  obtain ⟨v, h4, h5⟩ := h3 i cd hcd
  unfold jfv at h5
  rw [if_pos (by omega)] at h5
  subst h5
  exact mj_T.step hc rfl (by simp only [mj_step, h1, hcl, if_true, h4]) (q (by rw [ty.1 a i cd (by rw [ka]; exact hcd) (by omega)]; omega))
theorem jT.getT {a f : Nat} (o : jO K L R g n tm h) (hc : M.2.2.2.2.1 pc = some (.getfield f, 4, 1, r3, r4, r5)) (ka : K a = 14) (q : ∀ b, (K b = 17 ∨ K b = 27) → mj_T D M (pc + 3) loc (.ref b :: st) h Q) : mj_T D M pc loc (.ref a :: st) h Q := by
  obtain ⟨fs, h1, h2, h3⟩ := o.obj ka (by decide)
  obtain ⟨v, h4, h5⟩ := h3 1 4 rfl
  obtain ⟨b, h6, h8⟩ := h5
  subst h8
  exact mj_T.step hc rfl (by
    simp only [mj_step, h1, h4]
    rfl) (q b h6)
/-- the length of a Text, whichever it is -/
theorem jT.getE {a f : Nat} (o : jO K L R g n tm h) (hc : M.2.2.2.2.1 pc = some (.getfield f, 7, 1, r3, r4, r5)) (ka : K a = 17 ∨ K a = 27) (q : ∀ z, 0 ≤ z → z ≤ 340 → z = jfI h a 1 → mj_T D M (pc + 3) loc (.int (jn z) :: st) h Q) : mj_T D M pc loc (.ref a :: st) h Q := by
  rcases ka with ka | ka
  · exact jT.getI 17 5 o hc ka (by decide) rfl rfl rfl (fun z h1 h2 h3 => q z h1 h2 h3)
  · refine jT.getI 27 7 o hc ka (by decide) rfl rfl rfl (fun z h1 h2 h3 => q z ?_ ?_ h3)
    · have := o.2.1; simp only [jlo] at h1; omega
    · have := o.2.1; simp only [jhi] at h2; omega
theorem jfI_set {a i : Nat} {c : Nat} {fs : List Value} (h1 : h[a]? = some (.inr (c, fs))) (hi : i < fs.length) (x : Int) (hx : jr x) : jfI (h.set a (.inr (c, fs.set i (.int (jn x))))) a i = x ∧ ∀ a' i', (a' ≠ a ∨ i' ≠ i) → jfI (h.set a (.inr (c, fs.set i (.int (jn x))))) a' i' = jfI h a' i' := by
  have hl := (List.getElem?_eq_some_iff.mp h1).1
  constructor
  · simp only [jfI]
    rw [List.getElem?_set_self hl]
    simp only
    rw [List.getElem?_set_self hi]
    simp only [jn_toInt hx]
  · intro a' i' q
    simp only [jfI]
    by_cases e : a = a'
    · subst e
      rw [List.getElem?_set_self hl, h1]
      simp only
      rw [List.getElem?_set_ne (by rcases q with q | q <;> omega)]
    · rw [List.getElem?_set_ne e]
theorem jCf_set {a k i cd : Nat} {fs : List Value} {v : Value} (hk : 7 < k) (h2 : fs.length = (jfs k).length) (h3 : ∀ i c, (jfs k)[i]? = some c → ∃ v, fs[i]? = some v ∧ jfv K R tm c a i v) (hcd : (jfs k)[i]? = some cd) (hv : jfv K R tm cd a i v) : jCf K L R tm k a (.inr (jkc k, fs.set i v)) := by
  have hi : i < fs.length := by rw [h2]; exact (List.getElem?_eq_some_iff.mp hcd).1
  unfold jCf
  rw [if_neg (by omega)]
  refine ⟨_, rfl, by rw [List.length_set]; exact h2, fun j c hj => ?_⟩
  by_cases e : i = j
  · subst e
    rw [hcd] at hj
    cases hj
    exact ⟨v, by rw [List.getElem?_set_self hi], hv⟩
  · rw [List.getElem?_set_ne e]
    exact h3 j c hj
theorem jT.putI {a f c i : Nat} (k cd : Nat) {x : Int} (o : jO K L R g n tm h) (hc : M.2.2.2.2.1 pc = some (.putfield f, c, i, r3, r4, r5)) (ka : K a = k) (hk : 7 < k) (hcl : jkc k = c) (hcd : (jfs k)[i]? = some cd) (hci : jci cd = true) (hr : r3 = 0 ∨ (r3 = 2 ∧ cd = 2)) (hlo : jlo tm cd ≤ x) (hhi : x ≤ jhi tm cd) (q : ∀ h', jO K L R g n tm h' → jfI h' a i = x → (∀ a' i', (a' ≠ a ∨ i' ≠ i) → jfI h' a' i' = jfI h a' i') → mj_T D M (pc + 3) loc st h' Q) : mj_T D M pc loc (.int (jn x) :: .ref a :: st) h Q := by
  obtain ⟨fs, h1, h2, h3⟩ := o.obj ka hk
  have hx : jr x := ⟨by have := jlo_r o.2.1 cd; omega, by have := jhi_r o.2.1 cd; omega⟩
  have hi : i < fs.length := by rw [h2]; exact (List.getElem?_eq_some_iff.mp hcd).1
  have hf : mj_fit r3 (.int (jn x)) = true := by
    rcases hr with hr | ⟨hr, hr2⟩
    · subst hr; rfl
    · subst hr hr2
      simp only [jlo, jhi] at hlo hhi
      have : x = 0 ∨ x = 1 := by omega
      rcases this with q | q
      · subst q; rfl
      · subst q; rfl
  subst hcl
  obtain ⟨e1, e2⟩ := jfI_set h1 hi x hx
  refine mj_T.step hc rfl (pc' := pc + 3) (loc' := loc) (st' := st) (h' := h.set a (.inr (jkc k, fs.set i (.int (jn x))))) ?_ (q _ ?_ e1 e2)
  · simp only [mj_step, h1, hi, hf, true_and, if_true]
  · refine o.set (by omega) ?_
    rw [ka]
    exact jCf_set hk h2 h3 hcd (jfv_mk hci hlo hhi)
theorem jfI_setv {a i : Nat} {c : Nat} {fs : List Value} (h1 : h[a]? = some (.inr (c, fs))) (hi : i < fs.length) (v : Value) : ∀ a' i', (a' ≠ a ∨ i' ≠ i) → jfI (h.set a (.inr (c, fs.set i v))) a' i' = jfI h a' i' := by
  have hl := (List.getElem?_eq_some_iff.mp h1).1
  intro a' i' q
  simp only [jfI]
  by_cases e : a = a'
  · subst e
    rw [List.getElem?_set_self hl, h1]
    simp only
    rw [List.getElem?_set_ne (by rcases q with q | q <;> omega)]
  · rw [List.getElem?_set_ne e]
theorem jT.putL {a f c i : Nat} (k : Nat) {x : Int} (hx : jR x) (o : jO K L R g n tm h) (hc : M.2.2.2.2.1 pc = some (.putfield f, c, i, 1, r4, r5)) (ka : K a = k) (hk : 7 < k) (hcl : jkc k = c) (hcd : (jfs k)[i]? = some 1) (q : ∀ h', jO K L R g n tm h' → (∀ a' i', (a' ≠ a ∨ i' ≠ i) → jfI h' a' i' = jfI h a' i') → mj_T D M (pc + 3) loc st h' Q) : mj_T D M pc loc (.long (jl x) :: .ref a :: st) h Q := by
  obtain ⟨fs, h1, h2, h3⟩ := o.obj ka hk
  have hi : i < fs.length := by rw [h2]; exact (List.getElem?_eq_some_iff.mp hcd).1
  subst hcl
  refine mj_T.step hc rfl (pc' := pc + 3) (loc' := loc) (st' := st) (h' := h.set a (.inr (jkc k, fs.set i (.long (jl x))))) ?_ (q _ ?_ (jfI_setv h1 hi _))
  · simp only [mj_step, h1, hi, true_and, mj_fit, if_true]
  · refine o.set (by omega) ?_
    rw [ka]
    exact jCf_set hk h2 h3 hcd ⟨x, hx, rfl⟩
theorem jT.putT {a f b : Nat} (o : jO K L R g n tm h) (hc : M.2.2.2.2.1 pc = some (.putfield f, 4, 1, 3, r4, r5)) (ka : K a = 14) (kb : K b = 17 ∨ K b = 27) (q : ∀ h', jO K L R g n tm h' → (∀ a' i', (a' ≠ a ∨ i' ≠ 1) → jfI h' a' i' = jfI h a' i') → mj_T D M (pc + 3) loc st h' Q) : mj_T D M pc loc (.ref b :: .ref a :: st) h Q := by
  obtain ⟨fs, h1, h2, h3⟩ := o.obj ka (by decide)
  have hi : 1 < fs.length := by rw [h2]; decide
  refine mj_T.step hc rfl (pc' := pc + 3) (loc' := loc) (st' := st) (h' := h.set a (.inr (jkc 14, fs.set 1 (.ref b)))) ?_ (q _ ?_ (jfI_setv h1 hi _))
  · simp only [mj_step, h1, hi, true_and, mj_fit, if_true]
    rfl
  · refine o.set (by omega) ?_
    rw [ka]
    exact jCf_set (by decide) h2 h3 rfl ⟨b, kb, rfl⟩
/-- the buffer's length -/
theorem jT.putB {a f : Nat} {x : Int} (u : ∀ b, K b = 27 → b = a) (o : jO K L R g n tm h) (hc : M.2.2.2.2.1 pc = some (.putfield f, 7, 1, 0, r4, r5)) (ka : K a = 27) (hx : 0 ≤ x ∧ x ≤ 200) (q : ∀ h', jO K L R g n x h' → jfI h' a 1 = x → (∀ a' i', (a' ≠ a ∨ i' ≠ 1) → jfI h' a' i' = jfI h a' i') → mj_T D M (pc + 3) loc st h' Q) : mj_T D M pc loc (.int (jn x) :: .ref a :: st) h Q := by
  obtain ⟨fs, h1, h2, h3⟩ := o.obj ka (by decide)
  have hi : 1 < fs.length := by rw [h2]; decide
  have hl := (List.getElem?_eq_some_iff.mp h1).1
  obtain ⟨e1, e2⟩ := jfI_set h1 hi x ⟨by omega, by omega⟩
  have hcf : ∀ {b c i : Nat} {v : Value}, c ≠ 7 → jfv K R tm c b i v → jfv K R x c b i v := by
    intro b c i v hc7 hv
    unfold jfv at hv ⊢
    split
    · rename_i q
      rw [if_pos q] at hv
      exact hv
    · rename_i q
      rw [if_neg q] at hv
      split
      · rename_i q
        rw [if_pos q] at hv
        exact hv
      · rename_i q
        rw [if_neg q] at hv
        split
        · rename_i q
          rw [if_pos q] at hv
          exact hv
        · rename_i q
          rw [if_neg q] at hv
          obtain ⟨y, y1, y2, y3⟩ := hv
          refine ⟨y, ?_, ?_, y3⟩
          · unfold jlo at y1 ⊢
            split <;> first | (exact absurd rfl hc7) | (simp only at y1; exact y1) | omega
          · unfold jhi at y2 ⊢
            split <;> first | (exact absurd rfl hc7) | (simp only at y2; exact y2) | omega
  refine mj_T.step hc rfl (pc' := pc + 3) (loc' := loc) (st' := st) (h' := h.set a (.inr (jkc 27, fs.set 1 (.int (jn x))))) ?_ (q _ ?_ e1 e2)
  · simp only [mj_step, h1, hi, true_and, mj_fit, if_true]
    rfl
  · refine ⟨by rw [List.length_set]; exact o.1, hx, fun b hb => ?_, fun b hb => ?_⟩
    · rw [List.getElem?_set_ne (by intro e; rw [e] at ka; omega)]
      exact o.2.2.1 b hb
    · by_cases e : a = b
      · subst e
        refine ⟨_, by rw [List.getElem?_set_self hl], ?_⟩
        rw [ka]
        unfold jCf
        rw [if_neg (by decide)]
        refine ⟨_, rfl, by rw [List.length_set]; exact h2, fun j c hj => ?_⟩
        by_cases e : 1 = j
        · subst e
          cases hj
          exact ⟨_, by rw [List.getElem?_set_self hi], ⟨x, Int.le_refl _, Int.le_refl _, rfl⟩⟩
        · rw [List.getElem?_set_ne e]
          obtain ⟨v, v1, v2⟩ := h3 j c hj
          refine ⟨v, v1, hcf ?_ v2⟩
          intro q7
          subst q7
          match j, hj, e with
          | 0, hj, _ => exact absurd hj (by decide)
          | 1, _, e => exact e rfl
          | j + 2, hj, _ => exact absurd hj (by simp [jfs])
      · rw [List.getElem?_set_ne e]
        obtain ⟨e0, k1, k2⟩ := o.2.2.2 b hb
        refine ⟨e0, k1, ?_⟩
        have hb27 : K b ≠ 27 := fun q => e (u b q).symm
        unfold jCf at k2 ⊢
        split
        · rename_i q
          rw [if_pos q] at k2
          exact k2
        · rename_i q
          rw [if_neg q] at k2
          obtain ⟨gs, g1, g2, g3⟩ := k2
          refine ⟨gs, g1, g2, fun j c hj => ?_⟩
          obtain ⟨v, v1, v2⟩ := g3 j c hj
          refine ⟨v, v1, hcf ?_ v2⟩
          intro q7
          subst q7
          have hm := List.mem_of_getElem? hj
          revert hm
          generalize K b = kb at hb27
          unfold jfs
          split <;> first | (exact absurd rfl hb27) | (intro hm; exact absurd hm (by decide))
end JTR
/-! Rules for arrays, whole numbers of any size, calls. -/
section JTA
variable {D pc : Nat} {M : mj_M} {loc : mj_L} {st : List Value} {h : mj_H} {Q : mj_R → Prop} {r1 r2 r3 r4 r5 : Nat}
variable {K L : Nat → Nat} {R : Nat → Nat → Nat} {g : mj_H} {n : Nat} {tm : Int}
theorem jT.alen {a : Nat} (k : Nat) (ty : jTY K L R) (o : jO K L R g n tm h) (hc : M.2.2.2.2.1 pc = some (.arraylength, r1, r2, r3, r4, r5)) (ka : K a = k) (hk : 1 ≤ k) (hk2 : k ≤ 7) (q : ∀ z, z = (L a : Int) → jal k ≤ z → z ≤ jah k → mj_T D M (pc + 1) loc (.int (jn z) :: st) h Q) : mj_T D M pc loc (.ref a :: st) h Q := by
  obtain ⟨f, h1, _⟩ := o.arr ka hk hk2
  have h2 := ty.2.1 a (by omega) (by omega)
  rw [ka] at h2
  exact mj_T.alen hc h1 (q _ rfl h2.1 h2.2)
theorem jah_r (k : Nat) : jah k ≤ 1000 := by
  unfold jah
  split <;> omega
theorem jT.iald {a : Nat} {i : Int} (o : jO K L R g n tm h) (hc : M.2.2.2.2.1 pc = some (.iaload, r1, r2, r3, r4, r5)) (ka : K a = 1) (hi : -2147483648 ≤ i ∧ i ≤ 2147483647) (h0 : 0 ≤ i ∧ i < L a) (q : ∀ z, -2147483648 ≤ z ∧ z ≤ 2147483647 → z = jaI h a i.toNat → mj_T D M (pc + 1) loc (.int (jn z) :: st) h Q) : mj_T D M pc loc (.int (jn i) :: .ref a :: st) h Q := by
  obtain ⟨f, h1, h2⟩ := o.arr ka (by decide) (by decide)
  have h3 := h2 i.toNat
  rw [if_pos (Or.inl rfl)] at h3
  obtain ⟨x, hx, h4⟩ := h3
  have hir : jr i := ⟨hi.1, by omega⟩
  have h5 : mj_in (jn i) (L a) = true := by rw [jn_in hir]; exact decide_eq_true h0
  refine mj_T.step hc rfl (pc' := pc + 1) (loc' := loc) (st' := .int (jn x) :: st) (h' := h) ?_ (q x ⟨hx.1, by have := hx.2; omega⟩ ?_)
  · simp only [mj_step, h1, h5, jn_nat h0.1 hir, jak, true_or, true_and, if_true, h4]
  · simp only [jaI, h1, h4, jn_toInt hx]
theorem jT.bald {a : Nat} {i : Int} (o : jO K L R g n tm h) (hc : M.2.2.2.2.1 pc = some (.baload, r1, r2, r3, r4, r5)) (ka : K a = 3) (hi : -2147483648 ≤ i ∧ i ≤ 2147483647) (h0 : 0 ≤ i ∧ i < L a) (q : ∀ z, -2147483648 ≤ z ∧ z ≤ 2147483647 → z = jaI h a i.toNat → mj_T D M (pc + 1) loc (.int (jn z) :: st) h Q) : mj_T D M pc loc (.int (jn i) :: .ref a :: st) h Q := by
  obtain ⟨f, h1, h2⟩ := o.arr ka (by decide) (by decide)
  have h3 := h2 i.toNat
  rw [if_pos (Or.inr rfl)] at h3
  obtain ⟨x, hx, h4⟩ := h3
  have hir : jr i := ⟨hi.1, by omega⟩
  have h5 : mj_in (jn i) (L a) = true := by rw [jn_in hir]; exact decide_eq_true h0
  refine mj_T.step hc rfl (pc' := pc + 1) (loc' := loc) (st' := .int (jn x) :: st) (h' := h) ?_ (q x ⟨hx.1, by have := hx.2; omega⟩ ?_)
  · simp only [mj_step, h1, h5, jn_nat h0.1 hir, jak, true_and, if_true, h4]
  · simp only [jaI, h1, h4, jn_toInt hx]
theorem jT.lald {a : Nat} {i : Int} (o : jO K L R g n tm h) (hc : M.2.2.2.2.1 pc = some (.laload, r1, r2, r3, r4, r5)) (ka : K a = 2) (hi : -2147483648 ≤ i ∧ i ≤ 2147483647) (h0 : 0 ≤ i ∧ i < L a) (q : ∀ z, jR z → mj_T D M (pc + 1) loc (.long (jl z) :: st) h Q) : mj_T D M pc loc (.int (jn i) :: .ref a :: st) h Q := by
  obtain ⟨f, h1, h2⟩ := o.arr ka (by decide) (by decide)
  have h3 := h2 i.toNat
  rw [if_neg (by decide), if_pos rfl] at h3
  obtain ⟨x, hx, h4⟩ := h3
  have hir : jr i := ⟨hi.1, by omega⟩
  have h5 : mj_in (jn i) (L a) = true := by rw [jn_in hir]; exact decide_eq_true h0
  exact mj_T.step hc rfl (by simp only [mj_step, h1, h5, jn_nat h0.1 hir, jak, true_and, if_true, h4]) (q x hx)
theorem jT.aald {a : Nat} {i : Int} (k kk : Nat) (ty : jTY K L R) (o : jO K L R g n tm h) (hc : M.2.2.2.2.1 pc = some (.aaload, r1, r2, r3, r4, r5)) (ka : K a = k) (hk : 4 ≤ k) (hk2 : k ≤ 7) (hkk : jae k = kk) (hi : -2147483648 ≤ i ∧ i ≤ 2147483647) (h0 : 0 ≤ i ∧ i < L a) (q : K (R a i.toNat) = kk → mj_T D M (pc + 1) loc (.ref (R a i.toNat) :: st) h Q) : mj_T D M pc loc (.int (jn i) :: .ref a :: st) h Q := by
  obtain ⟨f, h1, h2⟩ := o.arr ka (by omega) hk2
  have h3 := h2 i.toNat
  rw [if_neg (by omega), if_neg (by omega)] at h3
  have h4 := h3 (by omega)
  have hir : jr i := ⟨hi.1, by omega⟩
  have h5 : mj_in (jn i) (L a) = true := by rw [jn_in hir]; exact decide_eq_true h0
  have h6 : mj_isref (jak k) = true := by
    have : k = 4 ∨ k = 5 ∨ k = 6 ∨ k = 7 := by omega
    rcases this with q | q | q | q <;> (subst q; rfl)
  refine mj_T.step hc rfl (pc' := pc + 1) (loc' := loc) (st' := .ref (R a i.toNat) :: st) (h' := h) ?_ (q ?_)
  · simp only [mj_step, h1, h5, h6, jn_nat h0.1 hir, true_and, if_true, h4]
  · rw [ty.2.2.1 a i.toNat (by omega) (by omega) (by omega), ka, hkk]
theorem jfI_arr {a t m : Nat} {f f' : Nat → Value} (h1 : h[a]? = some (.inl (t, m, f))) : ∀ a' i', jfI (h.set a (.inl (t, m, f'))) a' i' = jfI h a' i' := by
  have hl := (List.getElem?_eq_some_iff.mp h1).1
  intro a' i'
  simp only [jfI]
  by_cases e : a = a'
  · subst e
    rw [List.getElem?_set_self hl, h1]
  · rw [List.getElem?_set_ne e]
theorem jT.iast {a : Nat} {i x : Int} (o : jO K L R g n tm h) (hc : M.2.2.2.2.1 pc = some (.iastore, r1, r2, r3, r4, r5)) (ka : K a = 1) (hi : -2147483648 ≤ i ∧ i ≤ 2147483647) (h0 : 0 ≤ i ∧ i < L a) (hx : -2147483648 ≤ x ∧ x ≤ 2147483647) (q : ∀ h', jO K L R g n tm h' → (∀ a' i', jfI h' a' i' = jfI h a' i') → mj_T D M (pc + 1) loc st h' Q) : mj_T D M pc loc (.int (jn x) :: .int (jn i) :: .ref a :: st) h Q := by
  obtain ⟨f, h1, h2⟩ := o.arr ka (by decide) (by decide)
  have hir : jr i := ⟨hi.1, by omega⟩
  have h5 : mj_in (jn i) (L a) = true := by rw [jn_in hir]; exact decide_eq_true h0
  refine mj_T.step hc rfl (pc' := pc + 1) (loc' := loc) (st' := st) (h' := h.set a (.inl (jak 1, L a, updV f i.toNat (.int (jn x))))) ?_ (q _ ?_ (jfI_arr h1))
  · simp only [mj_step, h1, h5, jn_nat h0.1 hir, jak, true_and, if_true]
  · refine o.set (by omega) ?_
    rw [ka]
    unfold jCf
    rw [if_pos (by decide)]
    refine ⟨_, rfl, fun j => ?_⟩
    rw [if_pos (Or.inl rfl)]
    have h3 := h2 j
    rw [if_pos (Or.inl rfl)] at h3
    unfold updV
    split
    · exact ⟨x, ⟨hx.1, by omega⟩, rfl⟩
    · exact h3
theorem jT.bast {a : Nat} {i x : Int} (o : jO K L R g n tm h) (hc : M.2.2.2.2.1 pc = some (.bastore, r1, r2, r3, r4, r5)) (ka : K a = 3) (hi : -2147483648 ≤ i ∧ i ≤ 2147483647) (h0 : 0 ≤ i ∧ i < L a) (q : ∀ h', jO K L R g n tm h' → (∀ a' i', jfI h' a' i' = jfI h a' i') → mj_T D M (pc + 1) loc st h' Q) : mj_T D M pc loc (.int (jn x) :: .int (jn i) :: .ref a :: st) h Q := by
  obtain ⟨f, h1, h2⟩ := o.arr ka (by decide) (by decide)
  have hir : jr i := ⟨hi.1, by omega⟩
  have h5 : mj_in (jn i) (L a) = true := by rw [jn_in hir]; exact decide_eq_true h0
  refine mj_T.step hc rfl (pc' := pc + 1) (loc' := loc) (st' := st) (h' := h.set a (.inl (jak 3, L a, updV f i.toNat (.int (jn x).toInt8.toInt32)))) ?_ (q _ ?_ (jfI_arr h1))
  · simp only [mj_step, h1, h5, jn_nat h0.1 hir, jak, true_and, if_true]
  · refine o.set (by omega) ?_
    rw [ka]
    unfold jCf
    rw [if_pos (by decide)]
    refine ⟨_, rfl, fun j => ?_⟩
    rw [if_pos (Or.inr rfl)]
    have h3 := h2 j
    rw [if_pos (Or.inr rfl)] at h3
    unfold updV
    split
    · exact ⟨_, jr_of _, by rw [jn_of]⟩
    · exact h3
theorem jT.last {a : Nat} {i x : Int} (o : jO K L R g n tm h) (hc : M.2.2.2.2.1 pc = some (.lastore, r1, r2, r3, r4, r5)) (ka : K a = 2) (hi : -2147483648 ≤ i ∧ i ≤ 2147483647) (h0 : 0 ≤ i ∧ i < L a) (hx : jR x) (q : ∀ h', jO K L R g n tm h' → (∀ a' i', jfI h' a' i' = jfI h a' i') → mj_T D M (pc + 1) loc st h' Q) : mj_T D M pc loc (.long (jl x) :: .int (jn i) :: .ref a :: st) h Q := by
  obtain ⟨f, h1, h2⟩ := o.arr ka (by decide) (by decide)
  have hir : jr i := ⟨hi.1, by omega⟩
  have h5 : mj_in (jn i) (L a) = true := by rw [jn_in hir]; exact decide_eq_true h0
  refine mj_T.step hc rfl (pc' := pc + 1) (loc' := loc) (st' := st) (h' := h.set a (.inl (jak 2, L a, updV f i.toNat (.long (jl x))))) ?_ (q _ ?_ (jfI_arr h1))
  · simp only [mj_step, h1, h5, jn_nat h0.1 hir, jak, true_and, if_true]
  · refine o.set (by omega) ?_
    rw [ka]
    unfold jCf
    rw [if_pos (by decide)]
    refine ⟨_, rfl, fun j => ?_⟩
    rw [if_neg (by decide), if_pos rfl]
    have h3 := h2 j
    rw [if_neg (by decide), if_pos rfl] at h3
    unfold updV
    split
    · exact ⟨x, hx, rfl⟩
    · exact h3
/-- whatever int, whatever long -/
theorem jT.anyI {w : Int32} (q : ∀ z, -2147483648 ≤ z ∧ z ≤ 2147483647 → mj_T D M pc loc (.int (jn z) :: st) h Q) : mj_T D M pc loc (.int w :: st) h Q := by
  have := q w.toInt ⟨(jr_of w).1, by have := (jr_of w).2; omega⟩
  rwa [jn_of] at this
theorem jT.anyL {w : Int64} (q : ∀ z, jR z → mj_T D M pc loc (.long (jl z) :: st) h Q) : mj_T D M pc loc (.long w :: st) h Q := by
  have := q w.toInt (jR_of w)
  rwa [jl_of] at this
theorem jT.wrap (a : Int) (q : ∀ z, -2147483648 ≤ z ∧ z ≤ 2147483647 → (-2147483648 ≤ a ∧ a ≤ 2147483647 → z = a) → mj_T D M pc loc (.int (jn z) :: st) h Q) : mj_T D M pc loc (.int (jn a) :: st) h Q := by
  have := q (jn a).toInt ⟨(jr_of _).1, by have := (jr_of (jn a)).2; omega⟩ (fun r => jn_toInt ⟨r.1, by omega⟩)
  rwa [jn_of] at this
theorem jT.wrapL (a : Int) (q : ∀ z, jR z → (jR a → z = a) → mj_T D M pc loc (.long (jl z) :: st) h Q) : mj_T D M pc loc (.long (jl a) :: st) h Q := by
  have := q (jl a).toInt (jR_of _) (fun r => jl_toInt r)
  rwa [jl_of] at this
theorem jT.iadd {a b : Int} (hc : M.2.2.2.2.1 pc = some (.iadd, r1, r2, r3, r4, r5)) (q : ∀ z, -2147483648 ≤ z ∧ z ≤ 2147483647 → (-2147483648 ≤ a + b ∧ a + b ≤ 2147483647 → z = a + b) → mj_T D M (pc + 1) loc (.int (jn z) :: st) h Q) : mj_T D M pc loc (.int (jn b) :: .int (jn a) :: st) h Q := mj_T.iadd hc (jT.wrap _ q)
theorem jT.isub {a b : Int} (hc : M.2.2.2.2.1 pc = some (.isub, r1, r2, r3, r4, r5)) (q : ∀ z, -2147483648 ≤ z ∧ z ≤ 2147483647 → (-2147483648 ≤ a - b ∧ a - b ≤ 2147483647 → z = a - b) → mj_T D M (pc + 1) loc (.int (jn z) :: st) h Q) : mj_T D M pc loc (.int (jn b) :: .int (jn a) :: st) h Q := mj_T.isub hc (jT.wrap _ q)
theorem jT.imul {a b : Int} (hc : M.2.2.2.2.1 pc = some (.imul, r1, r2, r3, r4, r5)) (q : ∀ z, -2147483648 ≤ z ∧ z ≤ 2147483647 → (-2147483648 ≤ a * b ∧ a * b ≤ 2147483647 → z = a * b) → mj_T D M (pc + 1) loc (.int (jn z) :: st) h Q) : mj_T D M pc loc (.int (jn b) :: .int (jn a) :: st) h Q := mj_T.imul hc (jT.wrap _ q)
theorem jT.ineg {a : Int} (hc : M.2.2.2.2.1 pc = some (.ineg, r1, r2, r3, r4, r5)) (q : ∀ z, -2147483648 ≤ z ∧ z ≤ 2147483647 → (-2147483648 ≤ -a ∧ -a ≤ 2147483647 → z = -a) → mj_T D M (pc + 1) loc (.int (jn z) :: st) h Q) : mj_T D M pc loc (.int (jn a) :: st) h Q := mj_T.ineg hc (jT.wrap _ q)
theorem jn_ne0' {b : Int} (hb : -2147483648 ≤ b ∧ b ≤ 2147483647) (h0 : b ≠ 0) : ¬ (jn b = 0) := by rw [show (0 : Int32) = jn 0 from rfl, jn_eq ⟨hb.1, by omega⟩ ⟨by decide, by decide⟩]; exact h0
theorem jl_ne0' {b : Int} (hb : jR b) (h0 : b ≠ 0) : ¬ (jl b = 0) := by rw [show (0 : Int64) = jl 0 from rfl, jl_eq hb ⟨by decide, by decide⟩]; exact h0
theorem jT.idiv {a b : Int} (hc : M.2.2.2.2.1 pc = some (.idiv, r1, r2, r3, r4, r5)) (hb : -2147483648 ≤ b ∧ b ≤ 2147483647) (h0 : b ≠ 0) (q : ∀ z, -2147483648 ≤ z ∧ z ≤ 2147483647 → mj_T D M (pc + 1) loc (.int (jn z) :: st) h Q) : mj_T D M pc loc (.int (jn b) :: .int (jn a) :: st) h Q := mj_T.step (pc' := pc + 1) (loc' := loc) (st' := .int (jn a / jn b) :: st) (h' := h) hc rfl (by simp only [mj_step, if_neg (jn_ne0' hb h0)]) (jT.anyI q)
theorem jT.irem {a b : Int} (hc : M.2.2.2.2.1 pc = some (.irem, r1, r2, r3, r4, r5)) (hb : -2147483648 ≤ b ∧ b ≤ 2147483647) (h0 : b ≠ 0) (q : ∀ z, -2147483648 ≤ z ∧ z ≤ 2147483647 → mj_T D M (pc + 1) loc (.int (jn z) :: st) h Q) : mj_T D M pc loc (.int (jn b) :: .int (jn a) :: st) h Q := mj_T.step (pc' := pc + 1) (loc' := loc) (st' := .int (jn a - jn a / jn b * jn b) :: st) (h' := h) hc rfl (by simp only [mj_step, if_neg (jn_ne0' hb h0)]) (jT.anyI q)
theorem jT.ldiv {a b : Int} (hc : M.2.2.2.2.1 pc = some (.ldiv, r1, r2, r3, r4, r5)) (hb : jR b) (h0 : b ≠ 0) (q : ∀ z, jR z → mj_T D M (pc + 1) loc (.long (jl z) :: st) h Q) : mj_T D M pc loc (.long (jl b) :: .long (jl a) :: st) h Q := mj_T.step (pc' := pc + 1) (loc' := loc) (st' := .long (jl a / jl b) :: st) (h' := h) hc rfl (by simp only [mj_step, if_neg (jl_ne0' hb h0)]) (jT.anyL q)
theorem jT.lrem {a b : Int} (hc : M.2.2.2.2.1 pc = some (.lrem, r1, r2, r3, r4, r5)) (hb : jR b) (h0 : b ≠ 0) (q : ∀ z, jR z → mj_T D M (pc + 1) loc (.long (jl z) :: st) h Q) : mj_T D M pc loc (.long (jl b) :: .long (jl a) :: st) h Q := mj_T.step (pc' := pc + 1) (loc' := loc) (st' := .long (jl a - jl a / jl b * jl b) :: st) (h' := h) hc rfl (by simp only [mj_step, if_neg (jl_ne0' hb h0)]) (jT.anyL q)
theorem jT.ladd {a b : Int} (hc : M.2.2.2.2.1 pc = some (.ladd, r1, r2, r3, r4, r5)) (q : ∀ z, jR z → (jR (a + b) → z = a + b) → mj_T D M (pc + 1) loc (.long (jl z) :: st) h Q) : mj_T D M pc loc (.long (jl b) :: .long (jl a) :: st) h Q := mj_T.ladd hc (jT.wrapL _ q)
theorem jT.lsub {a b : Int} (hc : M.2.2.2.2.1 pc = some (.lsub, r1, r2, r3, r4, r5)) (q : ∀ z, jR z → (jR (a - b) → z = a - b) → mj_T D M (pc + 1) loc (.long (jl z) :: st) h Q) : mj_T D M pc loc (.long (jl b) :: .long (jl a) :: st) h Q := mj_T.lsub hc (jT.wrapL _ q)
theorem jT.lmul {a b : Int} (hc : M.2.2.2.2.1 pc = some (.lmul, r1, r2, r3, r4, r5)) (q : ∀ z, jR z → (jR (a * b) → z = a * b) → mj_T D M (pc + 1) loc (.long (jl z) :: st) h Q) : mj_T D M pc loc (.long (jl b) :: .long (jl a) :: st) h Q := mj_T.lmul hc (jT.wrapL _ q)
theorem jT.lneg {a : Int} (hc : M.2.2.2.2.1 pc = some (.lneg, r1, r2, r3, r4, r5)) (q : ∀ z, jR z → (jR (-a) → z = -a) → mj_T D M (pc + 1) loc (.long (jl z) :: st) h Q) : mj_T D M pc loc (.long (jl a) :: st) h Q := mj_T.lneg hc (jT.wrapL _ q)
theorem jT.l2i {a : Int} (hc : M.2.2.2.2.1 pc = some (.l2i, r1, r2, r3, r4, r5)) (q : ∀ z, -2147483648 ≤ z ∧ z ≤ 2147483647 → (-2147483648 ≤ a ∧ a ≤ 2147483647 → z = a) → mj_T D M (pc + 1) loc (.int (jn z) :: st) h Q) : mj_T D M pc loc (.long (jl a) :: st) h Q := mj_T.l2i hc (jT.wrap _ q)
theorem jT.i2l {a : Int} (hc : M.2.2.2.2.1 pc = some (.i2l, r1, r2, r3, r4, r5)) (ha : -2147483648 ≤ a ∧ a ≤ 2147483647) (q : mj_T D M (pc + 1) loc (.long (jl a) :: st) h Q) : mj_T D M pc loc (.int (jn a) :: st) h Q := mj_T.i2l hc ⟨ha.1, by omega⟩ q
theorem jT.iinc {i : Nat} {x a : Int} (hc : M.2.2.2.2.1 pc = some (.iinc i x, r1, r2, r3, r4, r5)) (hl : loc[i]? = some (some (.int (jn a)))) (q : ∀ z, -2147483648 ≤ z ∧ z ≤ 2147483647 → (-2147483648 ≤ a + x ∧ a + x ≤ 2147483647 → z = a + x) → mj_T D M (pc + 3) (mj_st1 loc i (.int (jn z))) st h Q) : mj_T D M pc loc st h Q := by
  have := q (jn (a + x)).toInt ⟨(jr_of _).1, by have := (jr_of (jn (a + x))).2; omega⟩ (fun r => jn_toInt ⟨r.1, by omega⟩)
  rw [jn_of] at this
  exact mj_T.iinc hc hl this
theorem jT.imax {a b : Int} {ins : Instr} (hc : M.2.2.2.2.1 pc = some (ins, r1, r2, 2, r4, r5)) (hk : mj_kind ins 2 = 4) (hcat : mj_cat st ≤ 20) (ha : -2147483648 ≤ a ∧ a ≤ 2147483647) (hb : -2147483648 ≤ b ∧ b ≤ 2147483647) (q : ∀ z, z = max a b → mj_T D M (pc + 3) loc (.int (jn z) :: st) h Q) : mj_T D M pc loc (.int (jn b) :: .int (jn a) :: st) h Q := mj_T.imax hc hk hcat ⟨ha.1, by omega⟩ ⟨hb.1, by omega⟩ (q _ rfl)
theorem jT.imin {a b : Int} {ins : Instr} (hc : M.2.2.2.2.1 pc = some (ins, r1, r2, 3, r4, r5)) (hk : mj_kind ins 3 = 4) (hcat : mj_cat st ≤ 20) (ha : -2147483648 ≤ a ∧ a ≤ 2147483647) (hb : -2147483648 ≤ b ∧ b ≤ 2147483647) (q : ∀ z, z = min a b → mj_T D M (pc + 3) loc (.int (jn z) :: st) h Q) : mj_T D M pc loc (.int (jn b) :: .int (jn a) :: st) h Q := mj_T.imin hc hk hcat ⟨ha.1, by omega⟩ ⟨hb.1, by omega⟩ (q _ rfl)
theorem jT.icmp {c : ClassFile.Cond} {o : Int} {a b : Int} (hc : M.2.2.2.2.1 pc = some (.if_icmp c o, r1, r2, r3, r4, r5)) (ha : -2147483648 ≤ a ∧ a ≤ 2147483647) (hb : -2147483648 ≤ b ∧ b ≤ 2147483647) (k1 : jc c a b = true → mj_T D M r1 loc st h Q) (k2 : jc c a b = false → mj_T D M (pc + 3) loc st h Q) : mj_T D M pc loc (.int (jn b) :: .int (jn a) :: st) h Q := mj_T.icmp hc ⟨ha.1, by omega⟩ ⟨hb.1, by omega⟩ k1 k2
theorem jT.if0 {c : ClassFile.Cond} {o : Int} {a : Int} (hc : M.2.2.2.2.1 pc = some (.ifCond c o, r1, r2, r3, r4, r5)) (ha : -2147483648 ≤ a ∧ a ≤ 2147483647) (k1 : jc c a 0 = true → mj_T D M r1 loc st h Q) (k2 : jc c a 0 = false → mj_T D M (pc + 3) loc st h Q) : mj_T D M pc loc (.int (jn a) :: st) h Q := mj_T.if0 hc ⟨ha.1, by omega⟩ k1 k2
theorem jT.anyF (q : ∀ z, -2147483648 ≤ z ∧ z ≤ 2147483647 → mj_T D M pc loc (.int (jn z) :: st) h Q) (w : Int32) : mj_T D M pc loc (.int w :: st) h Q := jT.anyI q
/-- how a method of the class ends: with a value as V says or by one of those exceptions -/
def jQ (K L : Nat → Nat) (R : Nat → Nat → Nat) (g : mj_H) (n : Nat) (tm : Int) (exc : List Nat) (V : Option Value → Prop) (r : mj_R) : Prop := match r.1 with
  | .inl v => V v ∧ jO K L R g n tm r.2
  | .inr i => i ∈ exc ∧ jO K L R g (n + 1) tm r.2
/-- the same, and a normal end leaves the heap -/
def jQp (K L : Nat → Nat) (R : Nat → Nat → Nat) (g : mj_H) (n : Nat) (tm : Int) (h : mj_H) (exc : List Nat) (V : Option Value → Prop) (r : mj_R) : Prop := match r.1 with
  | .inl v => V v ∧ r.2 = h
  | .inr i => i ∈ exc ∧ jO K L R g (n + 1) tm r.2
def jV0 (v : Option Value) : Prop := v = none
def jVi (lo hi : Int) (v : Option Value) : Prop := ∃ z : Int, lo ≤ z ∧ z ≤ hi ∧ v = some (.int (jn z))
def jVl (v : Option Value) : Prop := ∃ z : Int, jR z ∧ v = some (.long (jl z))
def jVr (K : Nat → Nat) (k : Nat) (v : Option Value) : Prop := ∃ a, K a = k ∧ v = some (.ref a)
theorem jsub {A B : List Nat} (hs : (A.all fun i => B.contains i) = true) {i : Nat} (hi : i ∈ A) : i ∈ B := by
  have := List.all_eq_true.mp hs i hi
  exact List.contains_iff_mem.mp this
theorem jT.call {V : Option Value → Prop} {A exc : List Nat} {ins : Instr} {as : List Value} {V' : Option Value → Prop} (hc : M.2.2.2.2.1 pc = some (ins, r1, r2, r3, r4, r5)) (hk : mj_kind ins r3 = 3) (hl : r2 ≤ st.length) (hcat : mj_cat (st.drop r2) ≤ 8) (hr : mj_recv ins r2 r5 st h = true) (has : (st.take r2).reverse = as) (hcall : mj_Ok D r1 as h (jQ K L R g n tm A V)) (hM : M.2.2.2.2.2.1 = []) (hs : (A.all fun i => exc.contains i) = true) (q : ∀ v h', V v → jO K L R g n tm h' → mj_T D M (pc + 3) loc (v.toList ++ st.drop r2) h' (jQ K L R g n tm exc V')) : mj_T D M pc loc st h (jQ K L R g n tm exc V') :=
  mj_T.call hc hk hl hcat hr has hcall (fun v h' hq => q v h' hq.1 hq.2) (fun i h' hq => Or.inl ⟨hM, jsub hs hq.1, hq.2⟩)
/-- a call that leaves the heap -/
theorem jT.callp {V : Option Value → Prop} {A exc : List Nat} {ins : Instr} {as : List Value} {V' : Option Value → Prop} (hc : M.2.2.2.2.1 pc = some (ins, r1, r2, r3, r4, r5)) (hk : mj_kind ins r3 = 3) (hl : r2 ≤ st.length) (hcat : mj_cat (st.drop r2) ≤ 8) (hr : mj_recv ins r2 r5 st h = true) (has : (st.take r2).reverse = as) (hcall : mj_Ok D r1 as h (jQp K L R g n tm h A V)) (hM : M.2.2.2.2.2.1 = []) (hs : (A.all fun i => exc.contains i) = true) (q : ∀ v, V v → mj_T D M (pc + 3) loc (v.toList ++ st.drop r2) h (jQ K L R g n tm exc V')) : mj_T D M pc loc st h (jQ K L R g n tm exc V') :=
  mj_T.call hc hk hl hcat hr has hcall (fun v h' hq => by
    obtain ⟨h1, h2⟩ := hq
    have h2 : h' = h := h2
    subst h2
    exact q v h1) (fun i h' hq => Or.inl ⟨hM, jsub hs hq.1, hq.2⟩)
theorem jT.callpp {V : Option Value → Prop} {A exc : List Nat} {ins : Instr} {as : List Value} {V' : Option Value → Prop} {h0 : mj_H} (hc : M.2.2.2.2.1 pc = some (ins, r1, r2, r3, r4, r5)) (hk : mj_kind ins r3 = 3) (hl : r2 ≤ st.length) (hcat : mj_cat (st.drop r2) ≤ 8) (hr : mj_recv ins r2 r5 st h = true) (has : (st.take r2).reverse = as) (hcall : mj_Ok D r1 as h (jQp K L R g n tm h A V)) (hM : M.2.2.2.2.2.1 = []) (hs : (A.all fun i => exc.contains i) = true) (q : ∀ v, V v → mj_T D M (pc + 3) loc (v.toList ++ st.drop r2) h (jQp K L R g n tm h0 exc V')) : mj_T D M pc loc st h (jQp K L R g n tm h0 exc V') :=
  mj_T.call hc hk hl hcat hr has hcall (fun v h' hq => by
    obtain ⟨h1, h2⟩ := hq
    have h2 : h' = h := h2
    subst h2
    exact q v h1) (fun i h' hq => Or.inl ⟨hM, jsub hs hq.1, hq.2⟩)
theorem jrv_of {a k c r2 : Nat} (o : jO K L R g n tm h) (ka : K a = k) (hk : 7 < k) (hcl : jkc k = c) (hr : 1 ≤ r2) (hd : st.drop (r2 - 1) = .ref a :: st.drop r2) : ∀ m, mj_recv (.invokevirtual m) r2 c st h = true := by
  intro m
  obtain ⟨fs, h1⟩ := o.recv ka hk
  match r2, hr, hd with
  | r2 + 1, _, hd =>
    simp only [mj_recv, hd, h1, hcl, decide_true]
/-- the exception that the method throws itself -/
theorem jT.thr {exc : List Nat} {V : Option Value → Prop} {ins : Instr} (o : jO K L R g n tm h) (hg : g.length ≤ n) (hc : M.2.2.2.2.1 pc = some (ins, r1, r2, r3, r4, r5)) (hk : mj_kind ins r3 = 2) (hh : M.2.2.2.2.2.1 = []) (hs : mj_cat st ≤ 8) (he : exc.contains r1 = true) : mj_T D M pc loc st h (jQ K L R g n tm exc V) := mj_T.throws hc hk hh hs ⟨List.contains_iff_mem.mp he, o.app hg⟩
theorem jT.thrp {exc : List Nat} {V : Option Value → Prop} {ins : Instr} {h0 : mj_H} (o : jO K L R g n tm h) (hg : g.length ≤ n) (hc : M.2.2.2.2.1 pc = some (ins, r1, r2, r3, r4, r5)) (hk : mj_kind ins r3 = 2) (hh : M.2.2.2.2.2.1 = []) (hs : mj_cat st ≤ 8) (he : exc.contains r1 = true) : mj_T D M pc loc st h (jQp K L R g n tm h0 exc V) := mj_T.throws hc hk hh hs ⟨List.contains_iff_mem.mp he, o.app hg⟩
theorem jT.ret {exc : List Nat} {V : Option Value → Prop} {ins : Instr} {v : Option Value} (o : jO K L R g n tm h) (hc : M.2.2.2.2.1 pc = some (ins, r1, r2, r3, r4, r5)) (hk : mj_kind ins r3 = 1) (hs : mj_retv ins M.2.2.2.1 st = some v) (hv : V v) : mj_T D M pc loc st h (jQ K L R g n tm exc V) := mj_T.ret hc hk hs ⟨hv, o⟩
theorem jT.retp {exc : List Nat} {V : Option Value → Prop} {ins : Instr} {v : Option Value} (hc : M.2.2.2.2.1 pc = some (ins, r1, r2, r3, r4, r5)) (hk : mj_kind ins r3 = 1) (hs : mj_retv ins M.2.2.2.1 st = some v) (hv : V v) : mj_T D M pc loc st h (jQp K L R g n tm h exc V) := mj_T.ret hc hk hs ⟨hv, rfl⟩
/-- a boolean that is returned -/
theorem jT.retb {exc : List Nat} {x : Int} (o : jO K L R g n tm h) (hc : M.2.2.2.2.1 pc = some (.ireturn, r1, r2, r3, r4, r5)) (hret : M.2.2.2.1 = some .boolean) (h0 : 0 ≤ x) (h1 : x ≤ 1) : mj_T D M pc loc [.int (jn x)] h (jQ K L R g n tm exc (jVi 0 1)) := by
  refine mj_T.ret hc rfl (v := some (.int (jn x))) ?_ ⟨⟨x, h0, h1, rfl⟩, o⟩
  have : x = 0 ∨ x = 1 := by omega
  simp only [mj_retv, hret]
  rcases this with q | q
  · subst q; rfl
  · subst q; rfl
theorem jT.retbp {exc : List Nat} {x : Int} (hc : M.2.2.2.2.1 pc = some (.ireturn, r1, r2, r3, r4, r5)) (hret : M.2.2.2.1 = some .boolean) (h0 : 0 ≤ x) (h1 : x ≤ 1) : mj_T D M pc loc [.int (jn x)] h (jQp K L R g n tm h exc (jVi 0 1)) := by
  refine mj_T.ret hc rfl (v := some (.int (jn x))) ?_ ⟨⟨x, h0, h1, rfl⟩, rfl⟩
  have : x = 0 ∨ x = 1 := by omega
  simp only [mj_retv, hret]
  rcases this with q | q
  · subst q; rfl
  · subst q; rfl
end JTA
/-! More rules: known fields, constants, lengths, conditions. -/
def jVp (p : Prop) (v : Option Value) : Prop := v = none ∧ p
section JTD
variable {D pc : Nat} {M : mj_M} {loc : mj_L} {st : List Value} {h : mj_H} {Q : mj_R → Prop} {r1 r2 r3 r4 r5 : Nat}
variable {K L : Nat → Nat} {R : Nat → Nat → Nat} {g : mj_H} {n : Nat} {tm : Int}
theorem jT.getK {a f c i : Nat} (k cd : Nat) {x : Int} (o : jO K L R g n tm h) (hc : M.2.2.2.2.1 pc = some (.getfield f, c, i, r3, r4, r5)) (ka : K a = k) (hk : 7 < k) (hcl : jkc k = c) (hcd : (jfs k)[i]? = some cd) (hci : jci cd = true) (hx : jfI h a i = x) (q : mj_T D M (pc + 3) loc (.int (jn x) :: st) h Q) : mj_T D M pc loc (.ref a :: st) h Q :=
  jT.getI k cd o hc ka hk hcl hcd hci (fun z _ _ e => by rw [e, hx]; exact q)
theorem jl_nat (w : Nat) : Int64.ofNat w = jl (w : Int) := by
  first
    | exact Int64.ofInt_eq_ofNat.symm
    | exact (Int64.ofInt_eq_ofNat w).symm
    | (show (⟨⟨BitVec.ofNat 64 w⟩⟩ : Int64) = ⟨⟨BitVec.ofInt 64 w⟩⟩; rw [BitVec.ofInt_natCast])
    | rfl
theorem jn_nat0 (w : Nat) : Int32.ofNat w = jn (w : Int) := by
  first
    | exact Int32.ofInt_eq_ofNat.symm
    | exact (Int32.ofInt_eq_ofNat w).symm
    | (show (⟨⟨BitVec.ofNat 32 w⟩⟩ : Int32) = ⟨⟨BitVec.ofInt 32 w⟩⟩; rw [BitVec.ofInt_natCast])
    | rfl
theorem jT.ldcL {x : Nat} {w : Nat} (hc : M.2.2.2.2.1 pc = some (.ldc2_w x, w, 0, r3, r4, r5)) (q : mj_T D M (pc + 3) loc (.long (jl (w : Int)) :: st) h Q) : mj_T D M pc loc st h Q := by
  rw [← jl_nat] at q
  exact mj_T.step hc rfl rfl q
theorem jT.ldcI {x : Nat} {w : Nat} (hc : M.2.2.2.2.1 pc = some (.ldc x, w, 0, r3, r4, r5)) (q : mj_T D M (pc + 2) loc (.int (jn (w : Int)) :: st) h Q) : mj_T D M pc loc st h Q := by
  rw [← jn_nat0] at q
  exact mj_T.step hc rfl rfl q
theorem jT.lc (w : Nat) {x : Fin 2} (hc : M.2.2.2.2.1 pc = some (.lconst x, r1, r2, r3, r4, r5)) (hw : x.val = w) (q : mj_T D M (pc + 1) loc (.long (jl (w : Int)) :: st) h Q) : mj_T D M pc loc st h Q := by
  rw [← jl_nat] at q
  subst hw
  exact mj_T.step hc rfl rfl q
theorem jlen {a : Nat} (k : Nat) (ty : jTY K L R) (ka : K a = k) (hk : 1 ≤ k) (hk2 : k ≤ 7) : jal k ≤ (L a : Int) ∧ (L a : Int) ≤ jah k := by
  have h2 := ty.2.1 a (by omega) (by omega)
  rw [ka] at h2
  exact h2
theorem jT.getRE {a f : Nat} (ty : jTY K L R) (o : jO K L R g n tm h) (hc : M.2.2.2.2.1 pc = some (.getfield f, 7, 0, r3, r4, r5)) (ka : K a = 17 ∨ K a = 27) (q : K (R a 0) = 3 → mj_T D M (pc + 3) loc (.ref (R a 0) :: st) h Q) : mj_T D M pc loc (.ref a :: st) h Q := by
  rcases ka with ka | ka
  · exact jT.getR 17 103 3 ty o hc ka (by decide) rfl rfl rfl q
  · exact jT.getR 27 103 3 ty o hc ka (by decide) rfl rfl rfl q
theorem jne1 {p : Prop} [Decidable p] (q : (!decide p) = true) : ¬ p := by simpa using q
theorem jne2 {p : Prop} [Decidable p] (q : (!decide p) = false) : p := by simpa using q
theorem jInd {P : Nat → Prop} (q : ∀ k, (∀ m, m < k → P m) → P k) (k : Nat) : P k := Nat.strongRecOn k q
theorem jrv_ofE {a r2 : Nat} (o : jO K L R g n tm h) (ka : K a = 17 ∨ K a = 27) (hr : 1 ≤ r2) (hd : st.drop (r2 - 1) = .ref a :: st.drop r2) : ∀ m, mj_recv (.invokevirtual m) r2 7 st h = true := by
  rcases ka with ka | ka
  · exact jrv_of o ka (by decide) rfl hr hd
  · exact jrv_of o ka (by decide) rfl hr hd
theorem jsq {i z : Int} (h : 2 ≤ i ∧ i ≤ 10) (e : (-2147483648 ≤ i * i ∧ i * i ≤ 2147483647) → z = i * i) : z ≤ 97 → i ≤ 9 := by
  intro hz
  by_cases c : i ≤ 9
  · exact c
  · have c2 : i = 10 := by omega
    subst c2
    have := e ⟨by decide, by decide⟩
    omega
/-- ten to the i -/
def jPW (i u : Int) : Prop := ∃ k : Nat, i = (k : Int) ∧ k ≤ 18 ∧ u = 10 ^ k
theorem jPW.s {i u i' u' : Int} (q : jPW i u) (h : i < 18) (h1 : i' = i + 1) (h2 : u' = u * 10) : jPW i' u' := by
  obtain ⟨k, a, b, c⟩ := q
  exact ⟨k + 1, by omega, by omega, by rw [h2, c, Int.pow_succ]⟩
theorem jPW.b {i u : Int} (q : jPW i u) : 0 < u ∧ (i < 18 → u ≤ 100000000000000000) ∧ u ≤ 1000000000000000000 := by
  obtain ⟨k, a, b, c⟩ := q
  subst c
  have h1 : ∀ k : Nat, k ≤ 18 → (0 < (10 : Int) ^ k ∧ (k < 18 → (10 : Int) ^ k ≤ 100000000000000000) ∧ (10 : Int) ^ k ≤ 1000000000000000000) := by decide
  obtain ⟨h2, h3, h4⟩ := h1 k b
  exact ⟨h2, fun h => h3 (by omega), h4⟩
def jVd (v : Option Value) : Prop := ∃ x, v = some (.double x)
def jVf (v : Option Value) : Prop := ∃ k : Nat, k < 10 ∧ v = some (.float (FP.fdiv (FP.i2f (Int32.ofNat k)) (UInt32.ofNat 1086324736)))
theorem jmean : ∀ k, k < 118 → FP.ddiv (FP.i2d (Int32.ofNat k)) (UInt64.ofNat 4618441417868443648) &&& 0x7fffffffffffffff ≤ 0x7ff0000000000000 := by decide +kernel
theorem jshare : ∀ k, k < 10 → FP.fdiv (FP.i2f (Int32.ofNat k)) (UInt32.ofNat 1086324736) &&& 0x7fffffff ≤ 0x7f800000 := by decide +kernel
theorem jT.mean {z : Int} {x y : Nat} {exc : List Nat} (hz : 0 ≤ z ∧ z ≤ 117) {q1 q2 q3 q4 q5 : Nat} {s1 s2 s3 s4 s5 : Nat} {t1 t2 t3 t4 t5 : Nat} {w3 w4 w5 : Nat} (h1 : M.2.2.2.2.1 pc = some (.i2d, q1, q2, q3, q4, q5)) (h2 : M.2.2.2.2.1 (pc + 1) = some (.ldc2_w x, 4618441417868443648, 1, w3, w4, w5)) (h3 : M.2.2.2.2.1 (pc + 1 + 3) = some (.ddiv, s1, s2, s3, s4, s5)) (h4 : M.2.2.2.2.1 (pc + 1 + 3 + 1) = some (.dreturn, t1, t2, t3, t4, t5)) (hr : M.2.2.2.1 = some .double) : mj_T D M pc loc [.int (jn z)] h (jQp K L R g n tm h exc jVd) := by
  refine mj_T.step h1 rfl rfl (mj_T.step h2 rfl rfl (mj_T.step (st' := [.double (FP.ddiv (FP.i2d (jn z)) (UInt64.ofNat 4618441417868443648))]) (h' := h) (loc' := loc) (pc' := pc + 1 + 3 + 1) h3 rfl ?_ (mj_T.ret h4 rfl (v := some (.double (FP.ddiv (FP.i2d (jn z)) (UInt64.ofNat 4618441417868443648)))) ?_ ⟨⟨_, rfl⟩, rfl⟩)))
  · obtain ⟨k, rfl⟩ : ∃ k : Nat, z = (k : Int) := ⟨z.toNat, by omega⟩
    have := jmean k (by omega)
    rw [jn_nat0] at this
    simp only [mj_step]
    rw [if_pos this]
  · simp only [mj_retv, hr]
theorem jT.share {z : Int} {x y : Nat} {exc : List Nat} (hz : 0 ≤ z ∧ z ≤ 9) {q1 q2 q3 q4 q5 : Nat} {s1 s2 s3 s4 s5 : Nat} {t1 t2 t3 t4 t5 : Nat} {w3 w4 w5 : Nat} (h1 : M.2.2.2.2.1 pc = some (.i2f, q1, q2, q3, q4, q5)) (h2 : M.2.2.2.2.1 (pc + 1) = some (.ldc_w x, 1086324736, 1, w3, w4, w5)) (h3 : M.2.2.2.2.1 (pc + 1 + 3) = some (.fdiv, s1, s2, s3, s4, s5)) (h4 : M.2.2.2.2.1 (pc + 1 + 3 + 1) = some (.freturn, t1, t2, t3, t4, t5)) (hr : M.2.2.2.1 = some .float) : mj_T D M pc loc [.int (jn z)] h (jQp K L R g n tm h exc jVf) := by
  refine mj_T.step h1 rfl rfl (mj_T.step h2 rfl rfl (mj_T.step (st' := [.float (FP.fdiv (FP.i2f (jn z)) (UInt32.ofNat 1086324736))]) (h' := h) (loc' := loc) (pc' := pc + 1 + 3 + 1) h3 rfl ?_ (mj_T.ret h4 rfl (v := some (.float (FP.fdiv (FP.i2f (jn z)) (UInt32.ofNat 1086324736)))) ?_ ⟨⟨z.toNat, by omega, by rw [jn_nat0, Int.toNat_of_nonneg hz.1]⟩, rfl⟩)))
  · obtain ⟨k, rfl⟩ : ∃ k : Nat, z = (k : Int) := ⟨z.toNat, by omega⟩
    have := jshare k (by omega)
    rw [jn_nat0] at this
    simp only [mj_step]
    rw [if_pos this]
  · simp only [mj_retv, hr]
end JTD
