/-! A fast machine, made to be computed by the kernel: numbers as naturals in two's complement, arrays and the heap as trees, symbols within bounds. This part: its data. -/
/-- what a value may be but an int, a place, a long: an int s * m + c of the i-th symbol s, the i-th symbol as a long, the place in a list by a symbol, a double, a float, then null, unknown, the parts of a long of two symbols and the long -/
abbrev mq_W3 : Type := Sum (Nat × Nat × Nat) (Sum Nat (Sum (Nat × Nat × List Nat) (Sum UInt64 (Sum UInt32 (Option (Option (Option Bool)))))))
/-- a value: int, place, long, another -/
abbrev mq_W : Type := Sum Nat (Sum Nat (Sum Nat mq_W3))
abbrev mq_U : mq_W := (Sum.inr (Sum.inr (Sum.inr (Sum.inr (Sum.inr (Sum.inr (Sum.inr (Sum.inr (some none)))))))))
abbrev mq_T (α : Type) : Type := Lean.RArray α
/-- powers of four symbols; a sum of products of such and whole numbers p - n -/
abbrev mq_Mn : Type := Nat × Nat × Nat × Nat
abbrev mq_Pl : Type := List (mq_Mn × Nat × Nat)
/-- a whole number: p - n, or a sum of products of symbols (none at all: a number that nothing is known of) -/
abbrev mq_N : Type := Sum (Nat × Nat) mq_Pl
/-- nothing known; an array: elements' kind, length, depth, tree; an object: its class, its fields; a number of the class: its limbs' place, their room, the number; a divisor; the limbs of such a number; the reference's great row -/
abbrev mq_C : Type := Option (Sum (Nat × Nat × Nat × mq_T mq_W) (Sum (Nat × List mq_W) (Sum (Nat × Nat × mq_N) (Sum (Nat × Nat × mq_N) (Sum Nat (mq_T mq_N))))))
abbrev mq_Hp : Type := mq_T mq_C
/-- the heap: the cells that were set of late, the others -/
abbrev mq_Ht : Type := List (Nat × mq_C) × mq_Hp
/-- a symbol's bounds -/
abbrev mq_V : Type := List (Nat × Nat)
theorem mq_Wd (w : mq_W) : (∃ n, w = (Sum.inl n)) ∨ (∃ a, w = (Sum.inr (Sum.inl a))) ∨ (∃ n, w = (Sum.inr (Sum.inr (Sum.inl n)))) ∨ (∃ i m c, w = (Sum.inr (Sum.inr (Sum.inr (Sum.inl (i, m, c)))))) ∨ (∃ i, w = (Sum.inr (Sum.inr (Sum.inr (Sum.inr (Sum.inl i)))))) ∨ (∃ i lo l, w = (Sum.inr (Sum.inr (Sum.inr (Sum.inr (Sum.inr (Sum.inl (i, lo, l)))))))) ∨ (∃ x, w = (Sum.inr (Sum.inr (Sum.inr (Sum.inr (Sum.inr (Sum.inr (Sum.inl x)))))))) ∨ (∃ x, w = (Sum.inr (Sum.inr (Sum.inr (Sum.inr (Sum.inr (Sum.inr (Sum.inr (Sum.inl x))))))))) ∨ w = (Sum.inr (Sum.inr (Sum.inr (Sum.inr (Sum.inr (Sum.inr (Sum.inr (Sum.inr none)))))))) ∨ w = (Sum.inr (Sum.inr (Sum.inr (Sum.inr (Sum.inr (Sum.inr (Sum.inr (Sum.inr (some none))))))))) ∨ w = (Sum.inr (Sum.inr (Sum.inr (Sum.inr (Sum.inr (Sum.inr (Sum.inr (Sum.inr (some (some none)))))))))) ∨ w = (Sum.inr (Sum.inr (Sum.inr (Sum.inr (Sum.inr (Sum.inr (Sum.inr (Sum.inr (some (some (some true)))))))))))  ∨ w = (Sum.inr (Sum.inr (Sum.inr (Sum.inr (Sum.inr (Sum.inr (Sum.inr (Sum.inr (some (some (some false))))))))))) :=
  match w with
  | .inl n => Or.inl ⟨n, rfl⟩
  | .inr (.inl a) => Or.inr (Or.inl ⟨a, rfl⟩)
  | .inr (.inr (.inl n)) => Or.inr (Or.inr (Or.inl ⟨n, rfl⟩))
  | .inr (.inr (.inr (.inl (i, m, c)))) => Or.inr (Or.inr (Or.inr (Or.inl ⟨i, m, c, rfl⟩)))
  | .inr (.inr (.inr (.inr (.inl i)))) => Or.inr (Or.inr (Or.inr (Or.inr (Or.inl ⟨i, rfl⟩))))
  | .inr (.inr (.inr (.inr (.inr (.inl (i, lo, l)))))) => Or.inr (Or.inr (Or.inr (Or.inr (Or.inr (Or.inl ⟨i, lo, l, rfl⟩)))))
  | .inr (.inr (.inr (.inr (.inr (.inr (.inl x)))))) => Or.inr (Or.inr (Or.inr (Or.inr (Or.inr (Or.inr (Or.inl ⟨x, rfl⟩))))))
  | .inr (.inr (.inr (.inr (.inr (.inr (.inr (.inl x))))))) => Or.inr (Or.inr (Or.inr (Or.inr (Or.inr (Or.inr (Or.inr (Or.inl ⟨x, rfl⟩)))))))
  | .inr (.inr (.inr (.inr (.inr (.inr (.inr (.inr none))))))) => Or.inr (Or.inr (Or.inr (Or.inr (Or.inr (Or.inr (Or.inr (Or.inr (Or.inl rfl))))))))
  | .inr (.inr (.inr (.inr (.inr (.inr (.inr (.inr (some none)))))))) => Or.inr (Or.inr (Or.inr (Or.inr (Or.inr (Or.inr (Or.inr (Or.inr (Or.inr (Or.inl rfl)))))))))
  | .inr (.inr (.inr (.inr (.inr (.inr (.inr (.inr (some (some none))))))))) => Or.inr (Or.inr (Or.inr (Or.inr (Or.inr (Or.inr (Or.inr (Or.inr (Or.inr (Or.inr (Or.inl rfl))))))))))
  | .inr (.inr (.inr (.inr (.inr (.inr (.inr (.inr (some (some (some true)))))))))) => Or.inr (Or.inr (Or.inr (Or.inr (Or.inr (Or.inr (Or.inr (Or.inr (Or.inr (Or.inr (Or.inr (Or.inl rfl)))))))))))
  | .inr (.inr (.inr (.inr (.inr (.inr (.inr (.inr (some (some (some false)))))))))) => Or.inr (Or.inr (Or.inr (Or.inr (Or.inr (Or.inr (Or.inr (Or.inr (Or.inr (Or.inr (Or.inr (Or.inr rfl)))))))))))
noncomputable def mq_nth {α : Type} (df : α) (l : List α) : Nat → α := List.rec (motive := fun _ => Nat → α) (fun _ => df) (fun x _ ih i => Nat.rec (motive := fun _ => α) x (fun m _ => ih m) i) l
noncomputable def mq_nup {α : Type} (df : α) (l : List α) : Nat → α → List α := List.rec (motive := fun _ => Nat → α → List α) (fun i v => Nat.rec (motive := fun _ => List α) [v] (fun _ t => df :: t) i) (fun x t ih i v => Nat.rec (motive := fun _ => List α) (v :: t) (fun m _ => x :: ih m v) i) l
/-- a tree: at a fork the places from the first number on lie to the right -/
noncomputable def mq_get {α : Type} (t : mq_T α) : Nat → α := Lean.RArray.rec (motive := fun _ => Nat → α) (fun v _ => v) (fun p _ _ gl gr i => Bool.rec (motive := fun _ => Nat → α) gl gr (Nat.ble p i) i) t
noncomputable def mq_st {α : Type} (dep : Nat) : Nat → mq_T α → Nat → α → mq_T α := Nat.rec (motive := fun _ => Nat → mq_T α → Nat → α → mq_T α) (fun _ _ _ v => .leaf v) (fun d ih lo t i v => Lean.RArray.rec (motive := fun _ => mq_T α)
  (fun w => Bool.rec (motive := fun _ => mq_T α) (.branch (Nat.add lo (Nat.pow (nat_lit 2) d)) (ih lo (.leaf w) i v) (.leaf w)) (.branch (Nat.add lo (Nat.pow (nat_lit 2) d)) (.leaf w) (ih (Nat.add lo (Nat.pow (nat_lit 2) d)) (.leaf w) i v)) (Nat.ble (Nat.add lo (Nat.pow (nat_lit 2) d)) i))
  (fun p a b _ _ => Bool.rec (motive := fun _ => mq_T α) (.branch p (ih lo a i v) b) (.branch p a (ih p b i v)) (Nat.ble p i)) t) dep
noncomputable def mq_set {α : Type} (dep : Nat) (t : mq_T α) (i : Nat) (v : α) : mq_T α := mq_st dep 0 t i v
/-- the same tree, made at once -/
noncomputable def mq_sk {α : Type} (dep : Nat) : Nat → mq_T α → Nat → α → (mq_T α → Bool) → Bool := Nat.rec (motive := fun _ => Nat → mq_T α → Nat → α → (mq_T α → Bool) → Bool) (fun _ _ _ v k => k (.leaf v)) (fun d ih lo t i v k => Lean.RArray.rec (motive := fun _ => Nat → (Nat → mq_T α → Nat → α → (mq_T α → Bool) → Bool) → Nat → Nat → α → (mq_T α → Bool) → Bool)
  (fun w q ih lo i v k => Bool.rec (motive := fun _ => Bool) (ih lo (.leaf w) i v fun a => k (.branch q a (.leaf w))) (ih q (.leaf w) i v fun b => k (.branch q (.leaf w) b)) (Nat.ble q i))
  (fun p a b _ _ _ ih lo i v k => Bool.rec (motive := fun _ => Bool) (ih lo a i v fun a => k (.branch p a b)) (ih p b i v fun b => k (.branch p a b)) (Nat.ble p i)) t (Nat.add lo (Nat.pow (nat_lit 2) d)) ih lo i v k) dep
noncomputable def mq_setK {α : Type} (dep : Nat) (t : mq_T α) (i : Nat) (v : α) (k : mq_T α → Bool) : Bool := mq_sk dep 0 t i v k
theorem mq_nth_nil {α : Type} (df : α) (i : Nat) : mq_nth df [] i = df := rfl
theorem mq_nth_zero {α : Type} (df x : α) (l : List α) : mq_nth df (x :: l) 0 = x := rfl
theorem mq_nth_succ {α : Type} (df x : α) (l : List α) (i : Nat) : mq_nth df (x :: l) (i + 1) = mq_nth df l i := rfl
theorem mq_nth_eq {α : Type} (df : α) : ∀ (l : List α) (i : Nat), mq_nth df l i = l.getD i df
  | [], i => by simp [mq_nth_nil]
  | x :: l, 0 => rfl
  | x :: l, i + 1 => by rw [mq_nth_succ, mq_nth_eq df l i]; simp
theorem mq_nup_nil0 {α : Type} (df v : α) : mq_nup df [] 0 v = [v] := rfl
theorem mq_nup_nilS {α : Type} (df v : α) (i : Nat) : mq_nup df [] (i + 1) v = df :: mq_nup df [] i v := rfl
theorem mq_nup_zero {α : Type} (df x v : α) (l : List α) : mq_nup df (x :: l) 0 v = v :: l := rfl
theorem mq_nup_succ {α : Type} (df x v : α) (l : List α) (i : Nat) : mq_nup df (x :: l) (i + 1) v = x :: mq_nup df l i v := rfl
theorem mq_nth_nup {α : Type} (df v : α) : ∀ (l : List α) (i j : Nat), mq_nth df (mq_nup df l i v) j = if j = i then v else mq_nth df l j
  | [], 0, 0 => rfl
  | [], 0, j + 1 => by simp [mq_nup_nil0, mq_nth_succ, mq_nth_nil]
  | [], i + 1, 0 => by simp [mq_nup_nilS, mq_nth_zero, mq_nth_nil]
  | [], i + 1, j + 1 => by rw [mq_nup_nilS, mq_nth_succ, mq_nth_nup df v [] i j]; simp [mq_nth_nil]
  | x :: l, 0, 0 => rfl
  | x :: l, 0, j + 1 => by simp [mq_nup_zero, mq_nth_succ]
  | x :: l, i + 1, 0 => by simp [mq_nup_succ, mq_nth_zero]
  | x :: l, i + 1, j + 1 => by rw [mq_nup_succ, mq_nth_succ, mq_nth_succ, mq_nth_nup df v l i j]; simp
theorem mq_nup_len {α : Type} (df v : α) : ∀ (l : List α) (i : Nat), i < l.length → (mq_nup df l i v).length = l.length
  | [], i, h => absurd h (by simp)
  | x :: l, 0, h => rfl
  | x :: l, i + 1, h => by rw [mq_nup_succ]; simp only [List.length_cons] at h ⊢; rw [mq_nup_len df v l i (by omega)]
theorem mq_get_l {α : Type} (v : α) (i : Nat) : mq_get (.leaf v) i = v := rfl
theorem mq_get_b {α : Type} (p : Nat) (a b : mq_T α) (i : Nat) : mq_get (.branch p a b) i = if p ≤ i then mq_get b i else mq_get a i := by
  show Bool.rec (motive := fun _ => Nat → α) (mq_get a) (mq_get b) (Nat.ble p i) i = _
  by_cases h : p ≤ i
  · rw [Nat.ble_eq.mpr h, if_pos h]
  · have e : Nat.ble p i = false := by rw [← Bool.not_eq_true, Nat.ble_eq]; exact h
    rw [e, if_neg h]
theorem mq_st_zero {α : Type} (lo : Nat) (t : mq_T α) (i : Nat) (v : α) : mq_st 0 lo t i v = .leaf v := rfl
theorem mq_st_l {α : Type} (d lo : Nat) (w : α) (i : Nat) (v : α) : mq_st (d + 1) lo (.leaf w) i v = if lo + 2 ^ d ≤ i then .branch (lo + 2 ^ d) (.leaf w) (mq_st d (lo + 2 ^ d) (.leaf w) i v) else .branch (lo + 2 ^ d) (mq_st d lo (.leaf w) i v) (.leaf w) := by
  show Bool.rec (motive := fun _ => mq_T α) (.branch (lo + 2 ^ d) (mq_st d lo (.leaf w) i v) (.leaf w)) (.branch (lo + 2 ^ d) (.leaf w) (mq_st d (lo + 2 ^ d) (.leaf w) i v)) (Nat.ble (lo + 2 ^ d) i) = _
  by_cases h : lo + 2 ^ d ≤ i
  · rw [Nat.ble_eq.mpr h, if_pos h]
  · have e : Nat.ble (lo + 2 ^ d) i = false := by rw [← Bool.not_eq_true, Nat.ble_eq]; exact h
    rw [e, if_neg h]
theorem mq_st_b {α : Type} (d lo p : Nat) (a b : mq_T α) (i : Nat) (v : α) : mq_st (d + 1) lo (.branch p a b) i v = if p ≤ i then .branch p a (mq_st d p b i v) else .branch p (mq_st d lo a i v) b := by
  show Bool.rec (motive := fun _ => mq_T α) (.branch p (mq_st d lo a i v) b) (.branch p a (mq_st d p b i v)) (Nat.ble p i) = _
  by_cases h : p ≤ i
  · rw [Nat.ble_eq.mpr h, if_pos h]
  · have e : Nat.ble p i = false := by rw [← Bool.not_eq_true, Nat.ble_eq]; exact h
    rw [e, if_neg h]
theorem mq_sk_eq {α : Type} : ∀ (dep lo : Nat) (t : mq_T α) (i : Nat) (v : α) (k : mq_T α → Bool), mq_sk dep lo t i v k = k (mq_st dep lo t i v)
  | 0, lo, t, i, v, k => rfl
  | d + 1, lo, .leaf w, i, v, k => by
    rw [mq_st_l]
    show Bool.rec (motive := fun _ => Bool) (mq_sk d lo (.leaf w) i v fun a => k (.branch (lo + 2 ^ d) a (.leaf w))) (mq_sk d (lo + 2 ^ d) (.leaf w) i v fun b => k (.branch (lo + 2 ^ d) (.leaf w) b)) (Nat.ble (lo + 2 ^ d) i) = _
    rw [mq_sk_eq, mq_sk_eq]
    by_cases h : lo + 2 ^ d ≤ i
    · rw [Nat.ble_eq.mpr h, if_pos h]
    · have e : Nat.ble (lo + 2 ^ d) i = false := by rw [← Bool.not_eq_true, Nat.ble_eq]; exact h
      rw [e, if_neg h]
  | d + 1, lo, .branch p a b, i, v, k => by
    rw [mq_st_b]
    show Bool.rec (motive := fun _ => Bool) (mq_sk d lo a i v fun a => k (.branch p a b)) (mq_sk d p b i v fun b => k (.branch p a b)) (Nat.ble p i) = _
    rw [mq_sk_eq, mq_sk_eq]
    by_cases h : p ≤ i
    · rw [Nat.ble_eq.mpr h, if_pos h]
    · have e : Nat.ble p i = false := by rw [← Bool.not_eq_true, Nat.ble_eq]; exact h
      rw [e, if_neg h]
theorem mq_setK_eq {α : Type} (dep : Nat) (t : mq_T α) (i : Nat) (v : α) (k : mq_T α → Bool) : mq_setK dep t i v k = k (mq_set dep t i v) := mq_sk_eq dep 0 t i v k
/-- a tree over the places from lo up to 2 ^ dep more -/
def mq_wf {α : Type} : Nat → Nat → mq_T α → Prop
  | _, _, .leaf _ => True
  | 0, _, .branch _ _ _ => False
  | d + 1, lo, .branch p a b => p = lo + 2 ^ d ∧ mq_wf d lo a ∧ mq_wf d p b
theorem mq_wf_l {α : Type} (dep lo : Nat) (v : α) : mq_wf dep lo (.leaf v) := by
  cases dep <;> trivial
theorem mq_st_ok {α : Type} : ∀ (dep lo : Nat) (t : mq_T α) (i : Nat) (v : α), mq_wf dep lo t → lo ≤ i → i < lo + 2 ^ dep → mq_wf dep lo (mq_st dep lo t i v) ∧ ∀ j, lo ≤ j → j < lo + 2 ^ dep → mq_get (mq_st dep lo t i v) j = if j = i then v else mq_get t j
  | 0, lo, t, i, v, hw, h1, h2 => by
    refine ⟨trivial, fun j h3 h4 => ?_⟩
    have : j = i := by omega
    rw [if_pos this]
    rfl
  | d + 1, lo, .leaf w, i, v, hw, h1, h2 => by
    rw [mq_st_l]
    have hp : 2 ^ (d + 1) = 2 ^ d + 2 ^ d := by rw [Nat.pow_succ]; omega
    rw [hp] at h2 ⊢
    split
    · rename_i c
      obtain ⟨k1, k2⟩ := mq_st_ok d (lo + 2 ^ d) (.leaf w) i v (mq_wf_l _ _ _) c (by omega)
      refine ⟨⟨rfl, mq_wf_l _ _ _, k1⟩, fun j h3 h4 => ?_⟩
      rw [mq_get_b]
      split
      · rename_i c2
        rw [k2 j c2 (by omega)]
      · rename_i c2
        rw [if_neg (by omega)]
    · rename_i c
      obtain ⟨k1, k2⟩ := mq_st_ok d lo (.leaf w) i v (mq_wf_l _ _ _) h1 (by omega)
      refine ⟨⟨rfl, k1, mq_wf_l _ _ _⟩, fun j h3 h4 => ?_⟩
      rw [mq_get_b]
      split
      · rename_i c2
        rw [if_neg (by omega)]
      · rename_i c2
        rw [k2 j h3 (by omega)]
  | d + 1, lo, .branch p a b, i, v, hw, h1, h2 => by
    obtain ⟨w1, w2, w3⟩ := hw
    rw [mq_st_b]
    have hp : 2 ^ (d + 1) = 2 ^ d + 2 ^ d := by rw [Nat.pow_succ]; omega
    rw [hp] at h2 ⊢
    split
    · rename_i c
      obtain ⟨k1, k2⟩ := mq_st_ok d p b i v w3 c (by omega)
      refine ⟨⟨w1, w2, k1⟩, fun j h3 h4 => ?_⟩
      rw [mq_get_b, mq_get_b]
      split
      · rename_i c2
        exact k2 j c2 (by omega)
      · rename_i c2
        rw [if_neg (by omega)]
    · rename_i c
      obtain ⟨k1, k2⟩ := mq_st_ok d lo a i v w2 h1 (by omega)
      refine ⟨⟨w1, k1, w3⟩, fun j h3 h4 => ?_⟩
      rw [mq_get_b, mq_get_b]
      split
      · rename_i c2
        rw [if_neg (by omega)]
      · rename_i c2
        exact k2 j h3 (by omega)
/-- a tree of so many places -/
def mq_wl {α : Type} (dep len : Nat) (t : mq_T α) : Prop := len ≤ 2 ^ dep ∧ mq_wf dep 0 t
theorem mq_wl.leaf {α : Type} {dep len : Nat} (h : len ≤ 2 ^ dep) (v : α) : mq_wl dep len (.leaf v : mq_T α) := ⟨h, mq_wf_l _ _ _⟩
theorem mq_wl.set {α : Type} {dep len : Nat} {t : mq_T α} (h : mq_wl dep len t) {i : Nat} (hi : i < len) (v : α) : mq_wl dep len (mq_set dep t i v) :=
  ⟨h.1, (mq_st_ok dep 0 t i v h.2 (Nat.zero_le _) (by have := h.1; omega)).1⟩
theorem mq_get_set {α : Type} {dep len : Nat} {t : mq_T α} (h : mq_wl dep len t) {i j : Nat} (v : α) (hi : i < len) (hj : j < len) : mq_get (mq_set dep t i v) j = if j = i then v else mq_get t j :=
  (mq_st_ok dep 0 t i v h.2 (Nat.zero_le _) (by have := h.1; omega)).2 j (Nat.zero_le _) (by have := h.1; omega)
/-- the heap's cells -/
noncomputable def mq_fget (f : List (Nat × mq_C)) : Nat → mq_Hp → mq_C := List.rec (motive := fun _ => Nat → mq_Hp → mq_C) (fun a t => mq_get t a) (fun q _ ih a t => Prod.rec (motive := fun _ => (Nat → mq_Hp → mq_C) → Nat → mq_Hp → mq_C) (fun b c ih a t => Bool.rec (motive := fun _ => mq_C) (ih a t) c (Nat.beq a b)) q ih a t) f
noncomputable def mq_hg (t : mq_Ht) (a : Nat) : mq_C := Prod.rec (motive := fun _ => Nat → mq_C) (fun f t a => mq_fget f a t) t a
noncomputable def mq_rmK (f : List (Nat × mq_C)) : Nat → (List (Nat × mq_C) → Nat → Bool) → Bool := List.rec (motive := fun _ => Nat → (List (Nat × mq_C) → Nat → Bool) → Bool) (fun _ k => k [] 0) (fun q _ ih a k => ih a fun l m => Bool.rec (motive := fun _ => Bool) (k (q :: l) (Nat.add m (nat_lit 1))) (k l m) (Nat.beq a (Prod.rec (motive := fun _ => Nat) (fun b _ => b) q))) f
noncomputable def mq_flK (f : List (Nat × mq_C)) : mq_Hp → (mq_Hp → Bool) → Bool := List.rec (motive := fun _ => mq_Hp → (mq_Hp → Bool) → Bool) (fun t k => k t) (fun q _ ih t k => ih t fun t => Prod.rec (motive := fun _ => Bool) (fun a c => mq_setK 10 t a c k) q) f
noncomputable def mq_hk1 (f : List (Nat × mq_C)) (t : mq_Hp) (a : Nat) (c : mq_C) (k : mq_Ht → Bool) : Bool := mq_rmK f a fun l m => Bool.rec (motive := fun _ => Bool) (k ((a, c) :: l, t)) (mq_flK ((a, c) :: l) t fun t => k ([], t)) (Nat.ble (nat_lit 8) m)
noncomputable def mq_hk (t : mq_Ht) (a : Nat) (c : mq_C) (k : mq_Ht → Bool) : Bool := Prod.rec (motive := fun _ => Nat → mq_C → (mq_Ht → Bool) → Bool) (fun f t a c k => mq_hk1 f t a c k) t a c k
def mq_rm (f : List (Nat × mq_C)) (a : Nat) : List (Nat × mq_C) := f.filter fun q => ! Nat.beq a q.1
noncomputable def mq_fl (f : List (Nat × mq_C)) (t : mq_Hp) : mq_Hp := f.foldr (fun q t => mq_set 10 t q.1 q.2) t
noncomputable def mq_hset (t : mq_Ht) (a : Nat) (c : mq_C) : mq_Ht := cond (Nat.ble 8 (mq_rm t.1 a).length) ([], mq_fl ((a, c) :: mq_rm t.1 a) t.2) ((a, c) :: mq_rm t.1 a, t.2)
theorem mq_rmK_eq (a : Nat) : ∀ (f : List (Nat × mq_C)) (k : List (Nat × mq_C) → Nat → Bool), mq_rmK f a k = k (mq_rm f a) (mq_rm f a).length
  | [], k => rfl
  | (b, c) :: f, k => by
    show mq_rmK f a (fun l m => Bool.rec (motive := fun _ => Bool) (k ((b, c) :: l) (m + 1)) (k l m) (Nat.beq a b)) = _
    rw [mq_rmK_eq a f]
    unfold mq_rm
    rw [List.filter_cons]
    cases hb : Nat.beq a b
    · simp [hb]
    · simp [hb]
theorem mq_flK_eq : ∀ (f : List (Nat × mq_C)) (t : mq_Hp) (k : mq_Hp → Bool), mq_flK f t k = k (mq_fl f t)
  | [], t, k => rfl
  | (a, c) :: f, t, k => by
    show mq_flK f t (fun t => mq_setK 10 t a c k) = _
    rw [mq_flK_eq f, mq_setK_eq]
    rfl
theorem mq_hk_eq (t : mq_Ht) (a : Nat) (c : mq_C) (k : mq_Ht → Bool) : mq_hk t a c k = k (mq_hset t a c) := by
  obtain ⟨f, t⟩ := t
  show mq_hk1 f t a c k = _
  unfold mq_hk1 mq_hset
  rw [mq_rmK_eq]
  have e : Nat.ble (nat_lit 8) (mq_rm f a).length = Nat.ble 8 (mq_rm f a).length := rfl
  rw [e]
  cases Nat.ble 8 (mq_rm f a).length
  · rfl
  · show mq_flK _ t _ = _
    rw [mq_flK_eq]
    rfl
/-- a heap of 1024 cells -/
def mq_hw (t : mq_Ht) : Prop := mq_wl 10 1024 t.2 ∧ ∀ q ∈ t.1, q.1 < 1024
theorem mq_fget_nil (t : mq_Hp) (b : Nat) : mq_fget [] b t = mq_get t b := rfl
theorem mq_fget_cons (q : Nat × mq_C) (f : List (Nat × mq_C)) (t : mq_Hp) (b : Nat) : mq_fget (q :: f) b t = if b = q.1 then q.2 else mq_fget f b t := by
  obtain ⟨a, c⟩ := q
  show Bool.rec (motive := fun _ => mq_C) (mq_fget f b t) c (Nat.beq b a) = _
  by_cases h : b = a
  · rw [Nat.beq_eq.mpr h, if_pos h]
  · have e : Nat.beq b a = false := by rw [← Bool.not_eq_true, Nat.beq_eq]; exact h
    rw [e, if_neg h]
theorem mq_fget_rm {a b : Nat} (h : b ≠ a) (t : mq_Hp) : ∀ f : List (Nat × mq_C), mq_fget (mq_rm f a) b t = mq_fget f b t
  | [] => rfl
  | q :: f => by
    have ih := mq_fget_rm h t f
    rw [mq_fget_cons]
    unfold mq_rm at ih ⊢
    rw [List.filter_cons]
    by_cases hq : a = q.1
    · have e : Nat.beq a q.1 = true := Nat.beq_eq.mpr hq
      simp only [e, Bool.not_true]
      rw [if_neg (by simp), if_neg (by omega)]
      exact ih
    · have e : Nat.beq a q.1 = false := by rw [← Bool.not_eq_true, Nat.beq_eq]; exact hq
      simp only [e, Bool.not_false, if_true]
      rw [mq_fget_cons, ih]
theorem mq_fl_ok {t : mq_Hp} (ht : mq_wl 10 1024 t) : ∀ f : List (Nat × mq_C), (∀ q ∈ f, q.1 < 1024) → mq_wl 10 1024 (mq_fl f t) ∧ ∀ b, b < 1024 → mq_get (mq_fl f t) b = mq_fget f b t
  | [], _ => ⟨ht, fun b _ => rfl⟩
  | q :: f, h => by
    obtain ⟨h1, h2⟩ := mq_fl_ok ht f (fun q hq => h q (List.mem_cons_of_mem _ hq))
    have hq := h q List.mem_cons_self
    refine ⟨h1.set hq _, fun b hb => ?_⟩
    show mq_get (mq_set 10 (mq_fl f t) q.1 q.2) b = _
    rw [mq_get_set h1 _ hq hb, mq_fget_cons, h2 b hb]
theorem mq_rm_sub {f : List (Nat × mq_C)} {a : Nat} {q : Nat × mq_C} (h : q ∈ mq_rm f a) : q ∈ f := (List.mem_filter.mp h).1
theorem mq_hset_ok {t : mq_Ht} (ht : mq_hw t) {a : Nat} (ha : a < 1024) (c : mq_C) : mq_hw (mq_hset t a c) ∧ ∀ b, b < 1024 → mq_hg (mq_hset t a c) b = if b = a then c else mq_hg t b := by
  obtain ⟨f, t⟩ := t
  obtain ⟨h1, h2⟩ := ht
  have hk : ∀ q ∈ (a, c) :: mq_rm f a, q.1 < 1024 := fun q hq => by
    rcases List.mem_cons.mp hq with e | e
    · rw [e]; exact ha
    · exact h2 q (mq_rm_sub e)
  have key : ∀ b, mq_fget ((a, c) :: mq_rm f a) b t = if b = a then c else mq_fget f b t := fun b => by
    rw [mq_fget_cons]
    by_cases e : b = a
    · rw [if_pos e, if_pos e]
    · rw [if_neg e, if_neg e, mq_fget_rm e]
  unfold mq_hset
  cases Nat.ble 8 (mq_rm f a).length
  · exact ⟨⟨h1, hk⟩, fun b _ => key b⟩
  · obtain ⟨k1, k2⟩ := mq_fl_ok h1 _ hk
    refine ⟨⟨k1, fun q hq => absurd hq (by simp [cond])⟩, fun b hb => ?_⟩
    show mq_get (mq_fl ((a, c) :: mq_rm f a) t) b = _
    rw [k2 b hb, key b]
    rfl
theorem mq_hw.set {t : mq_Ht} (ht : mq_hw t) {a : Nat} (ha : a < 1024) (c : mq_C) : mq_hw (mq_hset t a c) := (mq_hset_ok ht ha c).1
theorem mq_hg_set {t : mq_Ht} (ht : mq_hw t) {a b : Nat} (c : mq_C) (ha : a < 1024) (hb : b < 1024) : mq_hg (mq_hset t a c) b = if b = a then c else mq_hg t b := (mq_hset_ok ht ha c).2 b hb
/-- ints and longs in two's complement -/
noncomputable def mq_add32 (x y : Nat) : Nat := Nat.mod (Nat.add x y) (nat_lit 4294967296)
noncomputable def mq_mul32 (x y : Nat) : Nat := Nat.mod (Nat.mul x y) (nat_lit 4294967296)
noncomputable def mq_neg32 (x : Nat) : Nat := Nat.mod (Nat.sub (nat_lit 4294967296) (Nat.mod x (nat_lit 4294967296))) (nat_lit 4294967296)
noncomputable def mq_sub32 (x y : Nat) : Nat := mq_add32 x (mq_neg32 y)
noncomputable def mq_add64 (x y : Nat) : Nat := Nat.mod (Nat.add x y) (nat_lit 18446744073709551616)
noncomputable def mq_mul64 (x y : Nat) : Nat := Nat.mod (Nat.mul x y) (nat_lit 18446744073709551616)
noncomputable def mq_neg64 (x : Nat) : Nat := Nat.mod (Nat.sub (nat_lit 18446744073709551616) (Nat.mod x (nat_lit 18446744073709551616))) (nat_lit 18446744073709551616)
noncomputable def mq_sub64 (x y : Nat) : Nat := mq_add64 x (mq_neg64 y)
/-- quotients of numbers below 2 h -/
noncomputable def mq_quo (h x y : Nat) : Nat := cond (Nat.ble h x) (cond (Nat.ble h y) (Nat.div (Nat.sub (Nat.add h h) x) (Nat.sub (Nat.add h h) y)) (Nat.sub (Nat.add h h) (Nat.div (Nat.sub (Nat.add h h) x) y))) (cond (Nat.ble h y) (Nat.sub (Nat.add h h) (Nat.div x (Nat.sub (Nat.add h h) y))) (Nat.div x y))
noncomputable def mq_div32 (x y : Nat) : Nat := Nat.mod (mq_quo (nat_lit 2147483648) (Nat.mod x (nat_lit 4294967296)) (Nat.mod y (nat_lit 4294967296))) (nat_lit 4294967296)
noncomputable def mq_div64 (x y : Nat) : Nat := Nat.mod (mq_quo (nat_lit 9223372036854775808) (Nat.mod x (nat_lit 18446744073709551616)) (Nat.mod y (nat_lit 18446744073709551616))) (nat_lit 18446744073709551616)
noncomputable def mq_rem32 (x y : Nat) : Nat := mq_sub32 x (mq_mul32 (mq_div32 x y) y)
noncomputable def mq_rem64 (x y : Nat) : Nat := mq_sub64 x (mq_mul64 (mq_div64 x y) y)
/-- shifted up by 2^31 (2^63): ordered as the signed numbers -/
noncomputable def mq_o32 (x : Nat) : Nat := Nat.mod (Nat.add x (nat_lit 2147483648)) (nat_lit 4294967296)
noncomputable def mq_o64 (x : Nat) : Nat := Nat.mod (Nat.add x (nat_lit 9223372036854775808)) (nat_lit 18446744073709551616)
/-- an int as a long, shifted numbers; a long as an int -/
noncomputable def mq_i2l (x : Nat) : Nat := Nat.mod (Nat.add (mq_o32 x) (nat_lit 18446744071562067968)) (nat_lit 18446744073709551616)
theorem mq_jn_mod (x : Nat) : jn ((x % 4294967296 : Nat) : Int) = jn (x : Int) := by
  apply Int32.toInt_inj.mp
  rw [Int32.toInt_ofInt, Int32.toInt_ofInt]
  show Int.bmod _ 4294967296 = Int.bmod _ 4294967296
  unfold Int.bmod
  have : ((x % 4294967296 : Nat) : Int) % (4294967296 : Nat) = (x : Int) % (4294967296 : Nat) := by omega
  rw [this]
theorem mq_jl_mod (x : Nat) : jl ((x % 18446744073709551616 : Nat) : Int) = jl (x : Int) := by
  apply Int64.toInt_inj.mp
  rw [Int64.toInt_ofInt, Int64.toInt_ofInt]
  show Int.bmod _ 18446744073709551616 = Int.bmod _ 18446744073709551616
  unfold Int.bmod
  have : ((x % 18446744073709551616 : Nat) : Int) % (18446744073709551616 : Nat) = (x : Int) % (18446744073709551616 : Nat) := by omega
  rw [this]
theorem mq_jn_eq {a b : Int} (h : a % 4294967296 = b % 4294967296) : jn a = jn b := by
  apply Int32.toInt_inj.mp
  rw [Int32.toInt_ofInt, Int32.toInt_ofInt]
  show Int.bmod _ 4294967296 = Int.bmod _ 4294967296
  unfold Int.bmod
  have : a % (4294967296 : Nat) = b % (4294967296 : Nat) := h
  rw [this]
theorem mq_jl_eq {a b : Int} (h : a % 18446744073709551616 = b % 18446744073709551616) : jl a = jl b := by
  apply Int64.toInt_inj.mp
  rw [Int64.toInt_ofInt, Int64.toInt_ofInt]
  show Int.bmod _ 18446744073709551616 = Int.bmod _ 18446744073709551616
  unfold Int.bmod
  have : a % (18446744073709551616 : Nat) = b % (18446744073709551616 : Nat) := h
  rw [this]
theorem mq_jn_add (x y : Nat) : jn (mq_add32 x y : Nat) = jn x + jn y := by
  rw [jn_add]
  exact (mq_jn_mod (x + y)).trans (by rw [Int.natCast_add])
theorem mq_jn_mul (x y : Nat) : jn (mq_mul32 x y : Nat) = jn x * jn y := by
  rw [jn_mul]
  exact (mq_jn_mod (x * y)).trans (by rw [Int.natCast_mul])
theorem mq_jn_neg (x : Nat) : jn (mq_neg32 x : Nat) = -jn x := by
  rw [jn_neg]
  apply mq_jn_eq
  show (((4294967296 - x % 4294967296) % 4294967296 : Nat) : Int) % 4294967296 = -(x : Int) % 4294967296
  omega
theorem mq_jn_sub (x y : Nat) : jn (mq_sub32 x y : Nat) = jn x - jn y := by
  unfold mq_sub32
  rw [mq_jn_add, mq_jn_neg, jn_neg, jn_add, jn_sub]
  congr 1
theorem mq_jl_add (x y : Nat) : jl (mq_add64 x y : Nat) = jl x + jl y := by
  rw [jl_add]
  exact (mq_jl_mod (x + y)).trans (by rw [Int.natCast_add])
theorem mq_jl_mul (x y : Nat) : jl (mq_mul64 x y : Nat) = jl x * jl y := by
  rw [jl_mul]
  exact (mq_jl_mod (x * y)).trans (by rw [Int.natCast_mul])
theorem mq_jl_neg (x : Nat) : jl (mq_neg64 x : Nat) = -jl x := by
  rw [jl_neg]
  apply mq_jl_eq
  show (((18446744073709551616 - x % 18446744073709551616) % 18446744073709551616 : Nat) : Int) % 18446744073709551616 = -(x : Int) % 18446744073709551616
  omega
theorem mq_jl_sub (x y : Nat) : jl (mq_sub64 x y : Nat) = jl x - jl y := by
  unfold mq_sub64
  rw [mq_jl_add, mq_jl_neg, jl_neg, jl_add, jl_sub]
  congr 1
theorem mq_jn_toInt (x : Nat) : (jn x).toInt = (mq_o32 x : Nat) - 2147483648 := by
  rw [Int32.toInt_ofInt]
  show Int.bmod _ 4294967296 = (((x + 2147483648) % 4294967296 : Nat) : Int) - 2147483648
  unfold Int.bmod
  simp only []
  split <;> omega
theorem mq_jl_toInt (x : Nat) : (jl x).toInt = (mq_o64 x : Nat) - 9223372036854775808 := by
  rw [Int64.toInt_ofInt]
  show Int.bmod _ 18446744073709551616 = (((x + 9223372036854775808) % 18446744073709551616 : Nat) : Int) - 9223372036854775808
  unfold Int.bmod
  simp only []
  split <;> omega
theorem mq_jn_long (x : Nat) : (jn x).toInt64 = jl (mq_i2l x : Nat) := by
  apply Int64.toInt_inj.mp
  rw [Int32.toInt_toInt64, mq_jn_toInt, mq_jl_toInt]
  show ((((x + 2147483648) % 4294967296 : Nat)) : Int) - 2147483648 = ((((((x + 2147483648) % 4294967296) + 18446744071562067968) % 18446744073709551616) + 9223372036854775808) % 18446744073709551616 : Nat) - 9223372036854775808
  omega
theorem mq_jl_int (x : Nat) : (jl x).toInt32 = jn (x % 4294967296 : Nat) := by
  rw [jl_int, mq_jn_mod]
theorem mq_quo_pp {h x y : Nat} (hx : ¬ h ≤ x) (hy : ¬ h ≤ y) : mq_quo h x y = x / y := by
  have h1 : Nat.ble h x = false := by rw [← Bool.not_eq_true, Nat.ble_eq]; exact hx
  have h2 : Nat.ble h y = false := by rw [← Bool.not_eq_true, Nat.ble_eq]; exact hy
  unfold mq_quo
  rw [h1, h2]
  rfl
theorem mq_quo_np {h x y : Nat} (hx : h ≤ x) (hy : ¬ h ≤ y) : mq_quo h x y = h + h - (h + h - x) / y := by
  have h1 : Nat.ble h x = true := Nat.ble_eq.mpr hx
  have h2 : Nat.ble h y = false := by rw [← Bool.not_eq_true, Nat.ble_eq]; exact hy
  unfold mq_quo
  rw [h1, h2]
  rfl
theorem mq_quo_pn {h x y : Nat} (hx : ¬ h ≤ x) (hy : h ≤ y) : mq_quo h x y = h + h - x / (h + h - y) := by
  have h1 : Nat.ble h x = false := by rw [← Bool.not_eq_true, Nat.ble_eq]; exact hx
  have h2 : Nat.ble h y = true := Nat.ble_eq.mpr hy
  unfold mq_quo
  rw [h1, h2]
  rfl
theorem mq_quo_nn {h x y : Nat} (hx : h ≤ x) (hy : h ≤ y) : mq_quo h x y = (h + h - x) / (h + h - y) := by
  have h1 : Nat.ble h x = true := Nat.ble_eq.mpr hx
  have h2 : Nat.ble h y = true := Nat.ble_eq.mpr hy
  unfold mq_quo
  rw [h1, h2]
  rfl
theorem mq_tdiv_nat (x y : Nat) : (x : Int).tdiv (y : Int) = ((x / y : Nat) : Int) := rfl
/-- the quotient of two numbers as signed ones, but for a multiple of h + h -/
theorem mq_quo_eq {h x y : Nat} {X Y : Int} (hx : x < h + h) (hy : y < h + h) (hX : X = if h ≤ x then (x : Int) - (h + h) else x) (hY : Y = if h ≤ y then (y : Int) - (h + h) else y) : ∃ k : Int, X.tdiv Y = (mq_quo h x y : Nat) + k * (h + h) := by
  by_cases cx : h ≤ x
  · rw [if_pos cx] at hX
    have eX : X = -((h + h - x : Nat) : Int) := by omega
    by_cases cy : h ≤ y
    · rw [if_pos cy] at hY
      have eY : Y = -((h + h - y : Nat) : Int) := by omega
      refine ⟨0, ?_⟩
      rw [mq_quo_nn cx cy, eX, eY, Int.neg_tdiv, Int.tdiv_neg, Int.neg_neg, mq_tdiv_nat]
      omega
    · rw [if_neg cy] at hY
      refine ⟨-1, ?_⟩
      have hle : (h + h - x) / y ≤ h + h - x := Nat.div_le_self _ _
      rw [mq_quo_np cx cy, eX, hY, Int.neg_tdiv, mq_tdiv_nat]
      omega
  · rw [if_neg cx] at hX
    by_cases cy : h ≤ y
    · rw [if_pos cy] at hY
      have eY : Y = -((h + h - y : Nat) : Int) := by omega
      refine ⟨-1, ?_⟩
      have hle : x / (h + h - y) ≤ x := Nat.div_le_self _ _
      rw [mq_quo_pn cx cy, hX, eY, Int.tdiv_neg, mq_tdiv_nat]
      omega
    · rw [if_neg cy] at hY
      refine ⟨0, ?_⟩
      rw [mq_quo_pp cx cy, hX, hY, mq_tdiv_nat]
      omega
theorem mq_jn_div (x y : Nat) : jn (mq_div32 x y : Nat) = jn x / jn y := by
  have hx : x % 4294967296 < 2147483648 + 2147483648 := by omega
  have hy : y % 4294967296 < 2147483648 + 2147483648 := by omega
  obtain ⟨k, hk⟩ := mq_quo_eq (h := 2147483648) (X := (jn x).toInt) (Y := (jn y).toInt) hx hy (by
    rw [mq_jn_toInt]
    show (((x + 2147483648) % 4294967296 : Nat) : Int) - 2147483648 = _
    split <;> omega) (by
    rw [mq_jn_toInt]
    show (((y + 2147483648) % 4294967296 : Nat) : Int) - 2147483648 = _
    split <;> omega)
  apply Int32.toInt_inj.mp
  rw [Int32.toInt_div, hk]
  have e : jn (mq_div32 x y : Nat) = jn (mq_quo 2147483648 (x % 4294967296) (y % 4294967296) : Nat) := mq_jn_mod _
  rw [e, Int32.toInt_ofInt]
  show Int.bmod _ 4294967296 = Int.bmod _ (2 ^ 32)
  generalize mq_quo 2147483648 (x % 4294967296) (y % 4294967296) = q
  have e2 : ((q : Int) + k * ((2147483648 : Nat) + (2147483648 : Nat))) % (4294967296 : Nat) = (q : Int) % (4294967296 : Nat) := by omega
  unfold Int.bmod
  rw [show (2 ^ 32 : Nat) = 4294967296 from rfl, e2]
theorem mq_jl_div (x y : Nat) : jl (mq_div64 x y : Nat) = jl x / jl y := by
  have hx : x % 18446744073709551616 < 9223372036854775808 + 9223372036854775808 := by omega
  have hy : y % 18446744073709551616 < 9223372036854775808 + 9223372036854775808 := by omega
  obtain ⟨k, hk⟩ := mq_quo_eq (h := 9223372036854775808) (X := (jl x).toInt) (Y := (jl y).toInt) hx hy (by
    rw [mq_jl_toInt]
    show (((x + 9223372036854775808) % 18446744073709551616 : Nat) : Int) - 9223372036854775808 = _
    split <;> omega) (by
    rw [mq_jl_toInt]
    show (((y + 9223372036854775808) % 18446744073709551616 : Nat) : Int) - 9223372036854775808 = _
    split <;> omega)
  apply Int64.toInt_inj.mp
  rw [Int64.toInt_div, hk]
  have e : jl (mq_div64 x y : Nat) = jl (mq_quo 9223372036854775808 (x % 18446744073709551616) (y % 18446744073709551616) : Nat) := mq_jl_mod _
  rw [e, Int64.toInt_ofInt]
  show Int.bmod _ 18446744073709551616 = Int.bmod _ (2 ^ 64)
  generalize mq_quo 9223372036854775808 (x % 18446744073709551616) (y % 18446744073709551616) = q
  have e2 : ((q : Int) + k * ((9223372036854775808 : Nat) + (9223372036854775808 : Nat))) % (18446744073709551616 : Nat) = (q : Int) % (18446744073709551616 : Nat) := by omega
  unfold Int.bmod
  rw [show (2 ^ 64 : Nat) = 18446744073709551616 from rfl, e2]
theorem mq_jn_rem (x y : Nat) : jn (mq_rem32 x y : Nat) = jn x - jn x / jn y * jn y := by
  unfold mq_rem32
  rw [mq_jn_sub, mq_jn_mul, mq_jn_div]
theorem mq_jl_rem (x y : Nat) : jl (mq_rem64 x y : Nat) = jl x - jl x / jl y * jl y := by
  unfold mq_rem64
  rw [mq_jl_sub, mq_jl_mul, mq_jl_div]
