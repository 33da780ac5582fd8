/-! A fast machine, made to be computed by the kernel: numbers as naturals in two's complement, arrays and the heap as tries, symbols within bounds. This part: its data. -/
/-- a value: int, long, place, null, an int s * m + c of the i-th symbol s, the i-th symbol as a long, the place in a list by a symbol, a double, a float, the parts of a long of two symbols and the long, unknown -/
inductive mq_W where
  | I (n : Nat) | J (n : Nat) | A (a : Nat) | N | E (i m c : Nat) | L (i : Nat) | M (i lo : Nat) (l : List Nat) | D (x : UInt64) | F (x : UInt32) | X | Y | Q | U
inductive mq_T (α : Type) where
  | l (v : α) | n (a b c d : mq_T α)
inductive mq_C where
  | z | arr (t len dep : Nat) (d : mq_T mq_W) | obj (ci : Nat) (fs : List mq_W)
inductive mq_P where
  | p (lo hi : Nat)
abbrev mq_Ht : Type := mq_T mq_C
abbrev mq_V : Type := List mq_P
noncomputable def mq_nth {α : Type} (df : α) (l : List α) : Nat → α := List.rec (motive := fun _ => Nat → α) (fun _ => df) (fun x _ ih i => Nat.rec (motive := fun _ => α) x (fun m _ => ih m) i) l
noncomputable def mq_nup {α : Type} (df : α) (l : List α) : Nat → α → List α := List.rec (motive := fun _ => Nat → α → List α) (fun i v => Nat.rec (motive := fun _ => List α) [v] (fun _ t => df :: t) i) (fun x t ih i v => Nat.rec (motive := fun _ => List α) (v :: t) (fun m _ => x :: ih m v) i) l
noncomputable def mq_sel {α : Type} (i : Nat) (a b c d : α) : α := Nat.rec (motive := fun _ => α) a (fun m _ => Nat.rec (motive := fun _ => α) b (fun m _ => Nat.rec (motive := fun _ => α) c (fun _ _ => d) m) m) (Nat.mod i (nat_lit 4))
noncomputable def mq_get {α : Type} (t : mq_T α) : Nat → α := mq_T.rec (motive := fun _ => Nat → α) (fun v _ => v) (fun _ _ _ _ ga gb gc gd i => mq_sel i ga gb gc gd (Nat.div i (nat_lit 4))) t
noncomputable def mq_put4 {α : Type} (i : Nat) (f : mq_T α → mq_T α) (a b c d : mq_T α) : mq_T α := mq_sel i (.n (f a) b c d) (.n a (f b) c d) (.n a b (f c) d) (.n a b c (f d))
noncomputable def mq_set {α : Type} (dep : Nat) : mq_T α → Nat → α → mq_T α := Nat.rec (motive := fun _ => mq_T α → Nat → α → mq_T α) (fun _ _ v => .l v) (fun _ ih t i v => mq_T.rec (motive := fun _ => mq_T α) (fun w => mq_put4 i (fun s => ih s (Nat.div i (nat_lit 4)) v) (.l w) (.l w) (.l w) (.l w)) (fun a b c d _ _ _ _ => mq_put4 i (fun s => ih s (Nat.div i (nat_lit 4)) v) a b c d) t) dep
theorem mq_nth_nil {α : Type} (df : α) (i : Nat) : mq_nth df [] i = df := rfl
theorem mq_nth_zero {α : Type} (df x : α) (l : List α) : mq_nth df (x :: l) 0 = x := rfl
theorem mq_nth_succ {α : Type} (df x : α) (l : List α) (i : Nat) : mq_nth df (x :: l) (i + 1) = mq_nth df l i := rfl
theorem mq_nth_eq {α : Type} (df : α) : ∀ (l : List α) (i : Nat), mq_nth df l i = l.getD i df
  | [], i => by simp [mq_nth_nil]
  | x :: l, 0 => rfl
  | x :: l, i + 1 => by rw [mq_nth_succ, mq_nth_eq df l i]; simp
theorem mq_nup_nil0 {α : Type} (df v : α) : mq_nup df [] 0 v = [v] := rfl
theorem mq_nup_nilS {α : Type} (df v : α) (i : Nat) : mq_nup df [] (i + 1) v = df :: mq_nup df [] i v := rfl
theorem mq_nup_zero {α : Type} (df x v : α) (l : List α) : mq_nup df (x :: l) 0 v = v :: l := rfl
theorem mq_nup_succ {α : Type} (df x v : α) (l : List α) (i : Nat) : mq_nup df (x :: l) (i + 1) v = x :: mq_nup df l i v := rfl
theorem mq_nth_nup {α : Type} (df v : α) : ∀ (l : List α) (i j : Nat), mq_nth df (mq_nup df l i v) j = if j = i then v else mq_nth df l j
  | [], 0, 0 => rfl
  | [], 0, j + 1 => by simp [mq_nup_nil0, mq_nth_succ, mq_nth_nil]
  | [], i + 1, 0 => by simp [mq_nup_nilS, mq_nth_zero, mq_nth_nil]
  | [], i + 1, j + 1 => by rw [mq_nup_nilS, mq_nth_succ, mq_nth_nup df v [] i j]; simp [mq_nth_nil]
  | x :: l, 0, 0 => rfl
  | x :: l, 0, j + 1 => by simp [mq_nup_zero, mq_nth_succ]
  | x :: l, i + 1, 0 => by simp [mq_nup_succ, mq_nth_zero]
  | x :: l, i + 1, j + 1 => by rw [mq_nup_succ, mq_nth_succ, mq_nth_succ, mq_nth_nup df v l i j]; simp
theorem mq_nup_len {α : Type} (df v : α) : ∀ (l : List α) (i : Nat), i < l.length → (mq_nup df l i v).length = l.length
  | [], i, h => absurd h (by simp)
  | x :: l, 0, h => rfl
  | x :: l, i + 1, h => by rw [mq_nup_succ]; simp only [List.length_cons] at h ⊢; rw [mq_nup_len df v l i (by omega)]
theorem mq_sel_eq {α : Type} (i : Nat) (a b c d : α) : mq_sel i a b c d = if i % 4 = 0 then a else if i % 4 = 1 then b else if i % 4 = 2 then c else d := by
  unfold mq_sel
  show Nat.rec (motive := fun _ => α) a (fun m _ => Nat.rec (motive := fun _ => α) b (fun m _ => Nat.rec (motive := fun _ => α) c (fun _ _ => d) m) m) (i % 4) = _
  generalize i % 4 = r
  match r with
  | 0 => rfl
  | 1 => rfl
  | 2 => rfl
  | r + 3 => simp
theorem mq_get_l {α : Type} (v : α) (i : Nat) : mq_get (.l v) i = v := rfl
theorem mq_get_n {α : Type} (a b c d : mq_T α) (i : Nat) : mq_get (.n a b c d) i = mq_get (mq_sel i a b c d) (i / 4) := by
  show mq_sel i (mq_get a) (mq_get b) (mq_get c) (mq_get d) (i / 4) = _
  rw [mq_sel_eq, mq_sel_eq]
  split
  · rfl
  · split
    · rfl
    · split <;> rfl
theorem mq_get_put4 {α : Type} (i j : Nat) (f : mq_T α → mq_T α) (a b c d : mq_T α) : mq_get (mq_put4 i f a b c d) j = if j % 4 = i % 4 then mq_get (f (mq_sel i a b c d)) (j / 4) else mq_get (mq_sel j a b c d) (j / 4) := by
  unfold mq_put4
  rw [mq_sel_eq i (mq_T.n _ _ _ _), mq_sel_eq i a, mq_sel_eq j a]
  have hi : i % 4 < 4 := Nat.mod_lt _ (by decide)
  have hj : j % 4 < 4 := Nat.mod_lt _ (by decide)
  by_cases h : j % 4 = i % 4
  · rw [if_pos h]
    have h4 : j % 4 = 0 ∨ j % 4 = 1 ∨ j % 4 = 2 ∨ j % 4 = 3 := by omega
    rcases h4 with e | e | e | e
    · have e2 : i % 4 = 0 := by omega
      simp [mq_get_n, mq_sel_eq, e, e2]
    · have e2 : i % 4 = 1 := by omega
      simp [mq_get_n, mq_sel_eq, e, e2]
    · have e2 : i % 4 = 2 := by omega
      simp [mq_get_n, mq_sel_eq, e, e2]
    · have e2 : i % 4 = 3 := by omega
      simp [mq_get_n, mq_sel_eq, e, e2]
  · rw [if_neg h]
    repeat' split
    all_goals (rw [mq_get_n, mq_sel_eq])
    all_goals (repeat' split)
    all_goals first
      | rfl
      | omega
theorem mq_set_zero {α : Type} (t : mq_T α) (i : Nat) (v : α) : mq_set 0 t i v = .l v := rfl
theorem mq_set_l {α : Type} (dep : Nat) (w : α) (i : Nat) (v : α) : mq_set (dep + 1) (.l w) i v = mq_put4 i (fun s => mq_set dep s (i / 4) v) (.l w) (.l w) (.l w) (.l w) := rfl
theorem mq_set_n {α : Type} (dep : Nat) (a b c d : mq_T α) (i : Nat) (v : α) : mq_set (dep + 1) (.n a b c d) i v = mq_put4 i (fun s => mq_set dep s (i / 4) v) a b c d := rfl
theorem mq_get_set {α : Type} : ∀ (dep : Nat) (t : mq_T α) (i j : Nat) (v : α), i < 4 ^ dep → j < 4 ^ dep → mq_get (mq_set dep t i v) j = if j = i then v else mq_get t j
  | 0, t, i, j, v, hi, hj => by
    have : i = 0 := by simpa using hi
    have : j = 0 := by simpa using hj
    subst_vars
    rfl
  | dep + 1, t, i, j, v, hi, hj => by
    have hi2 : i / 4 < 4 ^ dep := by rw [Nat.pow_succ] at hi; omega
    have hj2 : j / 4 < 4 ^ dep := by rw [Nat.pow_succ] at hj; omega
    have key : ∀ a b c d : mq_T α, mq_get (mq_put4 i (fun s => mq_set dep s (i / 4) v) a b c d) j = if j = i then v else mq_get (.n a b c d) j := by
      intro a b c d
      rw [mq_get_put4, mq_get_n]
      by_cases h : j % 4 = i % 4
      · rw [if_pos h, mq_get_set dep _ _ _ _ hi2 hj2]
        by_cases h2 : j / 4 = i / 4
        · rw [if_pos h2, if_pos (by omega)]
        · rw [if_neg h2, if_neg (by intro h3; exact h2 (by rw [h3]))]
          rw [mq_sel_eq, mq_sel_eq, h]
      · rw [if_neg h, if_neg (by intro h3; exact h (by rw [h3]))]
    cases t with
    | l w =>
      rw [mq_set_l, key, mq_get_l]
      congr 1
      rw [mq_get_n, mq_sel_eq]
      simp only [ite_self]
      rfl
    | n a b c d => rw [mq_set_n, key]
/-- ints and longs in two's complement -/
noncomputable def mq_add32 (x y : Nat) : Nat := Nat.mod (Nat.add x y) (nat_lit 4294967296)
noncomputable def mq_mul32 (x y : Nat) : Nat := Nat.mod (Nat.mul x y) (nat_lit 4294967296)
noncomputable def mq_neg32 (x : Nat) : Nat := Nat.mod (Nat.sub (nat_lit 4294967296) (Nat.mod x (nat_lit 4294967296))) (nat_lit 4294967296)
noncomputable def mq_sub32 (x y : Nat) : Nat := mq_add32 x (mq_neg32 y)
noncomputable def mq_add64 (x y : Nat) : Nat := Nat.mod (Nat.add x y) (nat_lit 18446744073709551616)
noncomputable def mq_mul64 (x y : Nat) : Nat := Nat.mod (Nat.mul x y) (nat_lit 18446744073709551616)
noncomputable def mq_neg64 (x : Nat) : Nat := Nat.mod (Nat.sub (nat_lit 18446744073709551616) (Nat.mod x (nat_lit 18446744073709551616))) (nat_lit 18446744073709551616)
noncomputable def mq_sub64 (x y : Nat) : Nat := mq_add64 x (mq_neg64 y)
/-- quotients of numbers below 2 h -/
noncomputable def mq_quo (h x y : Nat) : Nat := cond (Nat.ble h x) (cond (Nat.ble h y) (Nat.div (Nat.sub (Nat.add h h) x) (Nat.sub (Nat.add h h) y)) (Nat.sub (Nat.add h h) (Nat.div (Nat.sub (Nat.add h h) x) y))) (cond (Nat.ble h y) (Nat.sub (Nat.add h h) (Nat.div x (Nat.sub (Nat.add h h) y))) (Nat.div x y))
noncomputable def mq_div32 (x y : Nat) : Nat := Nat.mod (mq_quo (nat_lit 2147483648) (Nat.mod x (nat_lit 4294967296)) (Nat.mod y (nat_lit 4294967296))) (nat_lit 4294967296)
noncomputable def mq_div64 (x y : Nat) : Nat := Nat.mod (mq_quo (nat_lit 9223372036854775808) (Nat.mod x (nat_lit 18446744073709551616)) (Nat.mod y (nat_lit 18446744073709551616))) (nat_lit 18446744073709551616)
noncomputable def mq_rem32 (x y : Nat) : Nat := mq_sub32 x (mq_mul32 (mq_div32 x y) y)
noncomputable def mq_rem64 (x y : Nat) : Nat := mq_sub64 x (mq_mul64 (mq_div64 x y) y)
/-- shifted up by 2^31 (2^63): ordered as the signed numbers -/
noncomputable def mq_o32 (x : Nat) : Nat := Nat.mod (Nat.add x (nat_lit 2147483648)) (nat_lit 4294967296)
noncomputable def mq_o64 (x : Nat) : Nat := Nat.mod (Nat.add x (nat_lit 9223372036854775808)) (nat_lit 18446744073709551616)
/-- an int as a long, shifted numbers; a long as an int -/
noncomputable def mq_i2l (x : Nat) : Nat := Nat.mod (Nat.add (mq_o32 x) (nat_lit 18446744071562067968)) (nat_lit 18446744073709551616)
theorem mq_jn_mod (x : Nat) : jn ((x % 4294967296 : Nat) : Int) = jn (x : Int) := by
  apply Int32.toInt_inj.mp
  rw [Int32.toInt_ofInt, Int32.toInt_ofInt]
  show Int.bmod _ 4294967296 = Int.bmod _ 4294967296
  unfold Int.bmod
  have : ((x % 4294967296 : Nat) : Int) % (4294967296 : Nat) = (x : Int) % (4294967296 : Nat) := by omega
  rw [this]
theorem mq_jl_mod (x : Nat) : jl ((x % 18446744073709551616 : Nat) : Int) = jl (x : Int) := by
  apply Int64.toInt_inj.mp
  rw [Int64.toInt_ofInt, Int64.toInt_ofInt]
  show Int.bmod _ 18446744073709551616 = Int.bmod _ 18446744073709551616
  unfold Int.bmod
  have : ((x % 18446744073709551616 : Nat) : Int) % (18446744073709551616 : Nat) = (x : Int) % (18446744073709551616 : Nat) := by omega
  rw [this]
theorem mq_jn_eq {a b : Int} (h : a % 4294967296 = b % 4294967296) : jn a = jn b := by
  apply Int32.toInt_inj.mp
  rw [Int32.toInt_ofInt, Int32.toInt_ofInt]
  show Int.bmod _ 4294967296 = Int.bmod _ 4294967296
  unfold Int.bmod
  have : a % (4294967296 : Nat) = b % (4294967296 : Nat) := h
  rw [this]
theorem mq_jl_eq {a b : Int} (h : a % 18446744073709551616 = b % 18446744073709551616) : jl a = jl b := by
  apply Int64.toInt_inj.mp
  rw [Int64.toInt_ofInt, Int64.toInt_ofInt]
  show Int.bmod _ 18446744073709551616 = Int.bmod _ 18446744073709551616
  unfold Int.bmod
  have : a % (18446744073709551616 : Nat) = b % (18446744073709551616 : Nat) := h
  rw [this]
theorem mq_jn_add (x y : Nat) : jn (mq_add32 x y : Nat) = jn x + jn y := by
  rw [jn_add]
  exact (mq_jn_mod (x + y)).trans (by rw [Int.natCast_add])
theorem mq_jn_mul (x y : Nat) : jn (mq_mul32 x y : Nat) = jn x * jn y := by
  rw [jn_mul]
  exact (mq_jn_mod (x * y)).trans (by rw [Int.natCast_mul])
theorem mq_jn_neg (x : Nat) : jn (mq_neg32 x : Nat) = -jn x := by
  rw [jn_neg]
  apply mq_jn_eq
  show (((4294967296 - x % 4294967296) % 4294967296 : Nat) : Int) % 4294967296 = -(x : Int) % 4294967296
  omega
theorem mq_jn_sub (x y : Nat) : jn (mq_sub32 x y : Nat) = jn x - jn y := by
  unfold mq_sub32
  rw [mq_jn_add, mq_jn_neg, jn_neg, jn_add, jn_sub]
  congr 1
theorem mq_jl_add (x y : Nat) : jl (mq_add64 x y : Nat) = jl x + jl y := by
  rw [jl_add]
  exact (mq_jl_mod (x + y)).trans (by rw [Int.natCast_add])
theorem mq_jl_mul (x y : Nat) : jl (mq_mul64 x y : Nat) = jl x * jl y := by
  rw [jl_mul]
  exact (mq_jl_mod (x * y)).trans (by rw [Int.natCast_mul])
theorem mq_jl_neg (x : Nat) : jl (mq_neg64 x : Nat) = -jl x := by
  rw [jl_neg]
  apply mq_jl_eq
  show (((18446744073709551616 - x % 18446744073709551616) % 18446744073709551616 : Nat) : Int) % 18446744073709551616 = -(x : Int) % 18446744073709551616
  omega
theorem mq_jl_sub (x y : Nat) : jl (mq_sub64 x y : Nat) = jl x - jl y := by
  unfold mq_sub64
  rw [mq_jl_add, mq_jl_neg, jl_neg, jl_add, jl_sub]
  congr 1
theorem mq_jn_toInt (x : Nat) : (jn x).toInt = (mq_o32 x : Nat) - 2147483648 := by
  rw [Int32.toInt_ofInt]
  show Int.bmod _ 4294967296 = (((x + 2147483648) % 4294967296 : Nat) : Int) - 2147483648
  unfold Int.bmod
  simp only []
  split <;> omega
theorem mq_jl_toInt (x : Nat) : (jl x).toInt = (mq_o64 x : Nat) - 9223372036854775808 := by
  rw [Int64.toInt_ofInt]
  show Int.bmod _ 18446744073709551616 = (((x + 9223372036854775808) % 18446744073709551616 : Nat) : Int) - 9223372036854775808
  unfold Int.bmod
  simp only []
  split <;> omega
theorem mq_jn_long (x : Nat) : (jn x).toInt64 = jl (mq_i2l x : Nat) := by
  apply Int64.toInt_inj.mp
  rw [Int32.toInt_toInt64, mq_jn_toInt, mq_jl_toInt]
  show ((((x + 2147483648) % 4294967296 : Nat)) : Int) - 2147483648 = ((((((x + 2147483648) % 4294967296) + 18446744071562067968) % 18446744073709551616) + 9223372036854775808) % 18446744073709551616 : Nat) - 9223372036854775808
  omega
theorem mq_jl_int (x : Nat) : (jl x).toInt32 = jn (x % 4294967296 : Nat) := by
  rw [jl_int, mq_jn_mod]
theorem mq_quo_pp {h x y : Nat} (hx : ¬ h ≤ x) (hy : ¬ h ≤ y) : mq_quo h x y = x / y := by
  have h1 : Nat.ble h x = false := by rw [← Bool.not_eq_true, Nat.ble_eq]; exact hx
  have h2 : Nat.ble h y = false := by rw [← Bool.not_eq_true, Nat.ble_eq]; exact hy
  unfold mq_quo
  rw [h1, h2]
  rfl
theorem mq_quo_np {h x y : Nat} (hx : h ≤ x) (hy : ¬ h ≤ y) : mq_quo h x y = h + h - (h + h - x) / y := by
  have h1 : Nat.ble h x = true := Nat.ble_eq.mpr hx
  have h2 : Nat.ble h y = false := by rw [← Bool.not_eq_true, Nat.ble_eq]; exact hy
  unfold mq_quo
  rw [h1, h2]
  rfl
theorem mq_quo_pn {h x y : Nat} (hx : ¬ h ≤ x) (hy : h ≤ y) : mq_quo h x y = h + h - x / (h + h - y) := by
  have h1 : Nat.ble h x = false := by rw [← Bool.not_eq_true, Nat.ble_eq]; exact hx
  have h2 : Nat.ble h y = true := Nat.ble_eq.mpr hy
  unfold mq_quo
  rw [h1, h2]
  rfl
theorem mq_quo_nn {h x y : Nat} (hx : h ≤ x) (hy : h ≤ y) : mq_quo h x y = (h + h - x) / (h + h - y) := by
  have h1 : Nat.ble h x = true := Nat.ble_eq.mpr hx
  have h2 : Nat.ble h y = true := Nat.ble_eq.mpr hy
  unfold mq_quo
  rw [h1, h2]
  rfl
theorem mq_tdiv_nat (x y : Nat) : (x : Int).tdiv (y : Int) = ((x / y : Nat) : Int) := rfl
/-- the quotient of two numbers as signed ones, but for a multiple of h + h -/
theorem mq_quo_eq {h x y : Nat} {X Y : Int} (hx : x < h + h) (hy : y < h + h) (hX : X = if h ≤ x then (x : Int) - (h + h) else x) (hY : Y = if h ≤ y then (y : Int) - (h + h) else y) : ∃ k : Int, X.tdiv Y = (mq_quo h x y : Nat) + k * (h + h) := by
  by_cases cx : h ≤ x
  · rw [if_pos cx] at hX
    have eX : X = -((h + h - x : Nat) : Int) := by omega
    by_cases cy : h ≤ y
    · rw [if_pos cy] at hY
      have eY : Y = -((h + h - y : Nat) : Int) := by omega
      refine ⟨0, ?_⟩
      rw [mq_quo_nn cx cy, eX, eY, Int.neg_tdiv, Int.tdiv_neg, Int.neg_neg, mq_tdiv_nat]
      omega
    · rw [if_neg cy] at hY
      refine ⟨-1, ?_⟩
      have hle : (h + h - x) / y ≤ h + h - x := Nat.div_le_self _ _
      rw [mq_quo_np cx cy, eX, hY, Int.neg_tdiv, mq_tdiv_nat]
      omega
  · rw [if_neg cx] at hX
    by_cases cy : h ≤ y
    · rw [if_pos cy] at hY
      have eY : Y = -((h + h - y : Nat) : Int) := by omega
      refine ⟨-1, ?_⟩
      have hle : x / (h + h - y) ≤ x := Nat.div_le_self _ _
      rw [mq_quo_pn cx cy, hX, eY, Int.tdiv_neg, mq_tdiv_nat]
      omega
    · rw [if_neg cy] at hY
      refine ⟨0, ?_⟩
      rw [mq_quo_pp cx cy, hX, hY, mq_tdiv_nat]
      omega
theorem mq_jn_div (x y : Nat) : jn (mq_div32 x y : Nat) = jn x / jn y := by
  have hx : x % 4294967296 < 2147483648 + 2147483648 := by omega
  have hy : y % 4294967296 < 2147483648 + 2147483648 := by omega
  obtain ⟨k, hk⟩ := mq_quo_eq (h := 2147483648) (X := (jn x).toInt) (Y := (jn y).toInt) hx hy (by
    rw [mq_jn_toInt]
    show (((x + 2147483648) % 4294967296 : Nat) : Int) - 2147483648 = _
    split <;> omega) (by
    rw [mq_jn_toInt]
    show (((y + 2147483648) % 4294967296 : Nat) : Int) - 2147483648 = _
    split <;> omega)
  apply Int32.toInt_inj.mp
  rw [Int32.toInt_div, hk]
  have e : jn (mq_div32 x y : Nat) = jn (mq_quo 2147483648 (x % 4294967296) (y % 4294967296) : Nat) := mq_jn_mod _
  rw [e, Int32.toInt_ofInt]
  show Int.bmod _ 4294967296 = Int.bmod _ (2 ^ 32)
  generalize mq_quo 2147483648 (x % 4294967296) (y % 4294967296) = q
  have e2 : ((q : Int) + k * ((2147483648 : Nat) + (2147483648 : Nat))) % (4294967296 : Nat) = (q : Int) % (4294967296 : Nat) := by omega
  unfold Int.bmod
  rw [show (2 ^ 32 : Nat) = 4294967296 from rfl, e2]
theorem mq_jl_div (x y : Nat) : jl (mq_div64 x y : Nat) = jl x / jl y := by
  have hx : x % 18446744073709551616 < 9223372036854775808 + 9223372036854775808 := by omega
  have hy : y % 18446744073709551616 < 9223372036854775808 + 9223372036854775808 := by omega
  obtain ⟨k, hk⟩ := mq_quo_eq (h := 9223372036854775808) (X := (jl x).toInt) (Y := (jl y).toInt) hx hy (by
    rw [mq_jl_toInt]
    show (((x + 9223372036854775808) % 18446744073709551616 : Nat) : Int) - 9223372036854775808 = _
    split <;> omega) (by
    rw [mq_jl_toInt]
    show (((y + 9223372036854775808) % 18446744073709551616 : Nat) : Int) - 9223372036854775808 = _
    split <;> omega)
  apply Int64.toInt_inj.mp
  rw [Int64.toInt_div, hk]
  have e : jl (mq_div64 x y : Nat) = jl (mq_quo 9223372036854775808 (x % 18446744073709551616) (y % 18446744073709551616) : Nat) := mq_jl_mod _
  rw [e, Int64.toInt_ofInt]
  show Int.bmod _ 18446744073709551616 = Int.bmod _ (2 ^ 64)
  generalize mq_quo 9223372036854775808 (x % 18446744073709551616) (y % 18446744073709551616) = q
  have e2 : ((q : Int) + k * ((9223372036854775808 : Nat) + (9223372036854775808 : Nat))) % (18446744073709551616 : Nat) = (q : Int) % (18446744073709551616 : Nat) := by omega
  unfold Int.bmod
  rw [show (2 ^ 64 : Nat) = 18446744073709551616 from rfl, e2]
theorem mq_jn_rem (x y : Nat) : jn (mq_rem32 x y : Nat) = jn x - jn x / jn y * jn y := by
  unfold mq_rem32
  rw [mq_jn_sub, mq_jn_mul, mq_jn_div]
theorem mq_jl_rem (x y : Nat) : jl (mq_rem64 x y : Nat) = jl x - jl x / jl y * jl y := by
  unfold mq_rem64
  rw [mq_jl_sub, mq_jl_mul, mq_jl_div]
