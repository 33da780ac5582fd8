/-! The fast machine: what its state says of the small machine's. -/
/-- a product of powers of four symbols, a sum of such -/
def mq_xi (ρ : Nat → Nat) (i : Nat) : Int := ((ρ i % 4294967296 : Nat) : Int) - 2147483648
def mq_mono (ρ : Nat → Nat) (m : mq_Mn) : Int := mq_xi ρ 2 ^ m.1 * mq_xi ρ 3 ^ m.2.1 * (mq_xi ρ 4 ^ m.2.2.1 * mq_xi ρ 5 ^ m.2.2.2)
def mq_pv (ρ : Nat → Nat) : mq_Pl → Int
  | [] => 0
  | t :: l => ((t.2.1 : Int) - t.2.2) * mq_mono ρ t.1 + mq_pv ρ l
/-- a byte of an int, how many of them are not 0 -/
def mq_byt (x : Int32) (k : Nat) : Nat := x.toBitVec.toNat / 256 ^ k % 256
def mq_nby (x : Int32) : Nat := (if mq_byt x 3 = 0 then 0 else 1) + (if mq_byt x 2 = 0 then 0 else 1) + (if mq_byt x 1 = 0 then 0 else 1) + (if mq_byt x 0 = 0 then 0 else 1)
abbrev mq_sx (ρ : Nat → Nat) (i : Nat) : Int32 := jn ((ρ i : Int) - 2147483648)
/-- what the further symbols are: signs, products, their order, the bytes that are not 0 -/
abbrev mq_Vq (ρ : Nat → Nat) : Prop := (∀ e ∈ mq_tabl, (ρ e.1 : Int) - 1 = jsg (mq_pv ρ e.2)) ∧ mq_sx ρ 6 = mq_sx ρ 2 * mq_sx ρ 5 ∧ mq_sx ρ 7 = mq_sx ρ 4 * mq_sx ρ 3 ∧ mq_sx ρ 8 = mq_sx ρ 3 * mq_sx ρ 5 ∧ (ρ 9 < 1 ↔ ρ 6 < ρ 7) ∧ (ρ 9 < 2 ↔ ρ 6 ≤ ρ 7) ∧ ρ 10 = 2147483648 + (mq_nby (mq_sx ρ 1) + mq_nby (mq_sx ρ 2) + mq_nby (mq_sx ρ 3) + mq_nby (mq_sx ρ 4) + mq_nby (mq_sx ρ 5)) ∧ (ρ 11 < 1 ↔ ρ 1 = ρ 2)
noncomputable def mq_val (ρ : Nat → Nat) (w : mq_W) : Value := match w with
  | (Sum.inl n) => .int (jn n)
  | (Sum.inr (Sum.inr (Sum.inl n))) => .long (jl n)
  | (Sum.inr (Sum.inl a)) => .ref a
  | (Sum.inr (Sum.inr (Sum.inr (Sum.inr (Sum.inr (Sum.inr (Sum.inr (Sum.inr none)))))))) => .null
  | (Sum.inr (Sum.inr (Sum.inr (Sum.inl (i, m, c))))) => .int (jn (((ρ i : Int) - 2147483648) * m + c))
  | (Sum.inr (Sum.inr (Sum.inr (Sum.inr (Sum.inl i))))) => .long (jl ((ρ i : Int) - 2147483648))
  | (Sum.inr (Sum.inr (Sum.inr (Sum.inr (Sum.inr (Sum.inl (i, lo, l))))))) => .ref (mq_nth (mq_hd l) l (ρ i - lo))
  | (Sum.inr (Sum.inr (Sum.inr (Sum.inr (Sum.inr (Sum.inr (Sum.inl x))))))) => .double x
  | (Sum.inr (Sum.inr (Sum.inr (Sum.inr (Sum.inr (Sum.inr (Sum.inr (Sum.inl x)))))))) => .float x
  | (Sum.inr (Sum.inr (Sum.inr (Sum.inr (Sum.inr (Sum.inr (Sum.inr (Sum.inr (some (some none)))))))))) => .long (jl ((ρ 3 : Int) - 2147483648) <<< ((jn 32).toInt64 &&& 63))
  | (Sum.inr (Sum.inr (Sum.inr (Sum.inr (Sum.inr (Sum.inr (Sum.inr (Sum.inr (some (some (some true))))))))))) => .long (jl ((ρ 4 : Int) - 2147483648) &&& jl 4294967295)
  | (Sum.inr (Sum.inr (Sum.inr (Sum.inr (Sum.inr (Sum.inr (Sum.inr (Sum.inr (some (some (some false))))))))))) => .long ((jl ((ρ 3 : Int) - 2147483648) <<< ((jn 32).toInt64 &&& 63)) ||| (jl ((ρ 4 : Int) - 2147483648) &&& jl 4294967295))
  | (Sum.inr (Sum.inr (Sum.inr (Sum.inr (Sum.inr (Sum.inr (Sum.inr (Sum.inr (some none))))))))) => .null
/-- the rank of a long among -(10^18 - 1), 0 and 10^18 - 1 -/
abbrev mq_Rk (r : Nat) (z : Int) : Prop := (r < 1 ↔ z < -999999999999999999) ∧ (r < 2 ↔ z ≤ -999999999999999999) ∧ (r < 3 ↔ z < 0) ∧ (r < 4 ↔ z ≤ 0) ∧ (r < 5 ↔ z < 999999999999999999) ∧ (r < 6 ↔ z ≤ 999999999999999999)
/-- the symbols are within their bounds -/
abbrev mq_Sat (ρ : Nat → Nat) (env : mq_V) : Prop := (∀ i, ρ i < 4294967296) ∧ (mq_Rk (ρ 62) ((jl ((ρ 3 : Int) - 2147483648) <<< ((jn 32).toInt64 &&& 63)) ||| (jl ((ρ 4 : Int) - 2147483648) &&& jl 4294967295)).toInt ∧ mq_Vq ρ) ∧ jn ((ρ 0 : Int) - 2147483648) &&& jn 63 = jn (ρ 63 : Nat) ∧ ∀ i lo hi, mq_bd env i = (lo, hi) → lo ≤ ρ i ∧ ρ i ≤ hi
theorem mq_Sat.bd {ρ : Nat → Nat} {env : mq_V} (h : mq_Sat ρ env) : ∀ i, ρ i < 4294967296 := h.1
theorem mq_Sat.rk {ρ : Nat → Nat} {env : mq_V} (h : mq_Sat ρ env) : mq_Rk (ρ 62) ((jl ((ρ 3 : Int) - 2147483648) <<< ((jn 32).toInt64 &&& 63)) ||| (jl ((ρ 4 : Int) - 2147483648) &&& jl 4294967295)).toInt := h.2.1.1
theorem mq_Sat.vq {ρ : Nat → Nat} {env : mq_V} (h : mq_Sat ρ env) : mq_Vq ρ := h.2.1.2
theorem mq_Sat.op {ρ : Nat → Nat} {env : mq_V} (h : mq_Sat ρ env) : jn ((ρ 0 : Int) - 2147483648) &&& jn 63 = jn (ρ 63 : Nat) := h.2.2.1
theorem mq_Sat.of {ρ : Nat → Nat} {env : mq_V} (h : mq_Sat ρ env) : ∀ i lo hi, mq_bd env i = (lo, hi) → lo ≤ ρ i ∧ ρ i ≤ hi := h.2.2.2
theorem mq_and_eq {a b : Bool} : (mq_and a b = true) = (a = true ∧ b = true) := by
  cases a
  · exact propext ⟨fun h => (by cases h), fun h => (by cases h.1)⟩
  · exact propext ⟨fun h => ⟨rfl, h⟩, fun h => h.2⟩
theorem mq_all_of {n : Nat} {f : Nat → Bool} (h : mq_all n f = true) : ∀ m, m < n → f m = true := by
  induction n with
  | zero => intro m hm; omega
  | succ n ih =>
    have h1 : mq_and (f n) (mq_all n f) = true := h
    rw [mq_and_eq] at h1
    intro m hm
    rcases Nat.lt_or_ge m n with h2 | h2
    · exact ih h1.2 m h2
    · have : m = n := by omega
      rw [this]
      exact h1.1
theorem mq_bd_nar (env : mq_V) (i lo hi j : Nat) : mq_bd (mq_nar env i lo hi) j = if j = i then (lo, hi) else mq_bd env j := mq_nth_nup _ _ _ _ _
theorem mq_Sat.nar {ρ : Nat → Nat} {env : mq_V} {i lo hi : Nat} (h : mq_Sat ρ env) (h1 : lo ≤ ρ i) (h2 : ρ i ≤ hi) : mq_Sat ρ (mq_nar env i lo hi) := by
  refine ⟨h.bd, ⟨h.rk, h.vq⟩, h.op, fun j lo' hi' hj => ?_⟩
  rw [mq_bd_nar] at hj
  split at hj
  · rename_i e
    cases hj
    rw [e]
    exact ⟨h1, h2⟩
  · exact h.of j lo' hi' hj
theorem mq_cond_of {b : Bool} {x : Bool} (h : Bool.rec (motive := fun _ => Bool) false x b = true) : b = true ∧ x = true := by
  cases b
  · cases h
  · exact ⟨rfl, h⟩
theorem mq_cond_no {b : Bool} {x : Bool} (h : Bool.rec (motive := fun _ => Bool) x false b = true) : b = false ∧ x = true := by
  cases b
  · exact ⟨rfl, h⟩
  · cases h
theorem mq_fork_of {ρ : Nat → Nat} {env : mq_V} {i : Nat} {k : Nat → mq_V → Bool} (h : mq_fork env i k = true) (hs : mq_Sat ρ env) : ∃ e, mq_Sat ρ e ∧ k (ρ i) e = true := by
  unfold mq_fork at h
  split at h
  rename_i lo hi hb
  obtain ⟨-, h2⟩ := mq_cond_of h
  obtain ⟨h3, h4⟩ := hs.of i lo hi hb
  have h5 := mq_all_of h2 (ρ i - lo) (by
    show ρ i - lo < hi - lo + 1
    omega)
  have e : Nat.add lo (ρ i - lo) = ρ i := by show lo + (ρ i - lo) = ρ i; omega
  rw [e] at h5
  exact ⟨_, hs.nar (Nat.le_refl _) (Nat.le_refl _), h5⟩
theorem mq_split_of {ρ : Nat → Nat} {env : mq_V} {i t : Nat} {kb ka : mq_V → Bool} (h : mq_split env i t kb ka = true) (hs : mq_Sat ρ env) : ∃ e, mq_Sat ρ e ∧ ((ρ i < t ∧ kb e = true) ∨ (t ≤ ρ i ∧ ka e = true)) := by
  unfold mq_split at h
  split at h
  rename_i lo hi hb
  obtain ⟨h3, h4⟩ := hs.of i lo hi hb
  rw [mq_and_eq] at h
  obtain ⟨h1, h2⟩ := h
  by_cases c : ρ i < t
  · have e1 : Nat.ble t lo = false := by rw [← Bool.not_eq_true, Nat.ble_eq]; omega
    rw [e1] at h1
    refine ⟨_, hs.nar h3 ?_, Or.inl ⟨c, h1⟩⟩
    by_cases c2 : t ≤ hi
    · rw [Nat.ble_eq.mpr c2]
      show ρ i ≤ t - 1
      omega
    · have e2 : Nat.ble t hi = false := by rw [← Bool.not_eq_true, Nat.ble_eq]; omega
      rw [e2]
      exact h4
  · have e2 : Nat.ble t hi = true := Nat.ble_eq.mpr (by omega)
    rw [e2] at h2
    refine ⟨_, hs.nar ?_ h4, Or.inr ⟨by omega, h2⟩⟩
    by_cases c2 : lo ≤ t
    · rw [Nat.ble_eq.mpr c2]
      show t ≤ ρ i
      omega
    · have e3 : Nat.ble lo t = false := by rw [← Bool.not_eq_true, Nat.ble_eq]; omega
      rw [e3]
      exact h3
theorem mq_ev_eq (o m c : Nat) : jn (mq_ev o m c : Nat) = jn (((o : Int) - 2147483648) * m + c) := by
  have e : mq_ev o m c = (o * m + 2147483648 * m + c) % 4294967296 := rfl
  rw [e, mq_jn_mod]
  apply mq_jn_eq
  have : (((o * m + 2147483648 * m + c : Nat)) : Int) = ((o : Int) - 2147483648) * m + c + 4294967296 * m := by
    rw [Int.natCast_add, Int.natCast_add, Int.natCast_mul, Int.natCast_mul, Int.sub_mul]
    generalize (o : Int) * (m : Int) = p
    omega
  rw [this, Int.add_mul_emod_self_left]
theorem mq_vI_of {ρ : Nat → Nat} {env : mq_V} {w : mq_W} {k : Nat → mq_V → Bool} (h : mq_vI w env k = true) (hs : mq_Sat ρ env) : ∃ x e, mq_val ρ w = .int (jn (x : Nat)) ∧ mq_Sat ρ e ∧ k x e = true := by
  rcases mq_Wd w with ⟨n, rfl⟩ | ⟨a, rfl⟩ | ⟨n, rfl⟩ | ⟨i, m, c, rfl⟩ | ⟨i, rfl⟩ | ⟨i, lo, l, rfl⟩ | ⟨x, rfl⟩ | ⟨x, rfl⟩ | rfl | rfl | rfl | rfl | rfl
  · exact ⟨_, _, rfl, hs, h⟩
  · cases h
  · cases h
  · obtain ⟨e, h1, h2⟩ := mq_fork_of (env := env) (i := i) (k := fun o e => k (mq_ev o m c) e) h hs
    exact ⟨_, e, by simp only [mq_val, mq_ev_eq], h1, h2⟩
  · cases h
  · cases h
  · cases h
  · cases h
  · cases h
  · cases h
  · cases h
  · cases h
  · cases h
theorem mq_vJ_of {ρ : Nat → Nat} {env : mq_V} {w : mq_W} {k : Nat → mq_V → Bool} (h : mq_vJ w env k = true) (hs : mq_Sat ρ env) : ∃ x e, mq_val ρ w = .long (jl (x : Nat)) ∧ mq_Sat ρ e ∧ k x e = true := by
  rcases mq_Wd w with ⟨n, rfl⟩ | ⟨a, rfl⟩ | ⟨n, rfl⟩ | ⟨i, m, c, rfl⟩ | ⟨i, rfl⟩ | ⟨i, lo, l, rfl⟩ | ⟨x, rfl⟩ | ⟨x, rfl⟩ | rfl | rfl | rfl | rfl | rfl
  · cases h
  · cases h
  · exact ⟨_, _, rfl, hs, h⟩
  · cases h
  · obtain ⟨e, h1, h2⟩ := mq_fork_of (env := env) (i := i) (k := fun o e => k (Nat.mod (Nat.add o (nat_lit 18446744071562067968)) (nat_lit 18446744073709551616)) e) h hs
    refine ⟨_, e, ?_, h1, h2⟩
    have hb := hs.bd i
    have e2 : Nat.mod (Nat.add (ρ i) (nat_lit 18446744071562067968)) (nat_lit 18446744073709551616) = (ρ i + 18446744071562067968) % 18446744073709551616 := rfl
    rw [e2]
    show Value.long (jl ((ρ i : Int) - 2147483648)) = _
    have e3 : jl ((ρ i : Int) - 2147483648) = jl (((ρ i + 18446744071562067968) % 18446744073709551616 : Nat) : Int) := mq_jl_eq (by omega)
    rw [e3]
  · cases h
  · cases h
  · cases h
  · cases h
  · cases h
  · cases h
  · cases h
  · cases h
theorem mq_vA_of {ρ : Nat → Nat} {env : mq_V} {w : mq_W} {k : Nat → mq_V → Bool} (h : mq_vA w env k = true) (hs : mq_Sat ρ env) : ∃ x e, mq_val ρ w = .ref x ∧ mq_Sat ρ e ∧ k x e = true := by
  rcases mq_Wd w with ⟨n, rfl⟩ | ⟨a, rfl⟩ | ⟨n, rfl⟩ | ⟨i, m, c, rfl⟩ | ⟨i, rfl⟩ | ⟨i, lo, l, rfl⟩ | ⟨x, rfl⟩ | ⟨x, rfl⟩ | rfl | rfl | rfl | rfl | rfl
  · cases h
  · exact ⟨_, _, rfl, hs, h⟩
  · cases h
  · cases h
  · cases h
  · obtain ⟨e, h1, h2⟩ := mq_fork_of (env := env) (i := i) (k := fun o e => k (mq_nth (mq_hd l) l (Nat.sub o lo)) e) h hs
    exact ⟨_, e, rfl, h1, h2⟩
  · cases h
  · cases h
  · cases h
  · cases h
  · cases h
  · cases h
  · cases h
theorem mq_pI_of {ρ : Nat → Nat} {env : mq_V} {st : List mq_W} {k : Nat → List mq_W → mq_V → Bool} (h : mq_pI st env k = true) (hs : mq_Sat ρ env) : ∃ w s x e, st = w :: s ∧ mq_val ρ w = .int (jn (x : Nat)) ∧ mq_Sat ρ e ∧ k x s e = true := by
  cases st with
  | nil => cases h
  | cons w s =>
    obtain ⟨x, e, h1, h2, h3⟩ := mq_vI_of (w := w) h hs
    exact ⟨w, s, x, e, rfl, h1, h2, h3⟩
theorem mq_pJ_of {ρ : Nat → Nat} {env : mq_V} {st : List mq_W} {k : Nat → List mq_W → mq_V → Bool} (h : mq_pJ st env k = true) (hs : mq_Sat ρ env) : ∃ w s x e, st = w :: s ∧ mq_val ρ w = .long (jl (x : Nat)) ∧ mq_Sat ρ e ∧ k x s e = true := by
  cases st with
  | nil => cases h
  | cons w s =>
    obtain ⟨x, e, h1, h2, h3⟩ := mq_vJ_of (w := w) h hs
    exact ⟨w, s, x, e, rfl, h1, h2, h3⟩
theorem mq_pA_of {ρ : Nat → Nat} {env : mq_V} {st : List mq_W} {k : Nat → List mq_W → mq_V → Bool} (h : mq_pA st env k = true) (hs : mq_Sat ρ env) : ∃ w s x e, st = w :: s ∧ mq_val ρ w = .ref x ∧ mq_Sat ρ e ∧ k x s e = true := by
  cases st with
  | nil => cases h
  | cons w s =>
    obtain ⟨x, e, h1, h2, h3⟩ := mq_vA_of (w := w) h hs
    exact ⟨w, s, x, e, rfl, h1, h2, h3⟩
theorem mq_p1_of {st : List mq_W} {k : mq_W → List mq_W → Bool} (h : mq_p1 st k = true) : ∃ w s, st = w :: s ∧ k w s = true := by
  cases st with
  | nil => cases h
  | cons w s => exact ⟨w, s, rfl, h⟩
theorem mq_kd0 {ρ : Nat → Nat} {w : mq_W} (h : mq_kd 0 w = true) : ∃ x, mq_val ρ w = .int x := by
  rcases mq_Wd w with ⟨n, rfl⟩ | ⟨a, rfl⟩ | ⟨n, rfl⟩ | ⟨i, m, c, rfl⟩ | ⟨i, rfl⟩ | ⟨i, lo, l, rfl⟩ | ⟨x, rfl⟩ | ⟨x, rfl⟩ | rfl | rfl | rfl | rfl | rfl <;> first | exact ⟨_, rfl⟩ | cases h
theorem mq_kd1 {ρ : Nat → Nat} {w : mq_W} (h : mq_kd 1 w = true) : ∃ x, mq_val ρ w = .long x := by
  rcases mq_Wd w with ⟨n, rfl⟩ | ⟨a, rfl⟩ | ⟨n, rfl⟩ | ⟨i, m, c, rfl⟩ | ⟨i, rfl⟩ | ⟨i, lo, l, rfl⟩ | ⟨x, rfl⟩ | ⟨x, rfl⟩ | rfl | rfl | rfl | rfl | rfl <;> first | exact ⟨_, rfl⟩ | cases h
theorem mq_kd2 {ρ : Nat → Nat} {w : mq_W} (h : mq_kd 2 w = true) : ∃ x, mq_val ρ w = .ref x := by
  rcases mq_Wd w with ⟨n, rfl⟩ | ⟨a, rfl⟩ | ⟨n, rfl⟩ | ⟨i, m, c, rfl⟩ | ⟨i, rfl⟩ | ⟨i, lo, l, rfl⟩ | ⟨x, rfl⟩ | ⟨x, rfl⟩ | rfl | rfl | rfl | rfl | rfl <;> first | exact ⟨_, rfl⟩ | cases h
theorem mq_kd3 {ρ : Nat → Nat} {w : mq_W} (h : mq_kd 3 w = true) : ∃ x, mq_val ρ w = .double x := by
  rcases mq_Wd w with ⟨n, rfl⟩ | ⟨a, rfl⟩ | ⟨n, rfl⟩ | ⟨i, m, c, rfl⟩ | ⟨i, rfl⟩ | ⟨i, lo, l, rfl⟩ | ⟨x, rfl⟩ | ⟨x, rfl⟩ | rfl | rfl | rfl | rfl | rfl <;> first | exact ⟨_, rfl⟩ | cases h
theorem mq_kd5 {ρ : Nat → Nat} {w : mq_W} (h : mq_kd 5 w = true) : ∃ x, mq_val ρ w = .float x := by
  rcases mq_Wd w with ⟨n, rfl⟩ | ⟨a, rfl⟩ | ⟨n, rfl⟩ | ⟨i, m, c, rfl⟩ | ⟨i, rfl⟩ | ⟨i, lo, l, rfl⟩ | ⟨x, rfl⟩ | ⟨x, rfl⟩ | rfl | rfl | rfl | rfl | rfl <;> first | exact ⟨_, rfl⟩ | cases h
theorem mq_kd_kn {k : Nat} {w : mq_W} (h : mq_kd k w = true) : mq_kn w = true := by
  rcases mq_Wd w with ⟨n, rfl⟩ | ⟨a, rfl⟩ | ⟨n, rfl⟩ | ⟨i, m, c, rfl⟩ | ⟨i, rfl⟩ | ⟨i, lo, l, rfl⟩ | ⟨x, rfl⟩ | ⟨x, rfl⟩ | rfl | rfl | rfl | rfl | rfl <;> first | rfl | cases h
/-- comparisons -/
theorem mq_cmp_eq (c : ClassFile.Cond) (x y : Nat) : mq_cmp c x y = jc c (x : Int) (y : Int) := by
  cases c
  · show Nat.beq x y = decide ((x : Int) = y)
    rw [Bool.eq_iff_iff, Nat.beq_eq, decide_eq_true_eq]; omega
  · show (Bool.rec (motive := fun _ => Bool) true false (Nat.beq x y)) = !decide ((x : Int) = y)
    have e : ∀ b : Bool, (Bool.rec (motive := fun _ => Bool) true false b) = !b := fun b => by cases b <;> rfl
    rw [e]
    congr 1
    rw [Bool.eq_iff_iff, Nat.beq_eq, decide_eq_true_eq]; omega
  all_goals
    simp only [mq_cmp, jc]
    rw [Bool.eq_iff_iff, Nat.ble_eq, decide_eq_true_eq]
    try (show _ + 1 ≤ _ ↔ _)
    omega
theorem mq_jc_add (c : ClassFile.Cond) (x y d : Int) : jc c (x - d) (y - d) = jc c x y := by
  cases c <;> simp only [jc] <;> congr 1 <;> (first | (apply propext; omega) | (congr 1; apply propext; omega) | skip)
theorem mq_cnd_int (c : ClassFile.Cond) (x y : Int32) : mj_cnd c x y = jc c x.toInt y.toInt := by
  have h := jn_cnd (jr_of x) (jr_of y) c
  rw [jn_of, jn_of] at h
  exact h
theorem mq_cnd (c : ClassFile.Cond) (x y : Nat) : mj_cnd c (jn x) (jn y) = mq_cmp c (mq_o32 x) (mq_o32 y) := by
  rw [mq_cnd_int, mq_jn_toInt, mq_jn_toInt, mq_jc_add, mq_cmp_eq]
theorem mq_cndL (c : ClassFile.Cond) (x y : Int64) : mj_cnd c (lg_cmp x y) 0 = jc c x.toInt y.toInt := by
  have h := jl_cmp (jR_of x) (jR_of y)
  rw [jl_of, jl_of] at h
  rw [h, show (0 : Int32) = jn 0 from rfl, jn_cnd (by constructor <;> (repeat' split) <;> decide) ⟨by decide, by decide⟩]
  exact jcl_eq c _ _
theorem mq_jc_sw (c : ClassFile.Cond) (x y : Int) : jc (mq_sw c) x y = jc c y x := by
  cases c <;> simp only [jc, mq_sw] <;> (first | rfl | (congr 1; apply propext; omega) | (congr 2; apply propext; omega))
theorem mq_cs_of {ρ : Nat → Nat} {env : mq_V} {c : ClassFile.Cond} {i t1 t2 : Nat} {k : Bool → mq_V → Bool} (y : Int) (h : mq_cs c env i t1 t2 k = true) (hs : mq_Sat ρ env) (x : Int) (h1 : ρ i < t1 ↔ x < y) (h2 : ρ i < t2 ↔ x ≤ y) : ∃ e, mq_Sat ρ e ∧ k (jc c x y) e = true := by
  have tt : ∀ {p : Prop} [Decidable p], p → decide p = true := fun h => decide_eq_true h
  have ff : ∀ {p : Prop} [Decidable p], ¬ p → decide p = false := fun h => decide_eq_false h
  unfold mq_cs at h
  split at h
  · obtain ⟨e, g1, g2 | g2⟩ := mq_split_of h hs
    · exact ⟨e, g1, by rw [show jc .lt x y = true from tt (by omega)]; exact g2.2⟩
    · exact ⟨e, g1, by rw [show jc .lt x y = false from ff (by omega)]; exact g2.2⟩
  · obtain ⟨e, g1, g2 | g2⟩ := mq_split_of h hs
    · exact ⟨e, g1, by rw [show jc .ge x y = false from ff (by omega)]; exact g2.2⟩
    · exact ⟨e, g1, by rw [show jc .ge x y = true from tt (by omega)]; exact g2.2⟩
  · obtain ⟨e, g1, g2 | g2⟩ := mq_split_of h hs
    · exact ⟨e, g1, by rw [show jc .le x y = true from tt (by omega)]; exact g2.2⟩
    · exact ⟨e, g1, by rw [show jc .le x y = false from ff (by omega)]; exact g2.2⟩
  · obtain ⟨e, g1, g2 | g2⟩ := mq_split_of h hs
    · exact ⟨e, g1, by rw [show jc .gt x y = false from ff (by omega)]; exact g2.2⟩
    · exact ⟨e, g1, by rw [show jc .gt x y = true from tt (by omega)]; exact g2.2⟩
  · obtain ⟨e, g1, g2 | g2⟩ := mq_split_of h hs
    · exact ⟨e, g1, by rw [show jc .eq x y = false from ff (by omega)]; exact g2.2⟩
    · obtain ⟨e, g1, g3 | g3⟩ := mq_split_of g2.2 g1
      · exact ⟨e, g1, by rw [show jc .eq x y = true from tt (by omega)]; exact g3.2⟩
      · exact ⟨e, g1, by rw [show jc .eq x y = false from ff (by omega)]; exact g3.2⟩
  · obtain ⟨e, g1, g2 | g2⟩ := mq_split_of h hs
    · exact ⟨e, g1, by rw [show jc .ne x y = true from by simp [jc]; omega]; exact g2.2⟩
    · obtain ⟨e, g1, g3 | g3⟩ := mq_split_of g2.2 g1
      · exact ⟨e, g1, by rw [show jc .ne x y = false from by simp [jc]; omega]; exact g3.2⟩
      · exact ⟨e, g1, by rw [show jc .ne x y = true from by simp [jc]; omega]; exact g3.2⟩
theorem mq_sym_toInt {ρ : Nat → Nat} {i : Nat} (hb : ρ i < 4294967296) : (jn (((ρ i : Int) - 2147483648) * ((1 : Nat) : Int) + ((0 : Nat) : Int))).toInt = (ρ i : Int) - 2147483648 := by
  have e : ((ρ i : Int) - 2147483648) * ((1 : Nat) : Int) + ((0 : Nat) : Int) = (ρ i : Int) - 2147483648 := by omega
  rw [e, jn_toInt ⟨by omega, by omega⟩]
theorem mq_cF_of {ρ : Nat → Nat} {env : mq_V} {c : ClassFile.Cond} {i m cc oc : Nat} {k : Bool → mq_V → Bool} (h : mq_cF c env i m cc oc k = true) (hs : mq_Sat ρ env) : ∃ e, mq_Sat ρ e ∧ k (jc c (jn (((ρ i : Int) - 2147483648) * m + cc)).toInt ((oc : Int) - 2147483648)) e = true := by
  obtain ⟨e, h1, h2⟩ := mq_fork_of (env := env) (i := i) (k := fun o e => k (mq_cmp c (mq_o32 (mq_ev o m cc)) oc) e) h hs
  refine ⟨e, h1, ?_⟩
  rw [← mq_ev_eq, mq_jn_toInt, mq_jc_add, ← mq_cmp_eq]
  exact h2
theorem mq_if_or {b x y : Bool} (h : Bool.rec (motive := fun _ => Bool) y x b = true) : (b = true ∧ x = true) ∨ (b = false ∧ y = true) := by
  cases b
  · exact Or.inr ⟨rfl, h⟩
  · exact Or.inl ⟨rfl, h⟩
theorem mq_cE_of {ρ : Nat → Nat} {env : mq_V} {c : ClassFile.Cond} {i m cc oc : Nat} {k : Bool → mq_V → Bool} (h : mq_cE c env i m cc oc k = true) (hs : mq_Sat ρ env) : ∃ e, mq_Sat ρ e ∧ k (jc c (jn (((ρ i : Int) - 2147483648) * m + cc)).toInt ((oc : Int) - 2147483648)) e = true := by
  have hb := hs.bd i
  rcases mq_if_or h with ⟨hm, h⟩ | ⟨-, h⟩
  · have hm := Nat.beq_eq.mp hm
    subst hm
    rcases mq_if_or h with ⟨hc, h⟩ | ⟨-, h⟩
    · have hc := Nat.beq_eq.mp hc
      subst hc
      rw [mq_sym_toInt hb]
      exact mq_cs_of _ h hs _ (by omega) (by show ρ i < oc + 1 ↔ _; omega)
    · split at h
      rename_i lo hi hbd
      obtain ⟨b1, b2⟩ := hs.of i lo hi hbd
      have e0 : ((ρ i : Int) - 2147483648) * ((1 : Nat) : Int) + (cc : Int) = (ρ i : Int) - 2147483648 + cc := by omega
      rcases mq_if_or h with ⟨h0, h⟩ | ⟨-, h⟩
      · rcases mq_if_or h with ⟨h1, h⟩ | ⟨-, h⟩
        · rw [mq_and_eq] at h1
          have k1 : 4294967296 - cc ≤ lo := Nat.ble_eq.mp h1.1
          have k2 : cc ≤ 4294967296 := Nat.ble_eq.mp h1.2
          have e1 : jn ((ρ i : Int) - 2147483648 + cc) = jn ((ρ i : Int) - 2147483648 - (4294967296 - cc)) := mq_jn_eq (by omega)
          rw [e0, e1, jn_toInt ⟨by omega, by omega⟩]
          refine mq_cs_of _ h hs _ ?_ ?_
          · show ρ i < oc + (4294967296 - cc) ↔ _
            omega
          · show ρ i < oc + (4294967296 - cc) + 1 ↔ _
            omega
        · exact mq_cF_of h hs
      · rcases mq_if_or h with ⟨h1, h⟩ | ⟨-, h⟩
        · have k1 : hi + cc + 1 ≤ 4294967296 := Nat.ble_eq.mp h1
          rw [e0, jn_toInt ⟨by omega, by omega⟩]
          refine mq_cs_of _ h hs _ ?_ ?_
          · show ρ i < oc - cc ↔ _
            omega
          · show ρ i < oc + 1 - cc ↔ _
            omega
        · exact mq_cF_of h hs
  · exact mq_cF_of h hs
theorem mq_cZ_of {ρ : Nat → Nat} {env : mq_V} {c : ClassFile.Cond} {k : Bool → mq_V → Bool} (h : mq_cZ c env k = true) (hs : mq_Sat ρ env) : ∃ e, mq_Sat ρ e ∧ k (jc c ((ρ 1 : Int) - 2147483648) ((ρ 2 : Int) - 2147483648)) e = true := by
  have hv : ρ 11 < 1 ↔ ρ 1 = ρ 2 := hs.vq.2.2.2.2.2.2.2
  have tt : ∀ {p : Prop} [Decidable p], p → decide p = true := fun h => decide_eq_true h
  have ff : ∀ {p : Prop} [Decidable p], ¬ p → decide p = false := fun h => decide_eq_false h
  unfold mq_cZ at h
  split at h
  · obtain ⟨e, g1, g2 | g2⟩ := mq_split_of h hs
    · exact ⟨e, g1, by rw [show jc .eq ((ρ 1 : Int) - 2147483648) ((ρ 2 : Int) - 2147483648) = true from tt (by omega)]; exact g2.2⟩
    · exact ⟨e, g1, by rw [show jc .eq ((ρ 1 : Int) - 2147483648) ((ρ 2 : Int) - 2147483648) = false from ff (by omega)]; exact g2.2⟩
  · obtain ⟨e, g1, g2 | g2⟩ := mq_split_of h hs
    · exact ⟨e, g1, by rw [show jc .ne ((ρ 1 : Int) - 2147483648) ((ρ 2 : Int) - 2147483648) = false from by simp [jc]; omega]; exact g2.2⟩
    · exact ⟨e, g1, by rw [show jc .ne ((ρ 1 : Int) - 2147483648) ((ρ 2 : Int) - 2147483648) = true from by simp [jc]; omega]; exact g2.2⟩
  · cases h
theorem mq_cI_of {ρ : Nat → Nat} {env : mq_V} {c : ClassFile.Cond} {wx wy : mq_W} {k : Bool → mq_V → Bool} (h : mq_cI c wx wy env k = true) (hs : mq_Sat ρ env) : ∃ e x y, mq_val ρ wx = .int x ∧ mq_val ρ wy = .int y ∧ mq_Sat ρ e ∧ k (mj_cnd c x y) e = true := by
  have key : ∀ wx wy : mq_W, mq_cI2 c wx wy env k = true → ∃ e x y, mq_val ρ wx = .int x ∧ mq_val ρ wy = .int y ∧ mq_Sat ρ e ∧ k (mj_cnd c x y) e = true := by
    intro wx wy h
    unfold mq_cI2 at h
    split at h
    · rename_i x i m cc
      obtain ⟨e, h1, h2⟩ := mq_cE_of (c := mq_sw c) (env := env) (i := i) (m := m) (cc := cc) (oc := mq_o32 x) (k := k) h hs
      refine ⟨e, _, _, rfl, rfl, h1, ?_⟩
      rw [mq_cnd_int, mq_jn_toInt, ← mq_jc_sw]
      exact h2
    · rename_i i m cc y
      obtain ⟨e, h1, h2⟩ := mq_cE_of (c := c) (env := env) (i := i) (m := m) (cc := cc) (oc := mq_o32 y) (k := k) h hs
      refine ⟨e, _, _, rfl, rfl, h1, ?_⟩
      rw [mq_cnd_int, mq_jn_toInt]
      exact h2
    · rename_i i m cc i2 m2 cc2
      rcases mq_if_or h with ⟨q, h⟩ | ⟨-, h⟩
      · rw [mq_and_eq, mq_and_eq, mq_and_eq, mq_and_eq, mq_and_eq] at q
        obtain ⟨⟨q1, q2⟩, ⟨q3, q4⟩, q5, q6⟩ := q
        have q1 := Nat.beq_eq.mp q1
        have q2 := Nat.beq_eq.mp q2
        have q3 := Nat.beq_eq.mp q3
        have q4 := Nat.beq_eq.mp q4
        have q5 := Nat.beq_eq.mp q5
        have q6 := Nat.beq_eq.mp q6
        subst q1
        subst q2
        subst q3
        subst q4
        subst q5
        subst q6
        have hv := hs.vq
        obtain ⟨-, -, -, -, v1, v2, -⟩ := hv
        obtain ⟨e, h1, h2⟩ := mq_cs_of ((ρ 7 : Int) - 2147483648) h hs ((ρ 6 : Int) - 2147483648) (by omega) (by omega)
        refine ⟨e, _, _, rfl, rfl, h1, ?_⟩
        rw [mq_cnd_int, mq_sym_toInt (hs.bd 6), mq_sym_toInt (hs.bd 7)]
        exact h2
      rcases mq_if_or h with ⟨q, h⟩ | ⟨-, h⟩
      · rw [mq_and_eq, mq_and_eq, mq_and_eq, mq_and_eq, mq_and_eq] at q
        obtain ⟨⟨q1, q2⟩, ⟨q3, q4⟩, q5, q6⟩ := q
        have q1 := Nat.beq_eq.mp q1
        have q2 := Nat.beq_eq.mp q2
        have q3 := Nat.beq_eq.mp q3
        have q4 := Nat.beq_eq.mp q4
        have q5 := Nat.beq_eq.mp q5
        have q6 := Nat.beq_eq.mp q6
        subst q1
        subst q2
        subst q3
        subst q4
        subst q5
        subst q6
        obtain ⟨e, h1, h2⟩ := mq_cZ_of h hs
        refine ⟨e, _, _, rfl, rfl, h1, ?_⟩
        rw [mq_cnd_int, mq_sym_toInt (hs.bd 1), mq_sym_toInt (hs.bd 2)]
        exact h2
      obtain ⟨e, h1, h2⟩ := mq_fork_of (env := env) (i := i) (k := fun o e => mq_cE (mq_sw c) e i2 m2 cc2 (mq_o32 (mq_ev o m cc)) k) h hs
      obtain ⟨e', h3, h4⟩ := mq_cE_of h2 h1
      refine ⟨e', _, _, rfl, rfl, h3, ?_⟩
      rw [mq_cnd_int, ← mq_ev_eq, mq_jn_toInt, ← mq_jc_sw]
      exact h4
    · cases h
  match wx, wy, h with
  | .inl x, .inl y, h =>
    refine ⟨env, _, _, rfl, rfl, hs, ?_⟩
    rw [mq_cnd]
    exact h
  | .inl x, .inr r, h => exact key _ _ h
  | .inr r, wy, h => exact key _ _ h
theorem mq_cQ_of {ρ : Nat → Nat} {env : mq_V} {c : ClassFile.Cond} {y : Nat} {k : Bool → mq_V → Bool} (h : mq_cQ c env y k = true) (hs : mq_Sat ρ env) : ∃ e, mq_Sat ρ e ∧ k (jc c ((jl ((ρ 3 : Int) - 2147483648) <<< ((jn 32).toInt64 &&& 63)) ||| (jl ((ρ 4 : Int) - 2147483648) &&& jl 4294967295)).toInt (jl (y : Nat)).toInt) e = true := by
  have hk := hs.rk
  generalize ((jl ((ρ 3 : Int) - 2147483648) <<< ((jn 32).toInt64 &&& 63)) ||| (jl ((ρ 4 : Int) - 2147483648) &&& jl 4294967295)).toInt = z at hk ⊢
  obtain ⟨r1, r2, r3, r4, r5, r6⟩ := hk
  rcases mq_if_or h with ⟨hy, h⟩ | ⟨-, h⟩
  · have hy := Nat.beq_eq.mp hy
    subst hy
    rw [show (jl ((0 : Nat) : Int)).toInt = 0 from rfl]
    exact mq_cs_of _ h hs z r3 r4
  · rcases mq_if_or h with ⟨hy, h⟩ | ⟨-, h⟩
    · have hy : y = 999999999999999999 := Nat.beq_eq.mp hy
      subst hy
      rw [show (jl ((999999999999999999 : Nat) : Int)).toInt = 999999999999999999 by decide]
      exact mq_cs_of _ h hs z r5 r6
    · obtain ⟨hy, h⟩ := mq_cond_of h
      have hy : y = 17446744073709551617 := Nat.beq_eq.mp hy
      subst hy
      rw [show (jl ((17446744073709551617 : Nat) : Int)).toInt = -999999999999999999 by decide]
      exact mq_cs_of _ h hs z r1 r2
theorem mq_cJ_of {ρ : Nat → Nat} {env : mq_V} {c : ClassFile.Cond} {wx wy : mq_W} {k : Bool → mq_V → Bool} (h : mq_cJ c wx wy env k = true) (hs : mq_Sat ρ env) : ∃ e x y, mq_val ρ wx = .long x ∧ mq_val ρ wy = .long y ∧ mq_Sat ρ e ∧ k (mj_cnd c (lg_cmp x y) 0) e = true := by
  have sy : ∀ i, (jl ((ρ i : Int) - 2147483648)).toInt = (ρ i : Int) - 2147483648 := fun i => by
    have := hs.bd i
    rw [jl_toInt ⟨by omega, by omega⟩]
  unfold mq_cJ at h
  split at h
  · rename_i x
    split at h
    · rename_i y
      refine ⟨env, _, _, rfl, rfl, hs, ?_⟩
      rw [mq_cndL, mq_jl_toInt, mq_jl_toInt, mq_jc_add, ← mq_cmp_eq]
      exact h
    · rename_i i
      obtain ⟨e, h1, h2⟩ := mq_cs_of ((mq_o64 x : Nat) - 9223372036854775808 : Int) h hs ((ρ i : Int) - 2147483648) (by
        show ρ i < mq_o64 x - 9223372034707292160 ↔ _
        omega) (by
        show ρ i < mq_o64 x + 1 - 9223372034707292160 ↔ _
        omega)
      refine ⟨e, _, _, rfl, rfl, h1, ?_⟩
      rw [mq_cndL, mq_jl_toInt, sy, ← mq_jc_sw]
      exact h2
    · obtain ⟨e, h1, h2⟩ := mq_cQ_of h hs
      refine ⟨e, _, _, rfl, rfl, h1, ?_⟩
      rw [mq_cndL, ← mq_jc_sw]
      exact h2
    · cases h
  · split at h
    · rename_i y
      obtain ⟨e, h1, h2⟩ := mq_cQ_of h hs
      refine ⟨e, _, _, rfl, rfl, h1, ?_⟩
      rw [mq_cndL]
      exact h2
    · cases h
  · rename_i i
    split at h
    · rename_i y
      obtain ⟨e, h1, h2⟩ := mq_cs_of ((mq_o64 y : Nat) - 9223372036854775808 : Int) h hs ((ρ i : Int) - 2147483648) (by
        show ρ i < mq_o64 y - 9223372034707292160 ↔ _
        omega) (by
        show ρ i < mq_o64 y + 1 - 9223372034707292160 ↔ _
        omega)
      refine ⟨e, _, _, rfl, rfl, h1, ?_⟩
      rw [mq_cndL, mq_jl_toInt, sy]
      exact h2
    · rename_i j
      obtain ⟨e, h1, h2⟩ := mq_fork_of (env := env) (i := i) (k := fun o e => mq_cs (mq_sw c) e j o (Nat.add o (nat_lit 1)) k) h hs
      obtain ⟨e', h3, h4⟩ := mq_cs_of ((ρ i : Int) - 2147483648) h2 h1 ((ρ j : Int) - 2147483648) (by omega) (by
        show ρ j < ρ i + 1 ↔ _
        omega)
      refine ⟨e', _, _, rfl, rfl, h3, ?_⟩
      rw [mq_cndL, sy, sy, ← mq_jc_sw]
      exact h4
    · cases h
  · cases h
