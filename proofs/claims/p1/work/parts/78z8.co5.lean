/-! The class's tellQuotient, at once. -/
/-- a whole number as it is known -/
def mq_zn (z : Int) : mq_N := Sum.inl (z.toNat, (-z).toNat)
theorem mq_zn_ok {ρ : Nat → Nat} (z : Int) : mq_nv ρ (mq_zn z) = z ∧ mq_nf (mq_zn z) ∧ mq_jk (mq_zn z) = false := by
  refine ⟨?_, ?_, rfl⟩
  · show ((z.toNat : Nat) : Int) - (((-z).toNat : Nat) : Int) = z
    omega
  · show z.toNat = 0 ∨ (-z).toNat = 0
    omega
theorem jnl_b9 {x : Nat} (h : x < 1000000000 ^ 9) : jnl x ≤ 9 := jnl_of h
theorem jnl_jfa {x y : Nat} (h : x < 1000000000 ^ 9) : jnl (x * jfa y) ≤ 10 := by
  refine jnl_of (j := 10) ?_
  show x * jfa y < 1000000000 ^ 10
  rw [show (1000000000 : Nat) ^ 10 = 1000000000 ^ 9 * 1000000000 from Nat.pow_succ 1000000000 9]
  exact Nat.lt_of_le_of_lt (Nat.mul_le_mul_left x (jfa_pos y).2) (Nat.mul_lt_mul_of_pos_right h (by decide))
theorem jnl_b3 {x : Nat} (h : x < 9223372036854775808) : jnl x ≤ 3 := jnl_le_lt.mpr (by rw [show jB ^ 3 = 1000000000000000000000000000 from rfl]; omega)
theorem mq_kp {T : mq_Ht} (W : mq_hw T) {x y : Nat} {c : mq_C} (hx : x < 1024) (hy : y < 1024) (hn : y ≠ x) : mq_hg (mq_hset T x c) y = mq_hg T y := by rw [mq_hg_set W _ hx hy, if_neg hn]
theorem mq_ks {T : mq_Ht} (W : mq_hw T) {x : Nat} {c : mq_C} (hx : x < 1024) : mq_hg (mq_hset T x c) x = c := by rw [mq_hg_set W _ hx hx, if_pos rfl]
/-- a cell of which nothing is said any more -/
theorem mq_Hr.none {ρ : Nat → Nat} {n a : Nat} {t : mq_Ht} {h : mj_H} (hr : mq_Hr ρ n t h) (ha : a < 1024) (nl : ∀ x, mq_hg t a ≠ mq_lim x) : mq_Hr ρ n (mq_hset t a none) h := by
  refine ⟨hr.len, hr.le, hr.wl.set ha _, fun y hy => ?_, hr.sl⟩
  rw [mq_hg_set hr.wl _ ha hy]
  by_cases hya : y = a
  · rw [if_pos hya]; exact Or.inl rfl
  · rw [if_neg hya]
    rcases hr.cell y hy with h2 | ⟨ho, hc⟩
    · exact Or.inl h2
    · exact Or.inr ⟨mq_ow_set hr.wl ha hy ho nl, hc⟩

def mq_D6 (tt tb one two sm dv : Nat) : Prop := (tt < 1024 ∧ tb < 1024 ∧ one < 1024 ∧ two < 1024 ∧ sm < 1024 ∧ dv < 1024) ∧ (tt ≠ tb ∧ tt ≠ one ∧ tt ≠ two ∧ tt ≠ sm ∧ tt ≠ dv ∧ tb ≠ one ∧ tb ≠ two ∧ tb ≠ sm ∧ tb ≠ dv ∧ one ≠ two ∧ one ≠ sm ∧ one ≠ dv ∧ two ≠ sm ∧ two ≠ dv ∧ sm ≠ dv)
/-- but for six cells all is as it is known -/
def mq_I6 (ρ : Nat → Nat) (n tt tb one two sm dv b1 b2 b3 b4 b5 b6 : Nat) (t T : mq_Ht) (h : mj_H) (u w : mq_N) : Prop := mq_Hr ρ n T h ∧ mq_hw t ∧ (∀ y, y < 1024 → y ≠ tt → y ≠ tb → y ≠ one → y ≠ two → y ≠ sm → y ≠ dv → mq_hg T y = mq_hg t y) ∧ mq_hg T tt = mq_wide b1 10 u ∧ mq_hg T tb = mq_wide b2 10 w ∧ (∃ x, mq_hg T one = mq_wide b3 240 x) ∧ (∃ x, mq_hg T two = mq_wide b4 240 x) ∧ (∃ x, mq_hg T sm = mq_wide b5 40 x) ∧ (∃ x, mq_hg T dv = mq_dvd b6 60 x)
section MI6
variable {ρ : Nat → Nat} {n tt tb one two sm dv b1 b2 b3 b4 b5 b6 : Nat} {t T : mq_Ht} {h h' : mj_H} {u w x : mq_N}
theorem mq_I6.c0 (I : mq_I6 ρ n tt tb one two sm dv b1 b2 b3 b4 b5 b6 t T h u w) (E : mq_D6 tt tb one two sm dv) (R : mq_Hr ρ n (mq_hset T tt (mq_wide b1 10 x)) h') : mq_I6 ρ n tt tb one two sm dv b1 b2 b3 b4 b5 b6 t (mq_hset T tt (mq_wide b1 10 x)) h' x w := by
  obtain ⟨⟨l0, l1, l2, l3, l4, l5⟩, e01, e02, e03, e04, e05, e12, e13, e14, e15, e23, e24, e25, e34, e35, e45⟩ := E
  obtain ⟨R0, W, F, C0, C1, C2, C3, C4, C5⟩ := I
  exact ⟨R, W, fun y hy m0 m1 m2 m3 m4 m5 => (mq_kp R0.wl l0 hy m0).trans (F y hy m0 m1 m2 m3 m4 m5), mq_ks R0.wl l0, (mq_kp R0.wl l0 l1 (Ne.symm e01)).trans C1, ⟨C2.choose, (mq_kp R0.wl l0 l2 (Ne.symm e02)).trans C2.choose_spec⟩, ⟨C3.choose, (mq_kp R0.wl l0 l3 (Ne.symm e03)).trans C3.choose_spec⟩, ⟨C4.choose, (mq_kp R0.wl l0 l4 (Ne.symm e04)).trans C4.choose_spec⟩, ⟨C5.choose, (mq_kp R0.wl l0 l5 (Ne.symm e05)).trans C5.choose_spec⟩⟩
theorem mq_I6.c1 (I : mq_I6 ρ n tt tb one two sm dv b1 b2 b3 b4 b5 b6 t T h u w) (E : mq_D6 tt tb one two sm dv) (R : mq_Hr ρ n (mq_hset T tb (mq_wide b2 10 x)) h') : mq_I6 ρ n tt tb one two sm dv b1 b2 b3 b4 b5 b6 t (mq_hset T tb (mq_wide b2 10 x)) h' u x := by
  obtain ⟨⟨l0, l1, l2, l3, l4, l5⟩, e01, e02, e03, e04, e05, e12, e13, e14, e15, e23, e24, e25, e34, e35, e45⟩ := E
  obtain ⟨R0, W, F, C0, C1, C2, C3, C4, C5⟩ := I
  exact ⟨R, W, fun y hy m0 m1 m2 m3 m4 m5 => (mq_kp R0.wl l1 hy m1).trans (F y hy m0 m1 m2 m3 m4 m5), (mq_kp R0.wl l1 l0 e01).trans C0, mq_ks R0.wl l1, ⟨C2.choose, (mq_kp R0.wl l1 l2 (Ne.symm e12)).trans C2.choose_spec⟩, ⟨C3.choose, (mq_kp R0.wl l1 l3 (Ne.symm e13)).trans C3.choose_spec⟩, ⟨C4.choose, (mq_kp R0.wl l1 l4 (Ne.symm e14)).trans C4.choose_spec⟩, ⟨C5.choose, (mq_kp R0.wl l1 l5 (Ne.symm e15)).trans C5.choose_spec⟩⟩
theorem mq_I6.c2 (I : mq_I6 ρ n tt tb one two sm dv b1 b2 b3 b4 b5 b6 t T h u w) (E : mq_D6 tt tb one two sm dv) (R : mq_Hr ρ n (mq_hset T one (mq_wide b3 240 x)) h') : mq_I6 ρ n tt tb one two sm dv b1 b2 b3 b4 b5 b6 t (mq_hset T one (mq_wide b3 240 x)) h' u w := by
  obtain ⟨⟨l0, l1, l2, l3, l4, l5⟩, e01, e02, e03, e04, e05, e12, e13, e14, e15, e23, e24, e25, e34, e35, e45⟩ := E
  obtain ⟨R0, W, F, C0, C1, C2, C3, C4, C5⟩ := I
  exact ⟨R, W, fun y hy m0 m1 m2 m3 m4 m5 => (mq_kp R0.wl l2 hy m2).trans (F y hy m0 m1 m2 m3 m4 m5), (mq_kp R0.wl l2 l0 e02).trans C0, (mq_kp R0.wl l2 l1 e12).trans C1, ⟨x, mq_ks R0.wl l2⟩, ⟨C3.choose, (mq_kp R0.wl l2 l3 (Ne.symm e23)).trans C3.choose_spec⟩, ⟨C4.choose, (mq_kp R0.wl l2 l4 (Ne.symm e24)).trans C4.choose_spec⟩, ⟨C5.choose, (mq_kp R0.wl l2 l5 (Ne.symm e25)).trans C5.choose_spec⟩⟩
theorem mq_I6.c3 (I : mq_I6 ρ n tt tb one two sm dv b1 b2 b3 b4 b5 b6 t T h u w) (E : mq_D6 tt tb one two sm dv) (R : mq_Hr ρ n (mq_hset T two (mq_wide b4 240 x)) h') : mq_I6 ρ n tt tb one two sm dv b1 b2 b3 b4 b5 b6 t (mq_hset T two (mq_wide b4 240 x)) h' u w := by
  obtain ⟨⟨l0, l1, l2, l3, l4, l5⟩, e01, e02, e03, e04, e05, e12, e13, e14, e15, e23, e24, e25, e34, e35, e45⟩ := E
  obtain ⟨R0, W, F, C0, C1, C2, C3, C4, C5⟩ := I
  exact ⟨R, W, fun y hy m0 m1 m2 m3 m4 m5 => (mq_kp R0.wl l3 hy m3).trans (F y hy m0 m1 m2 m3 m4 m5), (mq_kp R0.wl l3 l0 e03).trans C0, (mq_kp R0.wl l3 l1 e13).trans C1, ⟨C2.choose, (mq_kp R0.wl l3 l2 e23).trans C2.choose_spec⟩, ⟨x, mq_ks R0.wl l3⟩, ⟨C4.choose, (mq_kp R0.wl l3 l4 (Ne.symm e34)).trans C4.choose_spec⟩, ⟨C5.choose, (mq_kp R0.wl l3 l5 (Ne.symm e35)).trans C5.choose_spec⟩⟩
theorem mq_I6.c4 (I : mq_I6 ρ n tt tb one two sm dv b1 b2 b3 b4 b5 b6 t T h u w) (E : mq_D6 tt tb one two sm dv) (R : mq_Hr ρ n (mq_hset T sm (mq_wide b5 40 x)) h') : mq_I6 ρ n tt tb one two sm dv b1 b2 b3 b4 b5 b6 t (mq_hset T sm (mq_wide b5 40 x)) h' u w := by
  obtain ⟨⟨l0, l1, l2, l3, l4, l5⟩, e01, e02, e03, e04, e05, e12, e13, e14, e15, e23, e24, e25, e34, e35, e45⟩ := E
  obtain ⟨R0, W, F, C0, C1, C2, C3, C4, C5⟩ := I
  exact ⟨R, W, fun y hy m0 m1 m2 m3 m4 m5 => (mq_kp R0.wl l4 hy m4).trans (F y hy m0 m1 m2 m3 m4 m5), (mq_kp R0.wl l4 l0 e04).trans C0, (mq_kp R0.wl l4 l1 e14).trans C1, ⟨C2.choose, (mq_kp R0.wl l4 l2 e24).trans C2.choose_spec⟩, ⟨C3.choose, (mq_kp R0.wl l4 l3 e34).trans C3.choose_spec⟩, ⟨x, mq_ks R0.wl l4⟩, ⟨C5.choose, (mq_kp R0.wl l4 l5 (Ne.symm e45)).trans C5.choose_spec⟩⟩
theorem mq_I6.c5 (I : mq_I6 ρ n tt tb one two sm dv b1 b2 b3 b4 b5 b6 t T h u w) (E : mq_D6 tt tb one two sm dv) (R : mq_Hr ρ n (mq_hset T dv (mq_dvd b6 60 x)) h') : mq_I6 ρ n tt tb one two sm dv b1 b2 b3 b4 b5 b6 t (mq_hset T dv (mq_dvd b6 60 x)) h' u w := by
  obtain ⟨⟨l0, l1, l2, l3, l4, l5⟩, e01, e02, e03, e04, e05, e12, e13, e14, e15, e23, e24, e25, e34, e35, e45⟩ := E
  obtain ⟨R0, W, F, C0, C1, C2, C3, C4, C5⟩ := I
  exact ⟨R, W, fun y hy m0 m1 m2 m3 m4 m5 => (mq_kp R0.wl l5 hy m5).trans (F y hy m0 m1 m2 m3 m4 m5), (mq_kp R0.wl l5 l0 e05).trans C0, (mq_kp R0.wl l5 l1 e15).trans C1, ⟨C2.choose, (mq_kp R0.wl l5 l2 e25).trans C2.choose_spec⟩, ⟨C3.choose, (mq_kp R0.wl l5 l3 e35).trans C3.choose_spec⟩, ⟨C4.choose, (mq_kp R0.wl l5 l4 e45).trans C4.choose_spec⟩, ⟨x, mq_ks R0.wl l5⟩⟩
theorem mq_I6.fin (I : mq_I6 ρ n tt tb one two sm dv b1 b2 b3 b4 b5 b6 t T h u w) (E : mq_D6 tt tb one two sm dv) : mq_Hr ρ n (mq_hset (mq_hset (mq_hset (mq_hset (mq_hset (mq_hset t tt (mq_wide b1 10 mq_jN)) tb (mq_wide b2 10 mq_jN)) one (mq_wide b3 240 mq_jN)) two (mq_wide b4 240 mq_jN)) sm (mq_wide b5 40 mq_jN)) dv none) h := by
  obtain ⟨⟨l0, l1, l2, l3, l4, l5⟩, e01, e02, e03, e04, e05, e12, e13, e14, e15, e23, e24, e25, e34, e35, e45⟩ := E
  obtain ⟨R0, W, F, C0, C1, ⟨x2, C2⟩, ⟨x3, C3⟩, ⟨x4, C4⟩, ⟨x5, C5⟩⟩ := I
  have R1 := R0.as (v' := mq_jN) l0 C0 (fun q => by cases q) trivial
  have R2 := R1.as (v' := mq_jN) l1 ((mq_kp R0.wl l0 l1 (Ne.symm e01)).trans C1) (fun q => by cases q) trivial
  have R3 := R2.as (v' := mq_jN) l2 ((mq_kp R1.wl l1 l2 (Ne.symm e12)).trans ((mq_kp R0.wl l0 l2 (Ne.symm e02)).trans C2)) (fun q => by cases q) trivial
  have R4 := R3.as (v' := mq_jN) l3 ((mq_kp R2.wl l2 l3 (Ne.symm e23)).trans ((mq_kp R1.wl l1 l3 (Ne.symm e13)).trans ((mq_kp R0.wl l0 l3 (Ne.symm e03)).trans C3))) (fun q => by cases q) trivial
  have R5 := R4.as (v' := mq_jN) l4 ((mq_kp R3.wl l3 l4 (Ne.symm e34)).trans ((mq_kp R2.wl l2 l4 (Ne.symm e24)).trans ((mq_kp R1.wl l1 l4 (Ne.symm e14)).trans ((mq_kp R0.wl l0 l4 (Ne.symm e04)).trans C4)))) (fun q => by cases q) trivial
  have V5 : mq_hg (mq_hset (mq_hset (mq_hset (mq_hset (mq_hset T tt (mq_wide b1 10 mq_jN)) tb (mq_wide b2 10 mq_jN)) one (mq_wide b3 240 mq_jN)) two (mq_wide b4 240 mq_jN)) sm (mq_wide b5 40 mq_jN)) dv = mq_dvd b6 60 x5 := ((mq_kp R4.wl l4 l5 (Ne.symm e45)).trans ((mq_kp R3.wl l3 l5 (Ne.symm e35)).trans ((mq_kp R2.wl l2 l5 (Ne.symm e25)).trans ((mq_kp R1.wl l1 l5 (Ne.symm e15)).trans ((mq_kp R0.wl l0 l5 (Ne.symm e05)).trans C5)))))
  have R6 := R5.none l5 (fun y q => by rw [V5] at q; cases q)
  have W1 := W.set l0 (mq_wide b1 10 mq_jN)
  have W2 := W1.set l1 (mq_wide b2 10 mq_jN)
  have W3 := W2.set l2 (mq_wide b3 240 mq_jN)
  have W4 := W3.set l3 (mq_wide b4 240 mq_jN)
  have W5 := W4.set l4 (mq_wide b5 40 mq_jN)
  refine R6.eqv (W5.set l5 _) (fun y hy => ?_)
  rw [mq_hg_set W5 _ l5 hy, mq_hg_set W4 _ l4 hy, mq_hg_set W3 _ l3 hy, mq_hg_set W2 _ l2 hy, mq_hg_set W1 _ l1 hy, mq_hg_set W _ l0 hy, mq_hg_set R5.wl _ l5 hy, mq_hg_set R4.wl _ l4 hy, mq_hg_set R3.wl _ l3 hy, mq_hg_set R2.wl _ l2 hy, mq_hg_set R1.wl _ l1 hy, mq_hg_set R0.wl _ l0 hy]
  by_cases m5 : y = dv
  · rw [if_pos m5, if_pos m5]
  rw [if_neg m5, if_neg m5]
  by_cases m4 : y = sm
  · rw [if_pos m4, if_pos m4]
  rw [if_neg m4, if_neg m4]
  by_cases m3 : y = two
  · rw [if_pos m3, if_pos m3]
  rw [if_neg m3, if_neg m3]
  by_cases m2 : y = one
  · rw [if_pos m2, if_pos m2]
  rw [if_neg m2, if_neg m2]
  by_cases m1 : y = tb
  · rw [if_pos m1, if_pos m1]
  rw [if_neg m1, if_neg m1]
  by_cases m0 : y = tt
  · rw [if_pos m0, if_pos m0]
  rw [if_neg m0, if_neg m0]
  exact (F y hy m0 m1 m2 m3 m4 m5).symm
end MI6
