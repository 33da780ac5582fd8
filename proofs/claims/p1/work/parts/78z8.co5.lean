/-! The class's tellQuotient, at once. -/
/-- a whole number as it is known -/
def mq_zn (z : Int) : mq_N := Sum.inl (z.toNat, (-z).toNat)
theorem mq_zn_ok {ρ : Nat → Nat} (z : Int) : mq_nv ρ (mq_zn z) = z ∧ mq_nf (mq_zn z) ∧ mq_jk (mq_zn z) = false := by
  refine ⟨?_, ?_, rfl⟩
  · show ((z.toNat : Nat) : Int) - (((-z).toNat : Nat) : Int) = z
    omega
  · show z.toNat = 0 ∨ (-z).toNat = 0
    omega
theorem jnl_b9 {x : Nat} (h : x < 1000000000 ^ 9) : jnl x ≤ 9 := jnl_of h
theorem jnl_jfa {x y : Nat} (h : x < 1000000000 ^ 9) : jnl (x * jfa y) ≤ 10 := by
  refine jnl_of (j := 10) ?_
  show x * jfa y < 1000000000 ^ 10
  rw [show (1000000000 : Nat) ^ 10 = 1000000000 ^ 9 * 1000000000 from Nat.pow_succ 1000000000 9]
  exact Nat.lt_of_le_of_lt (Nat.mul_le_mul_left x (jfa_pos y).2) (Nat.mul_lt_mul_of_pos_right h (by decide))
theorem jnl_b3 {x : Nat} (h : x < 9223372036854775808) : jnl x ≤ 3 := jnl_le_lt.mpr (by rw [show jB ^ 3 = 1000000000000000000000000000 from rfl]; omega)
theorem mq_kp {T : mq_Ht} (W : mq_hw T) {x y : Nat} {c : mq_C} (hx : x < 1024) (hy : y < 1024) (hn : y ≠ x) : mq_hg (mq_hset T x c) y = mq_hg T y := by rw [mq_hg_set W _ hx hy, if_neg hn]
theorem mq_ks {T : mq_Ht} (W : mq_hw T) {x : Nat} {c : mq_C} (hx : x < 1024) : mq_hg (mq_hset T x c) x = c := by rw [mq_hg_set W _ hx hx, if_pos rfl]
/-- a cell of which nothing is said any more -/
theorem mq_Hr.none {ρ : Nat → Nat} {n a : Nat} {t : mq_Ht} {h : mj_H} (hr : mq_Hr ρ n t h) (ha : a < 1024) (nl : ∀ x, mq_hg t a ≠ mq_lim x) : mq_Hr ρ n (mq_hset t a none) h := by
  refine ⟨hr.len, hr.le, hr.wl.set ha _, fun y hy => ?_, hr.sl⟩
  rw [mq_hg_set hr.wl _ ha hy]
  by_cases hya : y = a
  · rw [if_pos hya]; exact Or.inl rfl
  · rw [if_neg hya]
    rcases hr.cell y hy with h2 | ⟨ho, hc⟩
    · exact Or.inl h2
    · exact Or.inr ⟨mq_ow_set hr.wl ha hy ho nl, hc⟩

def mq_D6 (tt tb one two sm dv : Nat) : Prop := (tt < 1024 ∧ tb < 1024 ∧ one < 1024 ∧ two < 1024 ∧ sm < 1024 ∧ dv < 1024) ∧ (tt ≠ tb ∧ tt ≠ one ∧ tt ≠ two ∧ tt ≠ sm ∧ tt ≠ dv ∧ tb ≠ one ∧ tb ≠ two ∧ tb ≠ sm ∧ tb ≠ dv ∧ one ≠ two ∧ one ≠ sm ∧ one ≠ dv ∧ two ≠ sm ∧ two ≠ dv ∧ sm ≠ dv)
/-- but for six cells all is as it is known -/
def mq_J6 (tt tb one two sm dv b1 b2 b3 b4 b5 b6 : Nat) (t T : mq_Ht) (u w : mq_N) : Prop := mq_hw t ∧ mq_hw T ∧ (∀ y, y < 1024 → y ≠ tt → y ≠ tb → y ≠ one → y ≠ two → y ≠ sm → y ≠ dv → mq_hg T y = mq_hg t y) ∧ mq_hg T tt = mq_wide b1 10 u ∧ mq_hg T tb = mq_wide b2 10 w ∧ (∃ x, mq_hg T one = mq_wide b3 240 x) ∧ (∃ x, mq_hg T two = mq_wide b4 240 x) ∧ (∃ x, mq_hg T sm = mq_wide b5 40 x) ∧ (∃ x, mq_hg T dv = mq_dvd b6 60 x)
section MI6
variable {ρ : Nat → Nat} {n tt tb one two sm dv b1 b2 b3 b4 b5 b6 a dk : Nat} {t T : mq_Ht} {h : mj_H} {u w x : mq_N} {fa fk : List mq_W}
theorem mq_J6.c0 (J : mq_J6 tt tb one two sm dv b1 b2 b3 b4 b5 b6 t T u w) (E : mq_D6 tt tb one two sm dv) : mq_J6 tt tb one two sm dv b1 b2 b3 b4 b5 b6 t (mq_hset T tt (mq_wide b1 10 x)) x w := by
  obtain ⟨⟨l0, l1, l2, l3, l4, l5⟩, e01, e02, e03, e04, e05, e12, e13, e14, e15, e23, e24, e25, e34, e35, e45⟩ := E
  obtain ⟨W, WT, F, C0, C1, C2, C3, C4, C5⟩ := J
  exact ⟨W, WT.set l0 _, fun y hy m0 m1 m2 m3 m4 m5 => (mq_kp WT l0 hy m0).trans (F y hy m0 m1 m2 m3 m4 m5), mq_ks WT l0, (mq_kp WT l0 l1 (Ne.symm e01)).trans C1, ⟨C2.choose, (mq_kp WT l0 l2 (Ne.symm e02)).trans C2.choose_spec⟩, ⟨C3.choose, (mq_kp WT l0 l3 (Ne.symm e03)).trans C3.choose_spec⟩, ⟨C4.choose, (mq_kp WT l0 l4 (Ne.symm e04)).trans C4.choose_spec⟩, ⟨C5.choose, (mq_kp WT l0 l5 (Ne.symm e05)).trans C5.choose_spec⟩⟩
theorem mq_J6.c1 (J : mq_J6 tt tb one two sm dv b1 b2 b3 b4 b5 b6 t T u w) (E : mq_D6 tt tb one two sm dv) : mq_J6 tt tb one two sm dv b1 b2 b3 b4 b5 b6 t (mq_hset T tb (mq_wide b2 10 x)) u x := by
  obtain ⟨⟨l0, l1, l2, l3, l4, l5⟩, e01, e02, e03, e04, e05, e12, e13, e14, e15, e23, e24, e25, e34, e35, e45⟩ := E
  obtain ⟨W, WT, F, C0, C1, C2, C3, C4, C5⟩ := J
  exact ⟨W, WT.set l1 _, fun y hy m0 m1 m2 m3 m4 m5 => (mq_kp WT l1 hy m1).trans (F y hy m0 m1 m2 m3 m4 m5), (mq_kp WT l1 l0 e01).trans C0, mq_ks WT l1, ⟨C2.choose, (mq_kp WT l1 l2 (Ne.symm e12)).trans C2.choose_spec⟩, ⟨C3.choose, (mq_kp WT l1 l3 (Ne.symm e13)).trans C3.choose_spec⟩, ⟨C4.choose, (mq_kp WT l1 l4 (Ne.symm e14)).trans C4.choose_spec⟩, ⟨C5.choose, (mq_kp WT l1 l5 (Ne.symm e15)).trans C5.choose_spec⟩⟩
theorem mq_J6.c2 (J : mq_J6 tt tb one two sm dv b1 b2 b3 b4 b5 b6 t T u w) (E : mq_D6 tt tb one two sm dv) : mq_J6 tt tb one two sm dv b1 b2 b3 b4 b5 b6 t (mq_hset T one (mq_wide b3 240 x)) u w := by
  obtain ⟨⟨l0, l1, l2, l3, l4, l5⟩, e01, e02, e03, e04, e05, e12, e13, e14, e15, e23, e24, e25, e34, e35, e45⟩ := E
  obtain ⟨W, WT, F, C0, C1, C2, C3, C4, C5⟩ := J
  exact ⟨W, WT.set l2 _, fun y hy m0 m1 m2 m3 m4 m5 => (mq_kp WT l2 hy m2).trans (F y hy m0 m1 m2 m3 m4 m5), (mq_kp WT l2 l0 e02).trans C0, (mq_kp WT l2 l1 e12).trans C1, ⟨x, mq_ks WT l2⟩, ⟨C3.choose, (mq_kp WT l2 l3 (Ne.symm e23)).trans C3.choose_spec⟩, ⟨C4.choose, (mq_kp WT l2 l4 (Ne.symm e24)).trans C4.choose_spec⟩, ⟨C5.choose, (mq_kp WT l2 l5 (Ne.symm e25)).trans C5.choose_spec⟩⟩
theorem mq_J6.c3 (J : mq_J6 tt tb one two sm dv b1 b2 b3 b4 b5 b6 t T u w) (E : mq_D6 tt tb one two sm dv) : mq_J6 tt tb one two sm dv b1 b2 b3 b4 b5 b6 t (mq_hset T two (mq_wide b4 240 x)) u w := by
  obtain ⟨⟨l0, l1, l2, l3, l4, l5⟩, e01, e02, e03, e04, e05, e12, e13, e14, e15, e23, e24, e25, e34, e35, e45⟩ := E
  obtain ⟨W, WT, F, C0, C1, C2, C3, C4, C5⟩ := J
  exact ⟨W, WT.set l3 _, fun y hy m0 m1 m2 m3 m4 m5 => (mq_kp WT l3 hy m3).trans (F y hy m0 m1 m2 m3 m4 m5), (mq_kp WT l3 l0 e03).trans C0, (mq_kp WT l3 l1 e13).trans C1, ⟨C2.choose, (mq_kp WT l3 l2 e23).trans C2.choose_spec⟩, ⟨x, mq_ks WT l3⟩, ⟨C4.choose, (mq_kp WT l3 l4 (Ne.symm e34)).trans C4.choose_spec⟩, ⟨C5.choose, (mq_kp WT l3 l5 (Ne.symm e35)).trans C5.choose_spec⟩⟩
theorem mq_J6.c4 (J : mq_J6 tt tb one two sm dv b1 b2 b3 b4 b5 b6 t T u w) (E : mq_D6 tt tb one two sm dv) : mq_J6 tt tb one two sm dv b1 b2 b3 b4 b5 b6 t (mq_hset T sm (mq_wide b5 40 x)) u w := by
  obtain ⟨⟨l0, l1, l2, l3, l4, l5⟩, e01, e02, e03, e04, e05, e12, e13, e14, e15, e23, e24, e25, e34, e35, e45⟩ := E
  obtain ⟨W, WT, F, C0, C1, C2, C3, C4, C5⟩ := J
  exact ⟨W, WT.set l4 _, fun y hy m0 m1 m2 m3 m4 m5 => (mq_kp WT l4 hy m4).trans (F y hy m0 m1 m2 m3 m4 m5), (mq_kp WT l4 l0 e04).trans C0, (mq_kp WT l4 l1 e14).trans C1, ⟨C2.choose, (mq_kp WT l4 l2 e24).trans C2.choose_spec⟩, ⟨C3.choose, (mq_kp WT l4 l3 e34).trans C3.choose_spec⟩, ⟨x, mq_ks WT l4⟩, ⟨C5.choose, (mq_kp WT l4 l5 (Ne.symm e45)).trans C5.choose_spec⟩⟩
theorem mq_J6.c5 (J : mq_J6 tt tb one two sm dv b1 b2 b3 b4 b5 b6 t T u w) (E : mq_D6 tt tb one two sm dv) : mq_J6 tt tb one two sm dv b1 b2 b3 b4 b5 b6 t (mq_hset T dv (mq_dvd b6 60 x)) u w := by
  obtain ⟨⟨l0, l1, l2, l3, l4, l5⟩, e01, e02, e03, e04, e05, e12, e13, e14, e15, e23, e24, e25, e34, e35, e45⟩ := E
  obtain ⟨W, WT, F, C0, C1, C2, C3, C4, C5⟩ := J
  exact ⟨W, WT.set l5 _, fun y hy m0 m1 m2 m3 m4 m5 => (mq_kp WT l5 hy m5).trans (F y hy m0 m1 m2 m3 m4 m5), (mq_kp WT l5 l0 e05).trans C0, (mq_kp WT l5 l1 e15).trans C1, ⟨C2.choose, (mq_kp WT l5 l2 e25).trans C2.choose_spec⟩, ⟨C3.choose, (mq_kp WT l5 l3 e35).trans C3.choose_spec⟩, ⟨C4.choose, (mq_kp WT l5 l4 e45).trans C4.choose_spec⟩, ⟨x, mq_ks WT l5⟩⟩
theorem mq_J6.fin (R0 : mq_Hr ρ n T h) (J : mq_J6 tt tb one two sm dv b1 b2 b3 b4 b5 b6 t T u w) (E : mq_D6 tt tb one two sm dv) : mq_Hr ρ n (mq_hset (mq_hset (mq_hset (mq_hset (mq_hset (mq_hset t tt (mq_wide b1 10 mq_jN)) tb (mq_wide b2 10 mq_jN)) one (mq_wide b3 240 mq_jN)) two (mq_wide b4 240 mq_jN)) sm (mq_wide b5 40 mq_jN)) dv none) h := by
  obtain ⟨⟨l0, l1, l2, l3, l4, l5⟩, e01, e02, e03, e04, e05, e12, e13, e14, e15, e23, e24, e25, e34, e35, e45⟩ := E
  obtain ⟨W, WT, F, C0, C1, ⟨x2, C2⟩, ⟨x3, C3⟩, ⟨x4, C4⟩, ⟨x5, C5⟩⟩ := J
  have R1 := R0.as (v' := mq_jN) l0 C0 (fun q => by cases q) trivial
  have R2 := R1.as (v' := mq_jN) l1 ((mq_kp R0.wl l0 l1 (Ne.symm e01)).trans C1) (fun q => by cases q) trivial
  have R3 := R2.as (v' := mq_jN) l2 ((mq_kp R1.wl l1 l2 (Ne.symm e12)).trans ((mq_kp R0.wl l0 l2 (Ne.symm e02)).trans C2)) (fun q => by cases q) trivial
  have R4 := R3.as (v' := mq_jN) l3 ((mq_kp R2.wl l2 l3 (Ne.symm e23)).trans ((mq_kp R1.wl l1 l3 (Ne.symm e13)).trans ((mq_kp R0.wl l0 l3 (Ne.symm e03)).trans C3))) (fun q => by cases q) trivial
  have R5 := R4.as (v' := mq_jN) l4 ((mq_kp R3.wl l3 l4 (Ne.symm e34)).trans ((mq_kp R2.wl l2 l4 (Ne.symm e24)).trans ((mq_kp R1.wl l1 l4 (Ne.symm e14)).trans ((mq_kp R0.wl l0 l4 (Ne.symm e04)).trans C4)))) (fun q => by cases q) trivial
  have V5 : mq_hg (mq_hset (mq_hset (mq_hset (mq_hset (mq_hset T tt (mq_wide b1 10 mq_jN)) tb (mq_wide b2 10 mq_jN)) one (mq_wide b3 240 mq_jN)) two (mq_wide b4 240 mq_jN)) sm (mq_wide b5 40 mq_jN)) dv = mq_dvd b6 60 x5 := ((mq_kp R4.wl l4 l5 (Ne.symm e45)).trans ((mq_kp R3.wl l3 l5 (Ne.symm e35)).trans ((mq_kp R2.wl l2 l5 (Ne.symm e25)).trans ((mq_kp R1.wl l1 l5 (Ne.symm e15)).trans ((mq_kp R0.wl l0 l5 (Ne.symm e05)).trans C5)))))
  have R6 := R5.none l5 (fun y q => by rw [V5] at q; cases q)
  have W1 := W.set l0 (mq_wide b1 10 mq_jN)
  have W2 := W1.set l1 (mq_wide b2 10 mq_jN)
  have W3 := W2.set l2 (mq_wide b3 240 mq_jN)
  have W4 := W3.set l3 (mq_wide b4 240 mq_jN)
  have W5 := W4.set l4 (mq_wide b5 40 mq_jN)
  refine R6.eqv (W5.set l5 _) (fun y hy => ?_)
  rw [mq_hg_set W5 _ l5 hy, mq_hg_set W4 _ l4 hy, mq_hg_set W3 _ l3 hy, mq_hg_set W2 _ l2 hy, mq_hg_set W1 _ l1 hy, mq_hg_set W _ l0 hy, mq_hg_set R5.wl _ l5 hy, mq_hg_set R4.wl _ l4 hy, mq_hg_set R3.wl _ l3 hy, mq_hg_set R2.wl _ l2 hy, mq_hg_set R1.wl _ l1 hy, mq_hg_set R0.wl _ l0 hy]
  by_cases m5 : y = dv
  · rw [if_pos m5, if_pos m5]
  rw [if_neg m5, if_neg m5]
  by_cases m4 : y = sm
  · rw [if_pos m4, if_pos m4]
  rw [if_neg m4, if_neg m4]
  by_cases m3 : y = two
  · rw [if_pos m3, if_pos m3]
  rw [if_neg m3, if_neg m3]
  by_cases m2 : y = one
  · rw [if_pos m2, if_pos m2]
  rw [if_neg m2, if_neg m2]
  by_cases m1 : y = tb
  · rw [if_pos m1, if_pos m1]
  rw [if_neg m1, if_neg m1]
  by_cases m0 : y = tt
  · rw [if_pos m0, if_pos m0]
  rw [if_neg m0, if_neg m0]
  exact (F y hy m0 m1 m2 m3 m4 m5).symm
/-- the two objects whose cells they are -/
def mq_O6 (ρ : Nat → Nat) (tt tb one two sm dv a dk : Nat) (t : mq_Ht) (fa fk : List mq_W) : Prop := (a < 1024 ∧ dk < 1024) ∧ mq_hg t a = some (.inr (.inl (9, fa))) ∧ mq_hg t dk = some (.inr (.inl (1, fk))) ∧ (11 < fa.length ∧ mq_kn (mq_nth mq_U fa 11) = true ∧ mq_val ρ (mq_nth mq_U fa 11) = .ref tt) ∧ (12 < fa.length ∧ mq_kn (mq_nth mq_U fa 12) = true ∧ mq_val ρ (mq_nth mq_U fa 12) = .ref tb) ∧ (7 < fa.length ∧ mq_kn (mq_nth mq_U fa 7) = true ∧ mq_val ρ (mq_nth mq_U fa 7) = .ref dk) ∧ (4 < fk.length ∧ mq_kn (mq_nth mq_U fk 4) = true ∧ mq_val ρ (mq_nth mq_U fk 4) = .ref one) ∧ (5 < fk.length ∧ mq_kn (mq_nth mq_U fk 5) = true ∧ mq_val ρ (mq_nth mq_U fk 5) = .ref two) ∧ (6 < fk.length ∧ mq_kn (mq_nth mq_U fk 6) = true ∧ mq_val ρ (mq_nth mq_U fk 6) = .ref sm) ∧ (7 < fk.length ∧ mq_kn (mq_nth mq_U fk 7) = true ∧ mq_val ρ (mq_nth mq_U fk 7) = .ref dv) ∧ (a ≠ tt ∧ a ≠ tb ∧ a ≠ one ∧ a ≠ two ∧ a ≠ sm ∧ a ≠ dv) ∧ (dk ≠ tt ∧ dk ≠ tb ∧ dk ≠ one ∧ dk ≠ two ∧ dk ≠ sm ∧ dk ≠ dv)
theorem mq_J6.see (R : mq_Hr ρ n T h) (J : mq_J6 tt tb one two sm dv b1 b2 b3 b4 b5 b6 t T u w) (E : mq_D6 tt tb one two sm dv) (O : mq_O6 ρ tt tb one two sm dv a dk t fa fk) : ∃ fa' fk', h[a]? = some (.inr (9, fa')) ∧ fa'[11]? = some (.ref tt) ∧ fa'[12]? = some (.ref tb) ∧ fa'[7]? = some (.ref dk) ∧ h[dk]? = some (.inr (1, fk')) ∧ fk'[4]? = some (.ref one) ∧ fk'[5]? = some (.ref two) ∧ fk'[6]? = some (.ref sm) ∧ fk'[7]? = some (.ref dv) ∧ (∃ x, h[tt]? = some (.inr (8, x))) ∧ (∃ x, h[tb]? = some (.inr (8, x))) ∧ (∃ x, h[one]? = some (.inr (8, x))) ∧ (∃ x, h[two]? = some (.inr (8, x))) ∧ (∃ x, h[sm]? = some (.inr (8, x))) ∧ (∃ x, h[dv]? = some (.inr (2, x))) := by
  obtain ⟨⟨l0, l1, l2, l3, l4, l5⟩, -⟩ := E
  obtain ⟨W, WT, F, C0, C1, ⟨x2, C2⟩, ⟨x3, C3⟩, ⟨x4, C4⟩, ⟨x5, C5⟩⟩ := J
  obtain ⟨⟨ha, hd⟩, A, K, f11, f12, f7, g4, g5, g6, g7, ⟨p0, p1, p2, p3, p4, p5⟩, ⟨q0, q1, q2, q3, q4, q5⟩⟩ := O
  obtain ⟨fa', hA, fA⟩ := R.obj ha ((F a ha p0 p1 p2 p3 p4 p5).trans A)
  obtain ⟨fk', hK, fK⟩ := R.obj hd ((F dk hd q0 q1 q2 q3 q4 q5).trans K)
  obtain ⟨_, _, -, o0, -⟩ := R.wd l0 C0
  obtain ⟨_, _, -, o1, -⟩ := R.wd l1 C1
  obtain ⟨_, _, -, o2, -⟩ := R.wd l2 C2
  obtain ⟨_, _, -, o3, -⟩ := R.wd l3 C3
  obtain ⟨_, _, -, o4, -⟩ := R.wd l4 C4
  obtain ⟨_, o5, -⟩ := R.dd l5 C5
  exact ⟨fa', fk', hA, (fA 11 f11.1 f11.2.1).trans (congrArg some f11.2.2), (fA 12 f12.1 f12.2.1).trans (congrArg some f12.2.2), (fA 7 f7.1 f7.2.1).trans (congrArg some f7.2.2), hK, (fK 4 g4.1 g4.2.1).trans (congrArg some g4.2.2), (fK 5 g5.1 g5.2.1).trans (congrArg some g5.2.2), (fK 6 g6.1 g6.2.1).trans (congrArg some g6.2.2), (fK 7 g7.1 g7.2.1).trans (congrArg some g7.2.2), ⟨_, o0⟩, ⟨_, o1⟩, ⟨_, o2⟩, ⟨_, o3⟩, ⟨_, o4⟩, ⟨_, o5⟩⟩
theorem jc_common {D : Nat} {f : Int} (R0 : mq_Hr ρ n T h) (J0 : mq_J6 tt tb one two sm dv b1 b2 b3 b4 b5 b6 t T u w) (E : mq_D6 tt tb one two sm dv) (O : mq_O6 ρ tt tb one two sm dv a dk t fa fk) (hju : mq_jk u = false) (hN : (mq_nv ρ u).natAbs < 1000000000 ^ 9) (hf : 0 < f) (hf2 : f < 9223372036854775808) : mj_Ok (D + 3) 23 [.ref dk, .ref tt, .long (jl f)] h (fun r => ∃ g T' h', 0 < g ∧ g ∣ mq_nv ρ u ∧ g ∣ f ∧ mq_Hr ρ n T' h' ∧ mq_J6 tt tb one two sm dv b1 b2 b3 b4 b5 b6 t T' u w ∧ r = (.inl (some (.long (jl g))), h')) := by
  refine mj_Ok.of (M := mj_m23) rfl rfl rfl ?_
  obtain ⟨fa', fk', hA, fa11, fa12, fa7, hK, fk4, fk5, fk6, fk7, ⟨y0, o0⟩, ⟨y1, o1⟩, ⟨y2, o2⟩, ⟨y3, o3⟩, ⟨y4, o4⟩, ⟨y5, o5⟩⟩ := mq_J6.see R0 J0 E O
  have E0 := E
  obtain ⟨⟨l0, l1, l2, l3, l4, l5⟩, e01, e02, e03, e04, e05, e12, e13, e14, e15, e23, e24, e25, e34, e35, e45⟩ := E0
  obtain ⟨zf1, zf2, zf3⟩ := mq_zn_ok (ρ := ρ) f
  have jf : jnl (mq_nv ρ (mq_zn f)).natAbs ≤ 3 := by rw [zf1]; exact jnl_b3 (by omega)
  obtain ⟨x4, C4⟩ := J0.2.2.2.2.2.2.2.1
  refine mj_T.pl rfl rfl rfl rfl ?_
  refine mj_T.gfl rfl hK fk6 ?_
  refine mj_T.pl rfl rfl rfl rfl ?_
  refine mj_T.call (ins := .invokevirtual 70) rfl rfl (Nat.le_of_ble_eq_true rfl) (Nat.le_of_ble_eq_true rfl) (by simp [mj_recv, o4]) rfl (mq_k86 (D := D + 1) (x := f) (v := mq_zn f) R0 l4 C4 ⟨by omega, by omega⟩ zf1 zf2 (Nat.le_trans jf (by decide))) (fun v' h' hq' => ?_) (fun i h' hq' => by obtain ⟨_, h, _⟩ := hq'; cases h)
  obtain ⟨_, hq', R1⟩ := hq'
  cases hq'
  have J1 := J0.c4 (x := mq_zn f) E
  have V4 := mq_ks J0.2.1 (c := mq_wide b5 40 (mq_zn f)) l4
  clear hA fa11 fa12 fa7 hK fk4 fk5 fk6 fk7 o0 o1 o2 o3 o4 o5
  obtain ⟨fa', fk', hA, fa11, fa12, fa7, hK, fk4, fk5, fk6, fk7, ⟨y0, o0⟩, ⟨y1, o1⟩, ⟨y2, o2⟩, ⟨y3, o3⟩, ⟨y4, o4⟩, ⟨y5, o5⟩⟩ := mq_J6.see R1 J1 E O
  obtain ⟨x5, C5⟩ := J1.2.2.2.2.2.2.2.2
  refine mj_T.pl rfl rfl rfl rfl ?_
  refine mj_T.gfl rfl hK fk7 ?_
  refine mj_T.pl rfl rfl rfl rfl ?_
  refine mj_T.gfl rfl hK fk6 ?_
  refine mj_T.call (ins := .invokevirtual 115) rfl rfl (Nat.le_of_ble_eq_true rfl) (Nat.le_of_ble_eq_true rfl) (by simp [mj_recv, o5]) rfl (mq_k30 (D := D + 1) R1 l5 l4 C5 V4 zf3 (Nat.le_trans jf (by decide))) (fun v' h' hq' => ?_) (fun i h' hq' => by obtain ⟨_, h, _⟩ := hq'; cases h)
  obtain ⟨_, hq', R2⟩ := hq'
  cases hq'
  have J2 := J1.c5 (x := mq_zn f) E
  have V5 := mq_ks J1.2.1 (c := mq_dvd b6 60 (mq_zn f)) l5
  clear hA fa11 fa12 fa7 hK fk4 fk5 fk6 fk7 o0 o1 o2 o3 o4 o5
  obtain ⟨fa', fk', hA, fa11, fa12, fa7, hK, fk4, fk5, fk6, fk7, ⟨y0, o0⟩, ⟨y1, o1⟩, ⟨y2, o2⟩, ⟨y3, o3⟩, ⟨y4, o4⟩, ⟨y5, o5⟩⟩ := mq_J6.see R2 J2 E O
  obtain ⟨x3, C3⟩ := J2.2.2.2.2.2.2.1
  refine mj_T.pl rfl rfl rfl rfl ?_
  refine mj_T.gfl rfl hK fk5 ?_
  refine mj_T.pl rfl rfl rfl rfl ?_
  refine mj_T.call (ins := .invokevirtual 104) rfl rfl (Nat.le_of_ble_eq_true rfl) (Nat.le_of_ble_eq_true rfl) (by simp [mj_recv, o3]) rfl (mq_k87 (D := D + 1) R2 l3 l0 (Ne.symm e03) C3 J2.2.2.2.1 hju (Nat.le_trans (jnl_b9 hN) (by decide))) (fun v' h' hq' => ?_) (fun i h' hq' => by obtain ⟨_, h, _⟩ := hq'; cases h)
  obtain ⟨_, hq', R3⟩ := hq'
  cases hq'
  have J3 := J2.c3 (x := u) E
  have V3 := mq_ks J2.2.1 (c := mq_wide b4 240 u) l3
  have V5 := (mq_kp J2.2.1 (c := mq_wide b4 240 u) l3 l5 (Ne.symm e35)).trans V5
  clear hA fa11 fa12 fa7 hK fk4 fk5 fk6 fk7 o0 o1 o2 o3 o4 o5
  obtain ⟨fa', fk', hA, fa11, fa12, fa7, hK, fk4, fk5, fk6, fk7, ⟨y0, o0⟩, ⟨y1, o1⟩, ⟨y2, o2⟩, ⟨y3, o3⟩, ⟨y4, o4⟩, ⟨y5, o5⟩⟩ := mq_J6.see R3 J3 E O
  obtain ⟨x2, C2⟩ := J3.2.2.2.2.2.1
  obtain ⟨rz1, rz2, rz3⟩ := mq_zn_ok (ρ := ρ) ((mq_nv ρ u).tmod f)
  obtain ⟨qz1, qz2, qz3⟩ := mq_zn_ok (ρ := ρ) ((mq_nv ρ u).tdiv f)
  have hr9 : ((mq_nv ρ u).tmod f).natAbs < 1000000000 ^ 9 := by rw [Int.natAbs_tmod]; exact Nat.lt_of_le_of_lt (Nat.mod_le _ _) hN
  have hq9 : ((mq_nv ρ u).tdiv f).natAbs < 1000000000 ^ 9 := by rw [Int.natAbs_tdiv]; exact Nat.lt_of_le_of_lt (Nat.div_le_self _ _) hN
  refine mj_T.pl rfl rfl rfl rfl ?_
  refine mj_T.gfl rfl hK fk7 ?_
  refine mj_T.pl rfl rfl rfl rfl ?_
  refine mj_T.gfl rfl hK fk5 ?_
  refine mj_T.pl rfl rfl rfl rfl ?_
  refine mj_T.gfl rfl hK fk4 ?_
  refine mj_T.call (ins := .invokevirtual 118) rfl rfl (Nat.le_of_ble_eq_true rfl) (Nat.le_of_ble_eq_true rfl) (by simp [mj_recv, o5]) rfl (mq_k31 (D := D) (xr := mq_zn ((mq_nv ρ u).tmod f)) (xq := mq_zn ((mq_nv ρ u).tdiv f)) R3 l5 l3 l2 (Ne.symm e23) V5 V3 hju C2 (Nat.le_trans (jnl_jfa hN) (by decide)) (by rw [rz1, zf1]) rz2 (by rw [rz1]; exact Nat.le_trans (jnl_b9 hr9) (by decide)) (by rw [qz1, zf1]) qz2 (by rw [qz1]; exact Nat.le_trans (jnl_b9 hq9) (by decide))) (fun v' h' hq' => ?_) (fun i h' hq' => by obtain ⟨_, h, _⟩ := hq'; cases h)
  obtain ⟨_, hq', R4⟩ := hq'
  cases hq'
  have J4a := J3.c3 (x := mq_zn ((mq_nv ρ u).tmod f)) E
  have J4 := J4a.c2 (x := mq_zn ((mq_nv ρ u).tdiv f)) E
  have V3 := (mq_kp J4a.2.1 (c := mq_wide b3 240 (mq_zn ((mq_nv ρ u).tdiv f))) l2 l3 (Ne.symm e23)).trans (mq_ks J3.2.1 (c := mq_wide b4 240 (mq_zn ((mq_nv ρ u).tmod f))) l3)
  clear hA fa11 fa12 fa7 hK fk4 fk5 fk6 fk7 o0 o1 o2 o3 o4 o5
  obtain ⟨fa', fk', hA, fa11, fa12, fa7, hK, fk4, fk5, fk6, fk7, ⟨y0, o0⟩, ⟨y1, o1⟩, ⟨y2, o2⟩, ⟨y3, o3⟩, ⟨y4, o4⟩, ⟨y5, o5⟩⟩ := mq_J6.see R4 J4 E O
  refine mj_T.pl rfl rfl rfl rfl ?_
  refine mj_T.gfl rfl hK fk5 ?_
  refine mj_T.call (ins := .invokevirtual 129) rfl rfl (Nat.le_of_ble_eq_true rfl) (Nat.le_of_ble_eq_true rfl) (by simp [mj_recv, o3]) rfl (mq_k100 (D := D + 1) R4 l3 V3 rz3) (fun v' h' hq' => ?_) (fun i h' hq' => by cases hq')
  cases hq'
  rw [rz1]
  refine mj_T.pl rfl rfl rfl rfl ?_
  refine mj_T.call (ins := .invokestatic 133) rfl rfl (Nat.le_of_ble_eq_true rfl) (Nat.le_of_ble_eq_true rfl) rfl rfl (jc_gcd (D := D + 1) (x := (mq_nv ρ u).tmod f) (y := f) ?_ hf hf2) (fun v' h' hq' => ?_) (fun i h' hq' => by obtain ⟨_, _, _, _, h⟩ := hq'; cases h)
  · rw [Int.natAbs_tmod]
    have := Nat.mod_lt (mq_nv ρ u).natAbs (show 0 < f.natAbs by omega)
    omega
  obtain ⟨g, g1, g2, g3, hq'⟩ := hq'
  cases hq'
  refine mj_T.ret rfl rfl rfl ⟨g, _, _, g1, ?_, g3, R4, J4, rfl⟩
  have e := Int.tmod_add_mul_tdiv (mq_nv ρ u) f
  rw [← e]
  exact Int.dvd_add g2 (Int.dvd_trans g3 (Int.dvd_mul_right _ _))
theorem jc_lessen {D : Nat} {f : Int} (R0 : mq_Hr ρ n T h) (J0 : mq_J6 tt tb one two sm dv b1 b2 b3 b4 b5 b6 t T u w) (E : mq_D6 tt tb one two sm dv) (O : mq_O6 ρ tt tb one two sm dv a dk t fa fk) (hju : mq_jk u = false) (hN : (mq_nv ρ u).natAbs < 1000000000 ^ 9) (hf : 0 < f) (hf2 : f < 9223372036854775808) : mj_Ok (D + 3) 25 [.ref dk, .ref tt, .long (jl f)] h (fun r => ∃ T' h', mq_Hr ρ n T' h' ∧ mq_J6 tt tb one two sm dv b1 b2 b3 b4 b5 b6 t T' (mq_zn ((mq_nv ρ u).tdiv f)) w ∧ r = (.inl none, h')) := by
  refine mj_Ok.of (M := mj_m25) rfl rfl rfl ?_
  obtain ⟨fa', fk', hA, fa11, fa12, fa7, hK, fk4, fk5, fk6, fk7, ⟨y0, o0⟩, ⟨y1, o1⟩, ⟨y2, o2⟩, ⟨y3, o3⟩, ⟨y4, o4⟩, ⟨y5, o5⟩⟩ := mq_J6.see R0 J0 E O
  have E0 := E
  obtain ⟨⟨l0, l1, l2, l3, l4, l5⟩, e01, e02, e03, e04, e05, e12, e13, e14, e15, e23, e24, e25, e34, e35, e45⟩ := E0
  obtain ⟨zf1, zf2, zf3⟩ := mq_zn_ok (ρ := ρ) f
  have jf : jnl (mq_nv ρ (mq_zn f)).natAbs ≤ 3 := by rw [zf1]; exact jnl_b3 (by omega)
  obtain ⟨x4, C4⟩ := J0.2.2.2.2.2.2.2.1
  refine mj_T.pl rfl rfl rfl rfl ?_
  refine mj_T.gfl rfl hK fk6 ?_
  refine mj_T.pl rfl rfl rfl rfl ?_
  refine mj_T.call (ins := .invokevirtual 70) rfl rfl (Nat.le_of_ble_eq_true rfl) (Nat.le_of_ble_eq_true rfl) (by simp [mj_recv, o4]) rfl (mq_k86 (D := D + 1) (x := f) (v := mq_zn f) R0 l4 C4 ⟨by omega, by omega⟩ zf1 zf2 (Nat.le_trans jf (by decide))) (fun v' h' hq' => ?_) (fun i h' hq' => by obtain ⟨_, h, _⟩ := hq'; cases h)
  obtain ⟨_, hq', R1⟩ := hq'
  cases hq'
  have J1 := J0.c4 (x := mq_zn f) E
  have V4 := mq_ks J0.2.1 (c := mq_wide b5 40 (mq_zn f)) l4
  clear hA fa11 fa12 fa7 hK fk4 fk5 fk6 fk7 o0 o1 o2 o3 o4 o5
  obtain ⟨fa', fk', hA, fa11, fa12, fa7, hK, fk4, fk5, fk6, fk7, ⟨y0, o0⟩, ⟨y1, o1⟩, ⟨y2, o2⟩, ⟨y3, o3⟩, ⟨y4, o4⟩, ⟨y5, o5⟩⟩ := mq_J6.see R1 J1 E O
  obtain ⟨x5, C5⟩ := J1.2.2.2.2.2.2.2.2
  refine mj_T.pl rfl rfl rfl rfl ?_
  refine mj_T.gfl rfl hK fk7 ?_
  refine mj_T.pl rfl rfl rfl rfl ?_
  refine mj_T.gfl rfl hK fk6 ?_
  refine mj_T.call (ins := .invokevirtual 115) rfl rfl (Nat.le_of_ble_eq_true rfl) (Nat.le_of_ble_eq_true rfl) (by simp [mj_recv, o5]) rfl (mq_k30 (D := D + 1) R1 l5 l4 C5 V4 zf3 (Nat.le_trans jf (by decide))) (fun v' h' hq' => ?_) (fun i h' hq' => by obtain ⟨_, h, _⟩ := hq'; cases h)
  obtain ⟨_, hq', R2⟩ := hq'
  cases hq'
  have J2 := J1.c5 (x := mq_zn f) E
  have V5 := mq_ks J1.2.1 (c := mq_dvd b6 60 (mq_zn f)) l5
  clear hA fa11 fa12 fa7 hK fk4 fk5 fk6 fk7 o0 o1 o2 o3 o4 o5
  obtain ⟨fa', fk', hA, fa11, fa12, fa7, hK, fk4, fk5, fk6, fk7, ⟨y0, o0⟩, ⟨y1, o1⟩, ⟨y2, o2⟩, ⟨y3, o3⟩, ⟨y4, o4⟩, ⟨y5, o5⟩⟩ := mq_J6.see R2 J2 E O
  obtain ⟨rz1, rz2, rz3⟩ := mq_zn_ok (ρ := ρ) ((mq_nv ρ u).tmod f)
  obtain ⟨qz1, qz2, qz3⟩ := mq_zn_ok (ρ := ρ) ((mq_nv ρ u).tdiv f)
  have hr9 : ((mq_nv ρ u).tmod f).natAbs < 1000000000 ^ 9 := by rw [Int.natAbs_tmod]; exact Nat.lt_of_le_of_lt (Nat.mod_le _ _) hN
  have hq9 : ((mq_nv ρ u).tdiv f).natAbs < 1000000000 ^ 9 := by rw [Int.natAbs_tdiv]; exact Nat.lt_of_le_of_lt (Nat.div_le_self _ _) hN
  obtain ⟨x2, C2⟩ := J2.2.2.2.2.2.1
  refine mj_T.pl rfl rfl rfl rfl ?_
  refine mj_T.gfl rfl hK fk7 ?_
  refine mj_T.pl rfl rfl rfl rfl ?_
  refine mj_T.pl rfl rfl rfl rfl ?_
  refine mj_T.gfl rfl hK fk4 ?_
  refine mj_T.call (ins := .invokevirtual 118) rfl rfl (Nat.le_of_ble_eq_true rfl) (Nat.le_of_ble_eq_true rfl) (by simp [mj_recv, o5]) rfl (mq_k31 (D := D) (xr := mq_zn ((mq_nv ρ u).tmod f)) (xq := mq_zn ((mq_nv ρ u).tdiv f)) R2 l5 l0 l2 e02 V5 J2.2.2.2.1 hju C2 (jnl_jfa hN) (by rw [rz1, zf1]) rz2 (by rw [rz1]; exact Nat.le_trans (jnl_b9 hr9) (by decide)) (by rw [qz1, zf1]) qz2 (by rw [qz1]; exact Nat.le_trans (jnl_b9 hq9) (by decide))) (fun v' h' hq' => ?_) (fun i h' hq' => by obtain ⟨_, h, _⟩ := hq'; cases h)
  obtain ⟨_, hq', R4⟩ := hq'
  cases hq'
  have J4a := J2.c0 (x := mq_zn ((mq_nv ρ u).tmod f)) E
  have J4 := J4a.c2 (x := mq_zn ((mq_nv ρ u).tdiv f)) E
  have V2 := mq_ks J4a.2.1 (c := mq_wide b3 240 (mq_zn ((mq_nv ρ u).tdiv f))) l2
  clear hA fa11 fa12 fa7 hK fk4 fk5 fk6 fk7 o0 o1 o2 o3 o4 o5
  obtain ⟨fa', fk', hA, fa11, fa12, fa7, hK, fk4, fk5, fk6, fk7, ⟨y0, o0⟩, ⟨y1, o1⟩, ⟨y2, o2⟩, ⟨y3, o3⟩, ⟨y4, o4⟩, ⟨y5, o5⟩⟩ := mq_J6.see R4 J4 E O
  refine mj_T.pl rfl rfl rfl rfl ?_
  refine mj_T.pl rfl rfl rfl rfl ?_
  refine mj_T.gfl rfl hK fk4 ?_
  refine mj_T.call (ins := .invokevirtual 104) rfl rfl (Nat.le_of_ble_eq_true rfl) (Nat.le_of_ble_eq_true rfl) (by simp [mj_recv, o0]) rfl (mq_k87 (D := D + 1) R4 l0 l2 e02 J4.2.2.2.1 V2 qz3 (by rw [qz1]; exact Nat.le_trans (jnl_b9 hq9) (by decide))) (fun v' h' hq' => ?_) (fun i h' hq' => by obtain ⟨_, h, _⟩ := hq'; cases h)
  obtain ⟨_, hq', R5⟩ := hq'
  cases hq'
  exact mj_T.ret rfl rfl rfl ⟨_, _, R5, J4.c0 (x := mq_zn ((mq_nv ρ u).tdiv f)) E, rfl⟩
theorem jc_enlarge {D : Nat} {f : Int} (R0 : mq_Hr ρ n T h) (J0 : mq_J6 tt tb one two sm dv b1 b2 b3 b4 b5 b6 t T u w) (E : mq_D6 tt tb one two sm dv) (O : mq_O6 ρ tt tb one two sm dv a dk t fa fk) (hjw : mq_jk w = false) (hW : jnl (mq_nv ρ w * f).natAbs ≤ 10) (hf : 0 < f) (hf2 : f < 9223372036854775808) : mj_Ok (D + 3) 24 [.ref dk, .ref tb, .long (jl f)] h (fun r => ∃ T' h', mq_Hr ρ n T' h' ∧ mq_J6 tt tb one two sm dv b1 b2 b3 b4 b5 b6 t T' u (mq_zn (mq_nv ρ w * f)) ∧ r = (.inl none, h')) := by
  refine mj_Ok.of (M := mj_m24) rfl rfl rfl ?_
  obtain ⟨fa', fk', hA, fa11, fa12, fa7, hK, fk4, fk5, fk6, fk7, ⟨y0, o0⟩, ⟨y1, o1⟩, ⟨y2, o2⟩, ⟨y3, o3⟩, ⟨y4, o4⟩, ⟨y5, o5⟩⟩ := mq_J6.see R0 J0 E O
  have E0 := E
  obtain ⟨⟨l0, l1, l2, l3, l4, l5⟩, e01, e02, e03, e04, e05, e12, e13, e14, e15, e23, e24, e25, e34, e35, e45⟩ := E0
  obtain ⟨zf1, zf2, zf3⟩ := mq_zn_ok (ρ := ρ) f
  have jf : jnl (mq_nv ρ (mq_zn f)).natAbs ≤ 3 := by rw [zf1]; exact jnl_b3 (by omega)
  obtain ⟨x4, C4⟩ := J0.2.2.2.2.2.2.2.1
  refine mj_T.pl rfl rfl rfl rfl ?_
  refine mj_T.gfl rfl hK fk6 ?_
  refine mj_T.pl rfl rfl rfl rfl ?_
  refine mj_T.call (ins := .invokevirtual 70) rfl rfl (Nat.le_of_ble_eq_true rfl) (Nat.le_of_ble_eq_true rfl) (by simp [mj_recv, o4]) rfl (mq_k86 (D := D + 1) (x := f) (v := mq_zn f) R0 l4 C4 ⟨by omega, by omega⟩ zf1 zf2 (Nat.le_trans jf (by decide))) (fun v' h' hq' => ?_) (fun i h' hq' => by obtain ⟨_, h, _⟩ := hq'; cases h)
  obtain ⟨_, hq', R1⟩ := hq'
  cases hq'
  have J1 := J0.c4 (x := mq_zn f) E
  have V4 := mq_ks J0.2.1 (c := mq_wide b5 40 (mq_zn f)) l4
  clear hA fa11 fa12 fa7 hK fk4 fk5 fk6 fk7 o0 o1 o2 o3 o4 o5
  obtain ⟨fa', fk', hA, fa11, fa12, fa7, hK, fk4, fk5, fk6, fk7, ⟨y0, o0⟩, ⟨y1, o1⟩, ⟨y2, o2⟩, ⟨y3, o3⟩, ⟨y4, o4⟩, ⟨y5, o5⟩⟩ := mq_J6.see R1 J1 E O
  obtain ⟨wz1, wz2, wz3⟩ := mq_zn_ok (ρ := ρ) (mq_nv ρ w * f)
  obtain ⟨x2, C2⟩ := J1.2.2.2.2.2.1
  refine mj_T.pl rfl rfl rfl rfl ?_
  refine mj_T.gfl rfl hK fk4 ?_
  refine mj_T.pl rfl rfl rfl rfl ?_
  refine mj_T.pl rfl rfl rfl rfl ?_
  refine mj_T.gfl rfl hK fk6 ?_
  refine mj_T.call (ins := .invokevirtual 96) rfl rfl (Nat.le_of_ble_eq_true rfl) (Nat.le_of_ble_eq_true rfl) (by simp [mj_recv, o2]) rfl (mq_k95 (D := D + 1) (z := mq_zn (mq_nv ρ w * f)) R1 l2 l1 l4 e14 (Ne.symm e12) e24 C2 J1.2.2.2.2.1 hjw V4 zf3 (by rw [wz1, zf1]) wz2 (by rw [wz1]; exact Nat.le_trans hW (by decide))) (fun v' h' hq' => ?_) (fun i h' hq' => by obtain ⟨_, h, _⟩ := hq'; cases h)
  obtain ⟨_, hq', R2⟩ := hq'
  cases hq'
  have J2 := J1.c2 (x := mq_zn (mq_nv ρ w * f)) E
  have V2 := mq_ks J1.2.1 (c := mq_wide b3 240 (mq_zn (mq_nv ρ w * f))) l2
  clear hA fa11 fa12 fa7 hK fk4 fk5 fk6 fk7 o0 o1 o2 o3 o4 o5
  obtain ⟨fa', fk', hA, fa11, fa12, fa7, hK, fk4, fk5, fk6, fk7, ⟨y0, o0⟩, ⟨y1, o1⟩, ⟨y2, o2⟩, ⟨y3, o3⟩, ⟨y4, o4⟩, ⟨y5, o5⟩⟩ := mq_J6.see R2 J2 E O
  refine mj_T.pl rfl rfl rfl rfl ?_
  refine mj_T.pl rfl rfl rfl rfl ?_
  refine mj_T.gfl rfl hK fk4 ?_
  refine mj_T.call (ins := .invokevirtual 104) rfl rfl (Nat.le_of_ble_eq_true rfl) (Nat.le_of_ble_eq_true rfl) (by simp [mj_recv, o1]) rfl (mq_k87 (D := D + 1) R2 l1 l2 e12 J2.2.2.2.2.1 V2 wz3 (by rw [wz1]; exact hW)) (fun v' h' hq' => ?_) (fun i h' hq' => by obtain ⟨_, h, _⟩ := hq'; cases h)
  obtain ⟨_, hq', R3⟩ := hq'
  cases hq'
  exact mj_T.ret rfl rfl rfl ⟨_, _, R3, J2.c1 (x := mq_zn (mq_nv ρ w * f)) E, rfl⟩
end MI6
