/-! Adding by limbs. -/
def jcy (x y i : Nat) : Nat := (x % jB ^ i + y % jB ^ i) / jB ^ i
theorem jcy_le (x y i : Nat) : jcy x y i ≤ 1 := by
  unfold jcy
  have h := jB_pow i
  have h1 := Nat.mod_lt x h
  have h2 := Nat.mod_lt y h
  have : (x % jB ^ i + y % jB ^ i) / jB ^ i < 2 := by rw [Nat.div_lt_iff_lt_mul h]; omega
  omega
theorem jcy_zero (x y : Nat) : jcy x y 0 = 0 := by simp [jcy, Nat.mod_one]
theorem jcy_div (x y i : Nat) : (x + y) / jB ^ i = x / jB ^ i + y / jB ^ i + jcy x y i := by
  unfold jcy
  have h := jB_pow i
  have e : x + y = (x % jB ^ i + y % jB ^ i) + jB ^ i * (x / jB ^ i + y / jB ^ i) := by
    have h1 := Nat.div_add_mod x (jB ^ i)
    have h2 := Nat.div_add_mod y (jB ^ i)
    rw [Nat.mul_add]
    omega
  conv => lhs; rw [e]
  rw [Nat.add_mul_div_left _ _ h, Nat.add_comm]
theorem jcy_limb (x y i : Nat) : jlb (x + y) i = (jlb x i + jlb y i + jcy x y i) % jB := by
  unfold jlb
  rw [jcy_div, Nat.add_mod, Nat.add_mod (x / jB ^ i), Nat.add_mod (x / jB ^ i % jB + y / jB ^ i % jB)]
theorem jcy_next (x y i : Nat) : jcy x y (i + 1) = (jlb x i + jlb y i + jcy x y i) / jB := by
  unfold jcy
  have h := jB_pow i
  rw [jmod, jmod, Nat.pow_succ, ← Nat.div_div_eq_div_mul]
  congr 1
  rw [show jlb x i * jB ^ i + x % jB ^ i + (jlb y i * jB ^ i + y % jB ^ i) = (x % jB ^ i + y % jB ^ i) + jB ^ i * (jlb x i + jlb y i) by rw [Nat.mul_add, Nat.mul_comm (jB ^ i), Nat.mul_comm (jB ^ i)]; omega]
  rw [Nat.add_mul_div_left _ _ h]
  omega
theorem jcy_grow {x y i : Nat} (h : i < jnl x ∨ i < jnl y ∨ 0 < jcy x y i) : i < jnl (x + y) := by
  rw [jnl_lt, jcy_div]
  rcases h with h | h | h
  · exact Nat.ne_of_gt (Nat.lt_of_lt_of_le (Nat.pos_of_ne_zero (jnl_lt.mp h)) (by rw [Nat.add_assoc]; exact Nat.le_add_right _ _))
  · exact Nat.ne_of_gt (Nat.lt_of_lt_of_le (Nat.pos_of_ne_zero (jnl_lt.mp h)) (by rw [Nat.add_comm (x / _), Nat.add_assoc]; exact Nat.le_add_right _ _))
  · exact Nat.ne_of_gt (Nat.lt_of_lt_of_le h (Nat.le_add_left _ _))
theorem jcy_end {x y i : Nat} (h1 : jnl x ≤ i) (h2 : jnl y ≤ i) (h3 : jcy x y i = 0) : jnl (x + y) ≤ i := by
  rw [jnl_le, jcy_div, jnl_le.mp h1, jnl_le.mp h2, h3]
/-- an array's value at a place, known -/
theorem mj_T.ialv {D pc : Nat} {M : mj_M} {loc : mj_L} {st : List Value} {h : mj_H} {Q : mj_R → Prop} {r1 r2 r3 r4 r5 : Nat} {a n : Nat} {g : Nat → Int32} {i z : Int} (hc : M.2.2.2.2.1 pc = some (.iaload, r1, r2, r3, r4, r5)) (ha : h[a]? = some (.inl (0, n, fun j => .int (g j)))) (hi : jr i) (h0 : 0 ≤ i ∧ i < n) (hv : g i.toNat = jn z) (k : mj_T D M (pc + 1) loc (.int (jn z) :: st) h Q) : mj_T D M pc loc (.int (jn i) :: .ref a :: st) h Q := mj_T.iald hc ha hi h0 (by rw [hv]; exact k)
theorem jw_gather_loop {D n m x y : Nat} {g0 : Int32} {sg : Int} {g q : Nat → Int32} (hn : n < 2147483648) (hm : m < 2147483648) (hcap : jnl (x + y) ≤ n) (hy : jnl y ≤ m) (hg : ∀ j, j < jnl x → g j = jn (jlb x j)) (hq : ∀ j, j < jnl y → q j = jn (jlb y j)) {Q : mj_R → Prop}
    (hend : ∀ (gi : Nat → Int32) (sz : Int), (jnl (x + y) = 0 ∨ sz = jnl (x + y)) → (∀ j, j < jnl (x + y) → gi j = jn (jlb (x + y) j)) → Q (.inl none, [.inr (8, [.ref 1, .int (jn sz), .int g0]), .inl (0, n, fun j => .int (gi j)), .inr (8, [.ref 3, .int (jn (jnl y)), .int (jn sg)]), .inl (0, m, fun j => .int (q j))])) :
    ∀ (d i : Nat) (gi : Nat → Int32) (sz : Int) (l6 : Option Value), i + d = n → i ≤ jnl (x + y) → (i = 0 ∨ sz = i) → (∀ j, j < i → gi j = jn (jlb (x + y) j)) → (∀ j, i ≤ j → gi j = g j) →
      mj_T D mj_m93 24 [some (.ref 0), some (.ref 2), some (.int (jn (jnl x))), some (.int (jn (jnl y))), some (.int (jn (jcy x y i))), some (.int (jn i)), l6] [] [.inr (8, [.ref 1, .int (jn sz), .int g0]), .inl (0, n, fun j => .int (gi j)), .inr (8, [.ref 3, .int (jn (jnl y)), .int (jn sg)]), .inl (0, m, fun j => .int (q j))] Q := by
  intro d
  induction d with
  | zero =>
    intro i gi sz l6 hid hil hsz hg1 hg2
    iterate 3 refine mj_T.pl rfl rfl rfl rfl ?_
    refine mj_T.alen rfl rfl ?_
    refine mj_T.icmp rfl ⟨by omega, by omega⟩ ⟨by omega, by omega⟩ (fun hc31 => ?_) (fun hc31 => ?_)
    · have e : i = jnl (x + y) := by omega
      subst e
      exact mj_T.ret rfl rfl rfl (hend gi sz (by omega) hg1)
    · simp only [jc, decide_eq_false_iff_not] at hc31; omega
  | succ d ih =>
    intro i gi sz l6 hid hil hsz hg1 hg2
    have hcx := jcy_le x y i
    have hxn : jnl x ≤ n := Nat.le_trans (jnl_mono (Nat.le_add_right x y)) hcap
    iterate 3 refine mj_T.pl rfl rfl rfl rfl ?_
    refine mj_T.alen rfl rfl ?_
    refine mj_T.icmp rfl ⟨by omega, by omega⟩ ⟨by omega, by omega⟩ (fun hc31 => ?_) (fun hc31 => ?_)
    · simp only [jc, decide_eq_true_eq] at hc31; omega
    clear hc31
    have key : (i < jnl x ∨ i < jnl y ∨ 0 < jcy x y i) → mj_T D mj_m93 51 [some (.ref 0), some (.ref 2), some (.int (jn (jnl x))), some (.int (jn (jnl y))), some (.int (jn (jcy x y i))), some (.int (jn i)), l6] [] [.inr (8, [.ref 1, .int (jn sz), .int g0]), .inl (0, n, fun j => .int (gi j)), .inr (8, [.ref 3, .int (jn (jnl y)), .int (jn sg)]), .inl (0, m, fun j => .int (q j))] Q := by
      intro hgo
      have hl := jcy_limb x y i
      have hnx := jcy_next x y i
      have hx1 := jlb_lt x i
      have hy1 := jlb_lt y i
      have hnl := jcy_grow hgo
      have t5 : ∀ (z s : Int), s = (jlb x i + jlb y i + jcy x y i : Nat) → z = (jcy x y (i + 1) : Nat) → mj_T D mj_m93 103 [some (.ref 0), some (.ref 2), some (.int (jn (jnl x))), some (.int (jn (jnl y))), some (.int (jn (jcy x y i))), some (.int (jn i)), some (.int (jn s))] [.int (jn z)] [.inr (8, [.ref 1, .int (jn sz), .int g0]), .inl (0, n, fun j => .int (gi j)), .inr (8, [.ref 3, .int (jn (jnl y)), .int (jn sg)]), .inl (0, m, fun j => .int (q j))] Q := by
        intro z s hs hz
        iterate 7 refine mj_T.pl rfl rfl rfl rfl ?_
        refine mj_T.imul (b := 1000000000) rfl ?_
        refine mj_T.isub rfl ?_
        refine mj_T.iast rfl rfl ⟨by omega, by omega⟩ ⟨by omega, by omega⟩ ?_
        iterate 3 refine mj_T.pl rfl rfl rfl rfl ?_
        refine mj_T.iadd (b := 1) rfl ?_
        refine mj_T.pl rfl rfl rfl rfl ?_
        refine mj_T.iinc (a := i) rfl rfl ?_
        refine mj_T.pl rfl rfl rfl rfl ?_
        subst hz
        refine ih (i + 1) (upd gi i (jn (s - (jcy x y (i + 1) : Nat) * 1000000000))) (i + 1) (some (.int (jn s))) (by omega) (by omega) (Or.inr (by omega)) (fun j hj => ?_) (fun j hj => ?_)
        · unfold upd
          split
          · rename_i h
            subst h
            congr 1
            rw [hl, hs, hnx]
            have := Nat.div_add_mod (jlb x j + jlb y j + jcy x y j) 1000000000
            show _ = (((jlb x j + jlb y j + jcy x y j) % 1000000000 : Nat) : Int)
            have e2 : ((jlb x j + jlb y j + jcy x y j) / jB : Nat) = (jlb x j + jlb y j + jcy x y j) / 1000000000 := rfl
            rw [e2]
            omega
          · exact hg1 j (by omega)
        · unfold upd
          rw [if_neg (by omega)]
          exact hg2 j (by omega)
      have t4 : ∀ (z : Int) (s : Int), s = (jlb x i + jcy x y i : Nat) → z = (jlb y i : Nat) → mj_T D mj_m93 88 [some (.ref 0), some (.ref 2), some (.int (jn (jnl x))), some (.int (jn (jnl y))), some (.int (jn (jcy x y i))), some (.int (jn i)), l6] [.int (jn z), .int (jn s)] [.inr (8, [.ref 1, .int (jn sz), .int g0]), .inl (0, n, fun j => .int (gi j)), .inr (8, [.ref 3, .int (jn (jnl y)), .int (jn sg)]), .inl (0, m, fun j => .int (q j))] Q := by
        intro z s hs hz
        refine mj_T.iadd rfl ?_
        iterate 3 refine mj_T.pl rfl rfl rfl rfl ?_
        have e2 : ((jlb x i + jlb y i + jcy x y i) / jB : Nat) = (jlb x i + jlb y i + jcy x y i) / 1000000000 := rfl
        refine mj_T.icmp (b := 1000000000) rfl ⟨by omega, by omega⟩ ⟨by omega, by omega⟩ (fun hc95 => ?_) (fun hc95 => ?_)
        · simp only [jc, decide_eq_true_eq] at hc95
          refine mj_T.pl rfl rfl rfl rfl ?_
          exact t5 0 (s + z) (by omega) (by omega)
        · simp only [jc, decide_eq_false_iff_not] at hc95
          iterate 2 refine mj_T.pl rfl rfl rfl rfl ?_
          exact t5 1 (s + z) (by omega) (by omega)
      have t3 : ∀ (z : Int), z = (jlb x i : Nat) → mj_T D mj_m93 70 [some (.ref 0), some (.ref 2), some (.int (jn (jnl x))), some (.int (jn (jnl y))), some (.int (jn (jcy x y i))), some (.int (jn i)), l6] [.int (jn z), .int (jn (jcy x y i))] [.inr (8, [.ref 1, .int (jn sz), .int g0]), .inl (0, n, fun j => .int (gi j)), .inr (8, [.ref 3, .int (jn (jnl y)), .int (jn sg)]), .inl (0, m, fun j => .int (q j))] Q := by
        intro z hz
        refine mj_T.iadd rfl ?_
        iterate 2 refine mj_T.pl rfl rfl rfl rfl ?_
        refine mj_T.icmp rfl ⟨by omega, by omega⟩ ⟨by omega, by omega⟩ (fun hc74 => ?_) (fun hc74 => ?_)
        · simp only [jc, decide_eq_true_eq] at hc74
          refine mj_T.pl rfl rfl rfl rfl ?_
          exact t4 0 _ (by omega) (by have := jlb_high (x := y) (j := i) (by omega); omega)
        · simp only [jc, decide_eq_false_iff_not] at hc74
          iterate 3 refine mj_T.pl rfl rfl rfl rfl ?_
          refine mj_T.ialv rfl rfl ⟨by omega, by omega⟩ ⟨by omega, by omega⟩ (hq i (by omega)) ?_
          refine mj_T.pl rfl rfl rfl rfl ?_
          exact t4 _ _ (by omega) rfl
      iterate 3 refine mj_T.pl rfl rfl rfl rfl ?_
      refine mj_T.icmp rfl ⟨by omega, by omega⟩ ⟨by omega, by omega⟩ (fun hc56 => ?_) (fun hc56 => ?_)
      · simp only [jc, decide_eq_true_eq] at hc56
        refine mj_T.pl rfl rfl rfl rfl ?_
        exact t3 0 (by have := jlb_high (x := x) (j := i) (by omega); omega)
      · simp only [jc, decide_eq_false_iff_not] at hc56
        iterate 3 refine mj_T.pl rfl rfl rfl rfl ?_
        refine mj_T.ialv rfl rfl ⟨by omega, by omega⟩ ⟨by omega, by omega⟩ ((hg2 i (Nat.le_refl i)).trans (hg i (by omega))) ?_
        refine mj_T.pl rfl rfl rfl rfl ?_
        exact t3 _ rfl
    iterate 2 refine mj_T.pl rfl rfl rfl rfl ?_
    refine mj_T.icmp rfl ⟨by omega, by omega⟩ ⟨by omega, by omega⟩ (fun hc37 => ?_) (fun hc37 => ?_)
    · simp only [jc, decide_eq_true_eq] at hc37
      exact key (by omega)
    · simp only [jc, decide_eq_false_iff_not] at hc37
      iterate 2 refine mj_T.pl rfl rfl rfl rfl ?_
      refine mj_T.icmp rfl ⟨by omega, by omega⟩ ⟨by omega, by omega⟩ (fun hc43 => ?_) (fun hc43 => ?_)
      · simp only [jc, decide_eq_true_eq] at hc43
        exact key (by omega)
      · simp only [jc, decide_eq_false_iff_not] at hc43
        refine mj_T.pl rfl rfl rfl rfl ?_
        refine mj_T.if0 rfl ⟨by omega, by omega⟩ (fun hc48 => ?_) (fun hc48 => ?_)
        · simp only [jc, decide_eq_true_eq] at hc48
          have e : i = jnl (x + y) := by have := jcy_end (x := x) (y := y) (i := i) (by omega) (by omega) (by omega); omega
          subst e
          exact mj_T.ret rfl rfl rfl (hend gi sz (by omega) hg1)
        · simp only [jc, decide_eq_false_iff_not] at hc48
          exact key (by omega)
theorem jw_gather {D n m x y : Nat} {sg : Int} {g0 : Int32} {g q : Nat → Int32} (hn : n < 2147483648) (hm : m < 2147483648) (hcap : jnl (x + y) ≤ n) (hy : jnl y ≤ m) (hg : ∀ j, j < jnl x → g j = jn (jlb x j)) (hq : ∀ j, j < jnl y → q j = jn (jlb y j)) (h0 : 0 < x) :
    mj_Ok (D + 1) 93 [.ref 0, .ref 2] [.inr (8, [.ref 1, .int (jn (jnl x)), .int g0]), .inl (0, n, fun j => .int (g j)), .inr (8, [.ref 3, .int (jn (jnl y)), .int (jn sg)]), .inl (0, m, fun j => .int (q j))]
      (fun r => ∃ g' : Nat → Int32, (∀ j, j < jnl (x + y) → g' j = jn (jlb (x + y) j)) ∧ r = (.inl none, [.inr (8, [.ref 1, .int (jn (jnl (x + y))), .int g0]), .inl (0, n, fun j => .int (g' j)), .inr (8, [.ref 3, .int (jn (jnl y)), .int (jn sg)]), .inl (0, m, fun j => .int (q j))])) := by
  have hxn : jnl x ≤ n := Nat.le_trans (jnl_mono (Nat.le_add_right x y)) hcap
  refine mj_Ok.of (M := mj_m93) rfl rfl rfl ?_
  iterate 7 refine mj_T.pl rfl rfl rfl rfl ?_
  refine mj_T.alen rfl rfl ?_
  refine mj_T.imin rfl rfl (Nat.le_of_ble_eq_true rfl) ⟨by omega, by omega⟩ ⟨by omega, by omega⟩ ?_
  rw [show min (jnl y : Int) (m : Int) = (jnl y : Nat) by omega]
  iterate 5 refine mj_T.pl rfl rfl rfl rfl ?_
  refine mj_T.eq (jw_gather_loop (x := x) (y := y) (g := g) (q := q) hn hm hcap hy hg hq (fun gi sz hsz hgi => ?_) n 0 g (jnl x) none (by omega) (Nat.zero_le _) (Or.inl rfl) (fun j hj => by omega) (fun j _ => rfl)) rfl ?_ rfl rfl
  · rcases hsz with h | h
    · have := jnl_eq0.mp h; omega
    · subst h; exact ⟨gi, hgi, rfl⟩
  · rw [jcy_zero]; rfl
/-! Taking away by limbs. -/
theorem jnl_mod_top {z i : Nat} (h : jlb z i ≠ 0) : jnl (z % jB ^ (i + 1)) = i + 1 := by
  have h1 : jnl (z % jB ^ (i + 1)) ≤ i + 1 := jnl_of (Nat.mod_lt _ (jB_pow _))
  have h2 : ¬ jnl (z % jB ^ (i + 1)) ≤ i := by
    rw [jnl_le_lt, jmod]
    have h3 := Nat.mul_le_mul_right (jB ^ i) (Nat.pos_of_ne_zero h)
    intro h4
    exact absurd (Nat.lt_of_le_of_lt (Nat.le_trans h3 (Nat.le_add_right _ _)) h4) (by simp)
  omega
theorem jnl_mod_same {z i : Nat} (h : jlb z i = 0) : jnl (z % jB ^ (i + 1)) = jnl (z % jB ^ i) := by
  rw [jmod, h, Nat.zero_mul, Nat.zero_add]
theorem jnl_mod_le (z i : Nat) : jnl (z % jB ^ i) ≤ i := jnl_of (Nat.mod_lt _ (jB_pow _))
/-- the heap of two Wides -/
abbrev jH2 (n m : Nat) (s1 s2 : Int) (g0 : Int32) (sg : Int) (g q : Nat → Int32) : mj_H := [.inr (8, [.ref 1, .int (jn s1), .int g0]), .inl (0, n, fun j => .int (g j)), .inr (8, [.ref 3, .int (jn s2), .int (jn sg)]), .inl (0, m, fun j => .int (q j))]
theorem jw_differA_loop {D n m x y z : Nat} {g0 : Int32} {sg : Int} {g q : Nat → Int32} (hn : n < 2147483648) (hm : m < 2147483648) (hxz : x = z + y) (hx : jnl x ≤ n) (hxm : jnl x ≤ m) (hy : jnl y ≤ n) (hg : ∀ j, j < jnl y → g j = jn (jlb y j)) (hq : ∀ j, j < jnl x → q j = jn (jlb x j)) {Q : mj_R → Prop}
    (hend : ∀ (gi : Nat → Int32), (∀ j, j < jnl z → gi j = jn (jlb z j)) → Q (.inl none, jH2 n m (jnl z) (jnl x) g0 sg gi q)) :
    ∀ (d i : Nat) (gi : Nat → Int32) (l8 : Option Value), i + d = jnl x → (∀ j, j < i → gi j = jn (jlb z j)) → (∀ j, i ≤ j → gi j = g j) →
      mj_T D mj_m94 44 [some (.ref 0), some (.ref 2), some (.ref 0), some (.int (jn (jnl x))), some (.int (jn (jnl y))), some (.int (jn (jnl (z % jB ^ i)))), some (.int (jn (jcy z y i))), some (.int (jn i)), l8] [] (jH2 n m (jnl y) (jnl x) g0 sg gi q) Q := by
  intro d
  have hzx : jnl z ≤ jnl x := jnl_mono (by omega)
  have hyx : jnl y ≤ jnl x := jnl_mono (by omega)
  induction d with
  | zero =>
    intro i gi l8 hid hg1 hg2
    iterate 2 refine mj_T.pl rfl rfl rfl rfl ?_
    refine mj_T.icmp rfl ⟨by omega, by omega⟩ ⟨by omega, by omega⟩ (fun hc47 => ?_) (fun hc47 => ?_)
    · iterate 3 refine mj_T.pl rfl rfl rfl rfl ?_
      rw [jmod_full (show jnl z ≤ i by omega)]
      exact mj_T.ret rfl rfl rfl (hend gi (fun j hj => hg1 j (by omega)))
    · simp only [jc, decide_eq_false_iff_not] at hc47; omega
  | succ d ih =>
    intro i gi l8 hid hg1 hg2
    have hcx := jcy_le z y i
    have hcx2 := jcy_le z y (i + 1)
    have hl := jcy_limb z y i
    have hnx := jcy_next z y i
    rw [← hxz] at hl
    have hz1 := jlb_lt z i
    have hy1 := jlb_lt y i
    have hx1 := jlb_lt x i
    have hu := jnl_mod_le z i
    have hdm := Nat.div_add_mod (jlb z i + jlb y i + jcy z y i) 1000000000
    have hl2 : jlb x i = (jlb z i + jlb y i + jcy z y i) % 1000000000 := hl
    have hnx2 : jcy z y (i + 1) = (jlb z i + jlb y i + jcy z y i) / 1000000000 := hnx
    iterate 2 refine mj_T.pl rfl rfl rfl rfl ?_
    refine mj_T.icmp rfl ⟨by omega, by omega⟩ ⟨by omega, by omega⟩ (fun hc47 => ?_) (fun hc47 => ?_)
    · simp only [jc, decide_eq_true_eq] at hc47; omega
    clear hc47
    have t4 : ∀ (gi' : Nat → Int32) (v l8 : Value), v = .int (jn (jnl (z % jB ^ (i + 1)))) → gi' = upd gi i (jn (jlb z i)) → mj_T D mj_m94 127 [some (.ref 0), some (.ref 2), some (.ref 0), some (.int (jn (jnl x))), some (.int (jn (jnl y))), some (.int (jn (jnl (z % jB ^ i)))), some (.int (jn (jcy z y (i + 1)))), some (.int (jn i)), some l8] [v] (jH2 n m (jnl y) (jnl x) g0 sg gi' q) Q := by
      intro gi' v l8 hv hgi
      subst hv
      subst hgi
      refine mj_T.pl rfl rfl rfl rfl ?_
      refine mj_T.iinc (a := i) rfl rfl ?_
      refine mj_T.pl rfl rfl rfl rfl ?_
      refine ih (i + 1) (upd gi i (jn (jlb z i))) (some l8) (by omega) (fun j hj => ?_) (fun j hj => ?_)
      · unfold upd
        split
        · rename_i h; rw [h]
        · exact hg1 j (by omega)
      · unfold upd
        rw [if_neg (by omega)]
        exact hg2 j (by omega)
    have t3 : ∀ (s b : Int), s = (jlb z i : Int) - (jcy z y (i + 1) : Nat) * 1000000000 → b = (jcy z y (i + 1) : Nat) → mj_T D mj_m94 91 [some (.ref 0), some (.ref 2), some (.ref 0), some (.int (jn (jnl x))), some (.int (jn (jnl y))), some (.int (jn (jnl (z % jB ^ i)))), some (.int (jn (jcy z y i))), some (.int (jn i)), some (.int (jn s))] [.int (jn b)] (jH2 n m (jnl y) (jnl x) g0 sg gi q) Q := by
      intro s b hs hb
      subst hb
      iterate 7 refine mj_T.pl rfl rfl rfl rfl ?_
      refine mj_T.imul (b := 1000000000) rfl ?_
      refine mj_T.iadd rfl ?_
      rw [show s + ((jcy z y (i + 1) : Nat) : Int) * 1000000000 = ((jlb z i : Nat) : Int) by omega]
      refine mj_T.iast rfl rfl ⟨by omega, by omega⟩ ⟨by omega, by omega⟩ ?_
      iterate 3 refine mj_T.pl rfl rfl rfl rfl ?_
      refine mj_T.ialv (z := (jlb z i : Nat)) rfl rfl ⟨by omega, by omega⟩ ⟨by omega, by omega⟩ (if_pos rfl) ?_
      refine mj_T.if0 rfl ⟨by omega, by omega⟩ (fun hc115 => ?_) (fun hc115 => ?_)
      · simp only [jc, decide_eq_true_eq] at hc115
        refine mj_T.pl rfl rfl rfl rfl ?_
        exact t4 _ _ _ (by rw [jnl_mod_same (by omega)]) rfl
      · simp only [jc, decide_eq_false_iff_not] at hc115
        iterate 2 refine mj_T.pl rfl rfl rfl rfl ?_
        refine mj_T.iadd (b := 1) rfl ?_
        refine mj_T.pl rfl rfl rfl rfl ?_
        exact t4 _ _ _ (by rw [jnl_mod_top (by omega)]; rfl) rfl
    have t2 : ∀ (w : Int), w = (jlb y i : Nat) → mj_T D mj_m94 78 [some (.ref 0), some (.ref 2), some (.ref 0), some (.int (jn (jnl x))), some (.int (jn (jnl y))), some (.int (jn (jnl (z % jB ^ i)))), some (.int (jn (jcy z y i))), some (.int (jn i)), l8] [.int (jn w), .int (jn ((jlb x i : Nat) - (jcy z y i : Nat)))] (jH2 n m (jnl y) (jnl x) g0 sg gi q) Q := by
      intro w hw
      refine mj_T.isub rfl ?_
      iterate 2 refine mj_T.pl rfl rfl rfl rfl ?_
      refine mj_T.if0 rfl ⟨by omega, by omega⟩ (fun hc83 => ?_) (fun hc83 => ?_)
      · simp only [jc, decide_eq_true_eq] at hc83
        refine mj_T.pl rfl rfl rfl rfl ?_
        exact t3 _ 0 (by omega) (by omega)
      · simp only [jc, decide_eq_false_iff_not] at hc83
        iterate 2 refine mj_T.pl rfl rfl rfl rfl ?_
        exact t3 _ 1 (by omega) (by omega)
    iterate 3 refine mj_T.pl rfl rfl rfl rfl ?_
    refine mj_T.ialv rfl rfl ⟨by omega, by omega⟩ ⟨by omega, by omega⟩ (hq i (by omega)) ?_
    refine mj_T.pl rfl rfl rfl rfl ?_
    refine mj_T.isub rfl ?_
    iterate 2 refine mj_T.pl rfl rfl rfl rfl ?_
    refine mj_T.icmp rfl ⟨by omega, by omega⟩ ⟨by omega, by omega⟩ (fun hc64 => ?_) (fun hc64 => ?_)
    · simp only [jc, decide_eq_true_eq] at hc64
      refine mj_T.pl rfl rfl rfl rfl ?_
      exact t2 0 (by have := jlb_high (x := y) (j := i) (by omega); omega)
    · simp only [jc, decide_eq_false_iff_not] at hc64
      iterate 3 refine mj_T.pl rfl rfl rfl rfl ?_
      refine mj_T.ialv rfl rfl ⟨by omega, by omega⟩ ⟨by omega, by omega⟩ ((hg2 i (Nat.le_refl i)).trans (hg i (by omega))) ?_
      refine mj_T.pl rfl rfl rfl rfl ?_
      exact t2 _ rfl
theorem jw_differA {D n m x y z : Nat} {sg : Int} {g0 : Int32} {g q : Nat → Int32} (hn : n < 2147483648) (hm : m < 2147483648) (hxz : x = z + y) (hx : jnl x ≤ n) (hxm : jnl x ≤ m) (hy : jnl y ≤ n) (hg : ∀ j, j < jnl y → g j = jn (jlb y j)) (hq : ∀ j, j < jnl x → q j = jn (jlb x j)) :
    mj_Ok (D + 1) 94 [.ref 0, .ref 2, .ref 0] (jH2 n m (jnl y) (jnl x) g0 sg g q)
      (fun r => ∃ g' : Nat → Int32, (∀ j, j < jnl z → g' j = jn (jlb z j)) ∧ r = (.inl none, jH2 n m (jnl z) (jnl x) g0 sg g' q)) := by
  refine mj_Ok.of (M := mj_m94) rfl rfl rfl ?_
  iterate 4 refine mj_T.pl rfl rfl rfl rfl ?_
  refine mj_T.alen rfl rfl ?_
  iterate 2 refine mj_T.pl rfl rfl rfl rfl ?_
  refine mj_T.alen rfl rfl ?_
  refine mj_T.imin rfl rfl (Nat.le_of_ble_eq_true rfl) ⟨by omega, by omega⟩ ⟨by omega, by omega⟩ ?_
  refine mj_T.imin rfl rfl (Nat.le_of_ble_eq_true rfl) ⟨by omega, by omega⟩ ⟨by omega, by omega⟩ ?_
  rw [show min (jnl x : Int) (min (n : Int) (m : Int)) = (jnl x : Nat) by omega]
  iterate 5 refine mj_T.pl rfl rfl rfl rfl ?_
  refine mj_T.alen rfl rfl ?_
  refine mj_T.imin rfl rfl (Nat.le_of_ble_eq_true rfl) ⟨by omega, by omega⟩ ⟨by omega, by omega⟩ ?_
  rw [show min (jnl y : Int) (n : Int) = (jnl y : Nat) by omega]
  iterate 7 refine mj_T.pl rfl rfl rfl rfl ?_
  refine mj_T.eq (jw_differA_loop (x := x) (y := y) (z := z) (g := g) (q := q) hn hm hxz hx hxm hy hg hq (fun gi hgi => ⟨gi, hgi, rfl⟩) (jnl x) 0 g none (by omega) (fun j hj => by omega) (fun j _ => rfl)) rfl ?_ rfl rfl
  rw [jcy_zero, show z % jB ^ 0 = 0 by simp [Nat.mod_one], jnl_zero]
  rfl
theorem jw_differB_loop {D n m x y z : Nat} {g0 : Int32} {sg : Int} {g q : Nat → Int32} (hn : n < 2147483648) (hm : m < 2147483648) (hxz : x = z + y) (hx : jnl x ≤ n) (hxm : jnl x ≤ n) (hy : jnl y ≤ m) (hg : ∀ j, j < jnl x → g j = jn (jlb x j)) (hq : ∀ j, j < jnl y → q j = jn (jlb y j)) {Q : mj_R → Prop}
    (hend : ∀ (gi : Nat → Int32), (∀ j, j < jnl z → gi j = jn (jlb z j)) → Q (.inl none, jH2 n m (jnl z) (jnl y) g0 sg gi q)) :
    ∀ (d i : Nat) (gi : Nat → Int32) (l8 : Option Value), i + d = jnl x → (∀ j, j < i → gi j = jn (jlb z j)) → (∀ j, i ≤ j → gi j = g j) →
      mj_T D mj_m94 44 [some (.ref 0), some (.ref 0), some (.ref 2), some (.int (jn (jnl x))), some (.int (jn (jnl y))), some (.int (jn (jnl (z % jB ^ i)))), some (.int (jn (jcy z y i))), some (.int (jn i)), l8] [] (jH2 n m (jnl x) (jnl y) g0 sg gi q) Q := by
  intro d
  have hzx : jnl z ≤ jnl x := jnl_mono (by omega)
  have hyx : jnl y ≤ jnl x := jnl_mono (by omega)
  induction d with
  | zero =>
    intro i gi l8 hid hg1 hg2
    iterate 2 refine mj_T.pl rfl rfl rfl rfl ?_
    refine mj_T.icmp rfl ⟨by omega, by omega⟩ ⟨by omega, by omega⟩ (fun hc47 => ?_) (fun hc47 => ?_)
    · iterate 3 refine mj_T.pl rfl rfl rfl rfl ?_
      rw [jmod_full (show jnl z ≤ i by omega)]
      exact mj_T.ret rfl rfl rfl (hend gi (fun j hj => hg1 j (by omega)))
    · simp only [jc, decide_eq_false_iff_not] at hc47; omega
  | succ d ih =>
    intro i gi l8 hid hg1 hg2
    have hcx := jcy_le z y i
    have hcx2 := jcy_le z y (i + 1)
    have hl := jcy_limb z y i
    have hnx := jcy_next z y i
    rw [← hxz] at hl
    have hz1 := jlb_lt z i
    have hy1 := jlb_lt y i
    have hx1 := jlb_lt x i
    have hu := jnl_mod_le z i
    have hdm := Nat.div_add_mod (jlb z i + jlb y i + jcy z y i) 1000000000
    have hl2 : jlb x i = (jlb z i + jlb y i + jcy z y i) % 1000000000 := hl
    have hnx2 : jcy z y (i + 1) = (jlb z i + jlb y i + jcy z y i) / 1000000000 := hnx
    iterate 2 refine mj_T.pl rfl rfl rfl rfl ?_
    refine mj_T.icmp rfl ⟨by omega, by omega⟩ ⟨by omega, by omega⟩ (fun hc47 => ?_) (fun hc47 => ?_)
    · simp only [jc, decide_eq_true_eq] at hc47; omega
    clear hc47
    have t4 : ∀ (gi' : Nat → Int32) (v l8 : Value), v = .int (jn (jnl (z % jB ^ (i + 1)))) → gi' = upd gi i (jn (jlb z i)) → mj_T D mj_m94 127 [some (.ref 0), some (.ref 0), some (.ref 2), some (.int (jn (jnl x))), some (.int (jn (jnl y))), some (.int (jn (jnl (z % jB ^ i)))), some (.int (jn (jcy z y (i + 1)))), some (.int (jn i)), some l8] [v] (jH2 n m (jnl x) (jnl y) g0 sg gi' q) Q := by
      intro gi' v l8 hv hgi
      subst hv
      subst hgi
      refine mj_T.pl rfl rfl rfl rfl ?_
      refine mj_T.iinc (a := i) rfl rfl ?_
      refine mj_T.pl rfl rfl rfl rfl ?_
      refine ih (i + 1) (upd gi i (jn (jlb z i))) (some l8) (by omega) (fun j hj => ?_) (fun j hj => ?_)
      · unfold upd
        split
        · rename_i h; rw [h]
        · exact hg1 j (by omega)
      · unfold upd
        rw [if_neg (by omega)]
        exact hg2 j (by omega)
    have t3 : ∀ (s b : Int), s = (jlb z i : Int) - (jcy z y (i + 1) : Nat) * 1000000000 → b = (jcy z y (i + 1) : Nat) → mj_T D mj_m94 91 [some (.ref 0), some (.ref 0), some (.ref 2), some (.int (jn (jnl x))), some (.int (jn (jnl y))), some (.int (jn (jnl (z % jB ^ i)))), some (.int (jn (jcy z y i))), some (.int (jn i)), some (.int (jn s))] [.int (jn b)] (jH2 n m (jnl x) (jnl y) g0 sg gi q) Q := by
      intro s b hs hb
      subst hb
      iterate 7 refine mj_T.pl rfl rfl rfl rfl ?_
      refine mj_T.imul (b := 1000000000) rfl ?_
      refine mj_T.iadd rfl ?_
      rw [show s + ((jcy z y (i + 1) : Nat) : Int) * 1000000000 = ((jlb z i : Nat) : Int) by omega]
      refine mj_T.iast rfl rfl ⟨by omega, by omega⟩ ⟨by omega, by omega⟩ ?_
      iterate 3 refine mj_T.pl rfl rfl rfl rfl ?_
      refine mj_T.ialv (z := (jlb z i : Nat)) rfl rfl ⟨by omega, by omega⟩ ⟨by omega, by omega⟩ (if_pos rfl) ?_
      refine mj_T.if0 rfl ⟨by omega, by omega⟩ (fun hc115 => ?_) (fun hc115 => ?_)
      · simp only [jc, decide_eq_true_eq] at hc115
        refine mj_T.pl rfl rfl rfl rfl ?_
        exact t4 _ _ _ (by rw [jnl_mod_same (by omega)]) rfl
      · simp only [jc, decide_eq_false_iff_not] at hc115
        iterate 2 refine mj_T.pl rfl rfl rfl rfl ?_
        refine mj_T.iadd (b := 1) rfl ?_
        refine mj_T.pl rfl rfl rfl rfl ?_
        exact t4 _ _ _ (by rw [jnl_mod_top (by omega)]; rfl) rfl
    have t2 : ∀ (w : Int), w = (jlb y i : Nat) → mj_T D mj_m94 78 [some (.ref 0), some (.ref 0), some (.ref 2), some (.int (jn (jnl x))), some (.int (jn (jnl y))), some (.int (jn (jnl (z % jB ^ i)))), some (.int (jn (jcy z y i))), some (.int (jn i)), l8] [.int (jn w), .int (jn ((jlb x i : Nat) - (jcy z y i : Nat)))] (jH2 n m (jnl x) (jnl y) g0 sg gi q) Q := by
      intro w hw
      refine mj_T.isub rfl ?_
      iterate 2 refine mj_T.pl rfl rfl rfl rfl ?_
      refine mj_T.if0 rfl ⟨by omega, by omega⟩ (fun hc83 => ?_) (fun hc83 => ?_)
      · simp only [jc, decide_eq_true_eq] at hc83
        refine mj_T.pl rfl rfl rfl rfl ?_
        exact t3 _ 0 (by omega) (by omega)
      · simp only [jc, decide_eq_false_iff_not] at hc83
        iterate 2 refine mj_T.pl rfl rfl rfl rfl ?_
        exact t3 _ 1 (by omega) (by omega)
    iterate 3 refine mj_T.pl rfl rfl rfl rfl ?_
    refine mj_T.ialv rfl rfl ⟨by omega, by omega⟩ ⟨by omega, by omega⟩ ((hg2 i (Nat.le_refl i)).trans (hg i (by omega))) ?_
    refine mj_T.pl rfl rfl rfl rfl ?_
    refine mj_T.isub rfl ?_
    iterate 2 refine mj_T.pl rfl rfl rfl rfl ?_
    refine mj_T.icmp rfl ⟨by omega, by omega⟩ ⟨by omega, by omega⟩ (fun hc64 => ?_) (fun hc64 => ?_)
    · simp only [jc, decide_eq_true_eq] at hc64
      refine mj_T.pl rfl rfl rfl rfl ?_
      exact t2 0 (by have := jlb_high (x := y) (j := i) (by omega); omega)
    · simp only [jc, decide_eq_false_iff_not] at hc64
      iterate 3 refine mj_T.pl rfl rfl rfl rfl ?_
      refine mj_T.ialv rfl rfl ⟨by omega, by omega⟩ ⟨by omega, by omega⟩ (hq i (by omega)) ?_
      refine mj_T.pl rfl rfl rfl rfl ?_
      exact t2 _ rfl
theorem jw_differB {D n m x y z : Nat} {sg : Int} {g0 : Int32} {g q : Nat → Int32} (hn : n < 2147483648) (hm : m < 2147483648) (hxz : x = z + y) (hx : jnl x ≤ n) (hxm : jnl x ≤ n) (hy : jnl y ≤ m) (hg : ∀ j, j < jnl x → g j = jn (jlb x j)) (hq : ∀ j, j < jnl y → q j = jn (jlb y j)) :
    mj_Ok (D + 1) 94 [.ref 0, .ref 0, .ref 2] (jH2 n m (jnl x) (jnl y) g0 sg g q)
      (fun r => ∃ g' : Nat → Int32, (∀ j, j < jnl z → g' j = jn (jlb z j)) ∧ r = (.inl none, jH2 n m (jnl z) (jnl y) g0 sg g' q)) := by
  refine mj_Ok.of (M := mj_m94) rfl rfl rfl ?_
  iterate 4 refine mj_T.pl rfl rfl rfl rfl ?_
  refine mj_T.alen rfl rfl ?_
  iterate 2 refine mj_T.pl rfl rfl rfl rfl ?_
  refine mj_T.alen rfl rfl ?_
  refine mj_T.imin rfl rfl (Nat.le_of_ble_eq_true rfl) ⟨by omega, by omega⟩ ⟨by omega, by omega⟩ ?_
  refine mj_T.imin rfl rfl (Nat.le_of_ble_eq_true rfl) ⟨by omega, by omega⟩ ⟨by omega, by omega⟩ ?_
  rw [show min (jnl x : Int) (min (n : Int) (n : Int)) = (jnl x : Nat) by omega]
  iterate 5 refine mj_T.pl rfl rfl rfl rfl ?_
  refine mj_T.alen rfl rfl ?_
  refine mj_T.imin rfl rfl (Nat.le_of_ble_eq_true rfl) ⟨by omega, by omega⟩ ⟨by omega, by omega⟩ ?_
  rw [show min (jnl y : Int) (m : Int) = (jnl y : Nat) by omega]
  iterate 7 refine mj_T.pl rfl rfl rfl rfl ?_
  refine mj_T.eq (jw_differB_loop (x := x) (y := y) (z := z) (g := g) (q := q) hn hm hxz hx hxm hy hg hq (fun gi hgi => ⟨gi, hgi, rfl⟩) (jnl x) 0 g none (by omega) (fun j hj => by omega) (fun j _ => rfl)) rfl ?_ rfl rfl
  rw [jcy_zero, show z % jB ^ 0 = 0 by simp [Nat.mod_one], jnl_zero]
  rfl
/-! Comparing by limbs. -/
theorem jlt_div {x y k : Nat} (h : x / k < y / k) : x < y := Nat.lt_of_not_le fun hle => absurd (Nat.div_le_div_right (c := k) hle) (Nat.not_le.mpr h)
theorem jlt_of {x y i : Nat} (h : x / jB ^ (i + 1) = y / jB ^ (i + 1)) (hl : jlb x i < jlb y i) : x < y := by
  have h1 := jdiv x i
  have h2 := jdiv y i
  rw [h] at h1
  refine jlt_div (k := jB ^ i) ?_
  rw [h1, h2]
  exact Nat.add_lt_add_left hl _
theorem jeq_of {x y i : Nat} (h : x / jB ^ (i + 1) = y / jB ^ (i + 1)) (hl : jlb x i = jlb y i) : x / jB ^ i = y / jB ^ i := by rw [jdiv x i, jdiv y i, h, hl]
theorem jlt_nl {x y : Nat} (h : jnl x < jnl y) : x < y := by
  have h1 := jnl_lt.mp h
  have h2 := jnl_le.mp (Nat.le_refl (jnl x))
  refine jlt_div (k := jB ^ jnl x) ?_
  rw [h2]
  exact Nat.pos_of_ne_zero h1
theorem jw_isLess_loop {D n m x y : Nat} {g0 : Int32} {sg : Int} {g q : Nat → Int32} (hn : n < 2147483648) (hm : m < 2147483648) (hx : jnl x ≤ n) (hy : jnl x ≤ m) (hxy : jnl x = jnl y) (hg : ∀ j, j < jnl x → g j = jn (jlb x j)) (hq : ∀ j, j < jnl y → q j = jn (jlb y j)) {Q : mj_R → Prop}
    (hend : Q (.inl (some (.int (jn (if x < y then 1 else 0)))), jH2 n m (jnl x) (jnl y) g0 sg g q)) :
    ∀ (k : Nat) (v : Int), v = (k : Int) - 1 → k ≤ jnl x → x / jB ^ k = y / jB ^ k →
      mj_T D mj_m92 35 [some (.ref 0), some (.ref 2), some (.int (jn v))] [] (jH2 n m (jnl x) (jnl y) g0 sg g q) Q := by
  intro k
  induction k with
  | zero =>
    intro v hv hk he
    iterate 1 refine mj_T.pl rfl rfl rfl rfl ?_
    refine mj_T.if0 rfl ⟨by omega, by omega⟩ (fun hc36 => ?_) (fun hc36 => ?_)
    · iterate 1 refine mj_T.pl rfl rfl rfl rfl ?_
      rw [Nat.pow_zero, Nat.div_one, Nat.div_one] at he
      rw [if_neg (by omega)] at hend
      exact mj_T.ret rfl rfl rfl hend
    · simp only [jc, decide_eq_false_iff_not] at hc36; omega
  | succ k ih =>
    intro v hv hk he
    have ev : v = k := by omega
    subst ev
    have hx1 := jlb_lt x k
    have hy1 := jlb_lt y k
    refine mj_T.pl rfl rfl rfl rfl ?_
    refine mj_T.if0 rfl ⟨by omega, by omega⟩ (fun hc36 => ?_) (fun hc36 => ?_)
    · simp only [jc, decide_eq_true_eq] at hc36; omega
    · iterate 3 refine mj_T.pl rfl rfl rfl rfl ?_
      refine mj_T.alen rfl rfl ?_
      refine mj_T.icmp rfl ⟨by omega, by omega⟩ ⟨by omega, by omega⟩ (fun hc45 => ?_) (fun hc45 => ?_)
      · simp only [jc, decide_eq_true_eq] at hc45; omega
      · iterate 3 refine mj_T.pl rfl rfl rfl rfl ?_
        refine mj_T.alen rfl rfl ?_
        refine mj_T.icmp rfl ⟨by omega, by omega⟩ ⟨by omega, by omega⟩ (fun hc54 => ?_) (fun hc54 => ?_)
        · simp only [jc, decide_eq_true_eq] at hc54; omega
        · iterate 3 refine mj_T.pl rfl rfl rfl rfl ?_
          refine mj_T.ialv rfl rfl ⟨by omega, by omega⟩ ⟨by omega, by omega⟩ (hg k (by omega)) ?_
          iterate 3 refine mj_T.pl rfl rfl rfl rfl ?_
          refine mj_T.ialv rfl rfl ⟨by omega, by omega⟩ ⟨by omega, by omega⟩ (hq k (by omega)) ?_
          refine mj_T.icmp rfl ⟨by omega, by omega⟩ ⟨by omega, by omega⟩ (fun hc69 => ?_) (fun hc69 => ?_)
          · simp only [jc, decide_eq_true_eq] at hc69
            refine mj_T.iinc (a := k) rfl rfl ?_
            refine mj_T.pl rfl rfl rfl rfl ?_
            exact ih ((k : Int) + -1) (by omega) (by omega) (jeq_of he (by omega))
          · simp only [jc, decide_eq_false_iff_not] at hc69
            iterate 3 refine mj_T.pl rfl rfl rfl rfl ?_
            refine mj_T.ialv rfl rfl ⟨by omega, by omega⟩ ⟨by omega, by omega⟩ (hg k (by omega)) ?_
            iterate 3 refine mj_T.pl rfl rfl rfl rfl ?_
            refine mj_T.ialv rfl rfl ⟨by omega, by omega⟩ ⟨by omega, by omega⟩ (hq k (by omega)) ?_
            refine mj_T.icmp rfl ⟨by omega, by omega⟩ ⟨by omega, by omega⟩ (fun hc84 => ?_) (fun hc84 => ?_)
            · simp only [jc, decide_eq_true_eq] at hc84
              have := jlt_of he.symm (show jlb y k < jlb x k by omega)
              rw [if_neg (by omega)] at hend
              iterate 1 refine mj_T.pl rfl rfl rfl rfl ?_
              exact mj_T.ret rfl rfl rfl hend
            · simp only [jc, decide_eq_false_iff_not] at hc84
              have := jlt_of he (show jlb x k < jlb y k by omega)
              rw [if_pos this] at hend
              iterate 2 refine mj_T.pl rfl rfl rfl rfl ?_
              exact mj_T.ret rfl rfl rfl hend
theorem jw_isLess {D n m x y : Nat} {g0 : Int32} {sg : Int} {g q : Nat → Int32} (hn : n < 2147483648) (hm : m < 2147483648) (hx : jnl x ≤ n) (hy : jnl y ≤ m) (hg : ∀ j, j < jnl x → g j = jn (jlb x j)) (hq : ∀ j, j < jnl y → q j = jn (jlb y j)) :
    mj_Ok (D + 1) 92 [.ref 0, .ref 2] (jH2 n m (jnl x) (jnl y) g0 sg g q) (fun r => r = (.inl (some (.int (jn (if x < y then 1 else 0)))), jH2 n m (jnl x) (jnl y) g0 sg g q)) := by
  refine mj_Ok.of (M := mj_m92) rfl rfl rfl ?_
  iterate 4 refine mj_T.pl rfl rfl rfl rfl ?_
  refine mj_T.icmp rfl ⟨by omega, by omega⟩ ⟨by omega, by omega⟩ (fun hc8 => ?_) (fun hc8 => ?_)
  · simp only [jc, decide_eq_true_eq] at hc8
    iterate 3 refine mj_T.pl rfl rfl rfl rfl ?_
    refine mj_T.isub (b := 1) rfl ?_
    refine mj_T.pl rfl rfl rfl rfl ?_
    have e1 := jnl_le.mp (Nat.le_refl (jnl x))
    have e2 := jnl_le.mp (show jnl y ≤ jnl x by omega)
    exact jw_isLess_loop (x := x) (y := y) (Q := fun r => r = (.inl (some (.int (jn (if x < y then 1 else 0)))), jH2 n m (jnl x) (jnl y) g0 sg g q)) hn hm hx (by omega) (by omega) hg hq rfl (jnl x) _ rfl (Nat.le_refl _) (by rw [e1, e2])
  · simp only [jc, decide_eq_false_iff_not] at hc8
    iterate 4 refine mj_T.pl rfl rfl rfl rfl ?_
    refine mj_T.icmp rfl ⟨by omega, by omega⟩ ⟨by omega, by omega⟩ (fun hc19 => ?_) (fun hc19 => ?_)
    · simp only [jc, decide_eq_true_eq] at hc19
      have := jlt_nl (show jnl y < jnl x by omega)
      rw [if_neg (show ¬ x < y by omega)]
      iterate 1 refine mj_T.pl rfl rfl rfl rfl ?_
      exact mj_T.ret rfl rfl rfl rfl
    · simp only [jc, decide_eq_false_iff_not] at hc19
      have := jlt_nl (show jnl x < jnl y by omega)
      rw [if_pos this]
      iterate 2 refine mj_T.pl rfl rfl rfl rfl ?_
      exact mj_T.ret rfl rfl rfl rfl
/-! Wide: plus. -/
theorem jsg_range (v : Int) : -1 ≤ jsg v ∧ jsg v ≤ 1 := by unfold jsg; (repeat' split) <;> omega
theorem jsg_pos {v : Int} (h : 0 < v) : jsg v = 1 := by unfold jsg; rw [if_neg (by omega), if_pos h]
theorem jsg_neg {v : Int} (h : v < 0) : jsg v = -1 := by unfold jsg; rw [if_pos h]
theorem jsg_zero : jsg 0 = 0 := rfl
theorem jw_plus {D n m : Nat} {u w f : Int} {g q : Nat → Int32} (hn : n < 2147483648) (hm : m < 2147483648) (hf : f = 1 ∨ f = -1) (hu : jnl u.natAbs ≤ n) (hw : jnl w.natAbs ≤ m) (hwn : jnl w.natAbs ≤ n) (hcap : jnl (u + f * w).natAbs ≤ n) (hg : ∀ j, j < jnl u.natAbs → g j = jn (jlb u.natAbs j)) (hq : ∀ j, j < jnl w.natAbs → q j = jn (jlb w.natAbs j)) :
    mj_Ok (D + 2) 91 [.ref 0, .ref 2, .int (jn f)] (jH2 n m (jnl u.natAbs) (jnl w.natAbs) (jn (jsg u)) (jsg w) g q)
      (fun r => ∃ g' : Nat → Int32, (∀ j, j < jnl (u + f * w).natAbs → g' j = jn (jlb (u + f * w).natAbs j)) ∧ r = (.inl none, jH2 n m (jnl (u + f * w).natAbs) (jnl w.natAbs) (jn (jsg (u + f * w))) (jsg w) g' q)) := by
  have hsu := jsg_range u
  have hsw := jsg_range w
  have hfr : -1 ≤ jsg w * f ∧ jsg w * f ≤ 1 ∧ jsg w * f = jsg (f * w) := by
    rcases hf with rfl | rfl
    · rw [Int.mul_one, Int.one_mul]; exact ⟨hsw.1, hsw.2, rfl⟩
    · refine ⟨by omega, by omega, ?_⟩
      unfold jsg
      (repeat' split) <;> omega
  have hfw : (f * w).natAbs = w.natAbs := by rcases hf with rfl | rfl <;> omega
  generalize f * w = z at hcap hfr hfw ⊢
  refine mj_Ok.of (M := mj_m91) rfl rfl rfl ?_
  iterate 3 refine mj_T.pl rfl rfl rfl rfl ?_
  refine mj_T.imul rfl ?_
  obtain ⟨hf1, hf2, hf3⟩ := hfr
  rw [hf3] at hf1 hf2
  rw [hf3]
  iterate 2 refine mj_T.pl rfl rfl rfl rfl ?_
  refine mj_T.if0 rfl ⟨by omega, by omega⟩ (fun hc8 => ?_) (fun hc8 => ?_)
  · simp only [jc, Bool.not_eq_true', decide_eq_false_iff_not] at hc8
    have hz : z ≠ 0 := fun h => hc8 (by rw [h]; rfl)
    -- the end: the size tells the sign
    have fin : ∀ (g' : Nat → Int32) (v : Int), (∀ j, j < jnl (u + z).natAbs → g' j = jn (jlb (u + z).natAbs j)) → -1 ≤ v ∧ v ≤ 1 → (u + z ≠ 0 → v = jsg (u + z)) →
        mj_T (D + 1) mj_m91 76 [some (.ref 0), some (.ref 2), some (.int (jn f)), some (.int (jn (jsg z)))] [] (jH2 n m (jnl (u + z).natAbs) (jnl w.natAbs) (jn v) (jsg w) g' q)
          (fun r => ∃ g' : Nat → Int32, (∀ j, j < jnl (u + z).natAbs → g' j = jn (jlb (u + z).natAbs j)) ∧ r = (.inl none, jH2 n m (jnl (u + z).natAbs) (jnl w.natAbs) (jn (jsg (u + z))) (jsg w) g' q)) := by
      intro g' v hg' hv1 hv2
      iterate 3 refine mj_T.pl rfl rfl rfl rfl ?_
      refine mj_T.if0 rfl ⟨by omega, by omega⟩ (fun hc81 => ?_) (fun hc81 => ?_)
      · simp only [jc, Bool.not_eq_true', decide_eq_false_iff_not] at hc81
        have h0 : u + z ≠ 0 := fun h => hc81 (by rw [h]; exact congrArg Int.ofNat jnl_zero)
        rw [hv2 h0]
        iterate 3 refine mj_T.pl rfl rfl rfl rfl ?_
        exact mj_T.ret rfl rfl rfl ⟨g', hg', rfl⟩
      · simp only [jc, Bool.not_eq_false', decide_eq_true_eq] at hc81
        have h0 : u + z = 0 := by have := jnl_eq0 (x := (u + z).natAbs); omega
        iterate 3 refine mj_T.pl rfl rfl rfl rfl ?_
        rw [h0] at hg' ⊢
        exact mj_T.ret rfl rfl rfl ⟨g', hg', rfl⟩
    iterate 2 refine mj_T.pl rfl rfl rfl rfl ?_
    refine mj_T.if0 rfl ⟨by omega, by omega⟩ (fun hc16 => ?_) (fun hc16 => ?_)
    · simp only [jc, Bool.not_eq_true', decide_eq_false_iff_not] at hc16
      have hu0 : u ≠ 0 := fun h => hc16 (by rw [h]; rfl)
      iterate 3 refine mj_T.pl rfl rfl rfl rfl ?_
      refine mj_T.icmp rfl ⟨by omega, by omega⟩ ⟨by omega, by omega⟩ (fun hc37 => ?_) (fun hc37 => ?_)
      · simp only [jc, Bool.not_eq_true', decide_eq_false_iff_not] at hc37
        -- unlike signs
        have hopp : (0 < u ∧ z < 0) ∨ (u < 0 ∧ 0 < z) := by
          rcases Int.lt_trichotomy u 0 with h1 | h1 | h1
          · rcases Int.lt_trichotomy z 0 with h2 | h2 | h2
            · exact absurd ((jsg_neg h1).trans (jsg_neg h2).symm) hc37
            · exact absurd h2 hz
            · exact Or.inr ⟨h1, h2⟩
          · exact absurd h1 hu0
          · rcases Int.lt_trichotomy z 0 with h2 | h2 | h2
            · exact Or.inl ⟨h1, h2⟩
            · exact absurd h2 hz
            · exact absurd ((jsg_pos h1).trans (jsg_pos h2).symm) hc37
        iterate 2 refine mj_T.pl rfl rfl rfl rfl ?_
        refine mj_T.call (ins := .invokevirtual 35) rfl rfl (Nat.le_of_ble_eq_true rfl) (Nat.le_of_ble_eq_true rfl) rfl rfl (jw_isLess (D := D) (x := u.natAbs) (y := w.natAbs) hn hm hu hw hg hq) (fun v h' hq' => ?_) (fun i h' hq' => by cases hq')
        cases hq'
        refine mj_T.if0 rfl ⟨by split <;> omega, by split <;> omega⟩ (fun hc53 => ?_) (fun hc53 => ?_)
        · simp only [jc, decide_eq_true_eq] at hc53
          have hle : ¬ u.natAbs < w.natAbs := fun h => by rw [if_pos h] at hc53; omega
          iterate 3 refine mj_T.pl rfl rfl rfl rfl ?_
          refine mj_T.call (ins := .invokevirtual 39) rfl rfl (Nat.le_of_ble_eq_true rfl) (Nat.le_of_ble_eq_true rfl) rfl rfl (jw_differB (D := D) (x := u.natAbs) (y := w.natAbs) (z := (u + z).natAbs) hn hm (by omega) hu hu hw hg hq) (fun v h' hq' => ?_) (fun i h' hq' => by obtain ⟨_, _, hq'⟩ := hq'; cases hq')
          obtain ⟨g', hg', hq'⟩ := hq'
          cases hq'
          exact fin g' _ hg' hsu (fun h0 => by
            rcases hopp with ⟨a, b⟩ | ⟨a, b⟩
            · rw [jsg_pos a, jsg_pos (by omega)]
            · rw [jsg_neg a, jsg_neg (by omega)])
        · simp only [jc, decide_eq_false_iff_not] at hc53
          have hlt : u.natAbs < w.natAbs := Decidable.byContradiction fun h => by rw [if_neg h] at hc53; exact hc53 rfl
          iterate 3 refine mj_T.pl rfl rfl rfl rfl ?_
          refine mj_T.call (ins := .invokevirtual 39) rfl rfl (Nat.le_of_ble_eq_true rfl) (Nat.le_of_ble_eq_true rfl) rfl rfl (jw_differA (D := D) (x := w.natAbs) (y := u.natAbs) (z := (u + z).natAbs) hn hm (by omega) hwn hw hu hg hq) (fun v h' hq' => ?_) (fun i h' hq' => by obtain ⟨_, _, hq'⟩ := hq'; cases hq')
          obtain ⟨g', hg', hq'⟩ := hq'
          cases hq'
          iterate 4 refine mj_T.pl rfl rfl rfl rfl ?_
          exact fin g' _ hg' ⟨by omega, by omega⟩ (fun h0 => by
            rcases hopp with ⟨a, b⟩ | ⟨a, b⟩
            · rw [jsg_neg b, jsg_neg (by omega)]
            · rw [jsg_pos b, jsg_pos (by omega)])
      · simp only [jc, Bool.not_eq_false', decide_eq_true_eq] at hc37
        have hsame : (0 < u ∧ 0 < z) ∨ (u < 0 ∧ z < 0) := by
          rcases Int.lt_trichotomy u 0 with h1 | h1 | h1
          · rcases Int.lt_trichotomy z 0 with h2 | h2 | h2
            · exact Or.inr ⟨h1, h2⟩
            · exact absurd h2 hz
            · rw [jsg_neg h1, jsg_pos h2] at hc37; omega
          · exact absurd h1 hu0
          · rcases Int.lt_trichotomy z 0 with h2 | h2 | h2
            · rw [jsg_pos h1, jsg_neg h2] at hc37; omega
            · exact absurd h2 hz
            · exact Or.inl ⟨h1, h2⟩
        have e : (u + z).natAbs = u.natAbs + w.natAbs := by omega
        iterate 2 refine mj_T.pl rfl rfl rfl rfl ?_
        refine mj_T.call (ins := .invokevirtual 32) rfl rfl (Nat.le_of_ble_eq_true rfl) (Nat.le_of_ble_eq_true rfl) rfl rfl (jw_gather (D := D) (x := u.natAbs) (y := w.natAbs) hn hm (by rw [← e]; exact hcap) hw hg hq (by omega)) (fun v h' hq' => ?_) (fun i h' hq' => by obtain ⟨_, _, hq'⟩ := hq'; cases hq')
        obtain ⟨g', hg', hq'⟩ := hq'
        cases hq'
        rw [← e] at hg' ⊢
        refine mj_T.pl rfl rfl rfl rfl ?_
        exact fin g' _ hg' hsu (fun h0 => by
          rcases hsame with ⟨a, b⟩ | ⟨a, b⟩
          · rw [jsg_pos a, jsg_pos (by omega)]
          · rw [jsg_neg a, jsg_neg (by omega)])
    · simp only [jc, Bool.not_eq_false', decide_eq_true_eq] at hc16
      have hu0 : u = 0 := by
        rcases Int.lt_trichotomy u 0 with h1 | h1 | h1
        · rw [jsg_neg h1] at hc16; omega
        · exact h1
        · rw [jsg_pos h1] at hc16; omega
      subst hu0
      rw [Int.zero_add] at hcap fin ⊢
      iterate 2 refine mj_T.pl rfl rfl rfl rfl ?_
      refine mj_T.call (ins := .invokevirtual 28) rfl rfl (Nat.le_of_ble_eq_true rfl) (Nat.le_of_ble_eq_true rfl) rfl rfl (jw_set (D := D) (s := jnl w.natAbs) (sg := jsg w) hn hm hw) (fun v h' hq' => ?_) (fun i h' hq' => by obtain ⟨_, _, hq'⟩ := hq'; cases hq')
      obtain ⟨g', hg', hq'⟩ := hq'
      cases hq'
      have e : min (jnl w.natAbs) n = jnl z.natAbs := by rw [hfw] at hcap ⊢; omega
      rw [e] at hg' ⊢
      iterate 4 refine mj_T.pl rfl rfl rfl rfl ?_
      exact fin g' _ (fun j hj => by rw [hg' j hj, hq j (by rw [hfw] at hj; exact hj), hfw]) ⟨by omega, by omega⟩ (fun _ => rfl)
  · simp only [jc, Bool.not_eq_false', decide_eq_true_eq] at hc8
    have hz : z = 0 := by
      rcases Int.lt_trichotomy z 0 with h1 | h1 | h1
      · rw [jsg_neg h1] at hc8; omega
      · exact h1
      · rw [jsg_pos h1] at hc8; omega
    subst hz
    rw [Int.add_zero]
    exact mj_T.ret rfl rfl rfl ⟨g, hg, rfl⟩
/-! Times and by a small number. -/
def jsc (x f i : Nat) : Nat := x % jB ^ i * f / jB ^ i
theorem jsc_zero (x f : Nat) : jsc x f 0 = 0 := by simp [jsc, Nat.mod_one]
theorem jsc_lt {x f i : Nat} (hf : 0 < f) : jsc x f i < f := by
  unfold jsc
  rw [Nat.div_lt_iff_lt_mul (jB_pow i), Nat.mul_comm f]
  exact Nat.mul_lt_mul_of_pos_right (Nat.mod_lt _ (jB_pow i)) hf
theorem jsc_div (x f i : Nat) : x * f / jB ^ i = x / jB ^ i * f + jsc x f i := by
  unfold jsc
  have h := jB_pow i
  have e : x * f = x % jB ^ i * f + jB ^ i * (x / jB ^ i * f) := by
    conv => lhs; rw [← Nat.div_add_mod x (jB ^ i)]
    rw [Nat.add_mul, Nat.mul_assoc, Nat.add_comm]
  conv => lhs; rw [e]
  rw [Nat.add_mul_div_left _ _ h, Nat.add_comm]
theorem jsc_limb (x f i : Nat) : jlb (x * f) i = (jlb x i * f + jsc x f i) % jB := by
  unfold jlb
  rw [jsc_div]
  generalize x / jB ^ i = a
  conv => lhs; rw [← Nat.div_add_mod a jB]
  rw [Nat.add_mul, Nat.mul_assoc, Nat.add_assoc, Nat.add_comm (jB * _), Nat.add_mul_mod_self_left]
theorem jsc_next (x f i : Nat) : jsc x f (i + 1) = (jlb x i * f + jsc x f i) / jB := by
  unfold jsc
  have h := jB_pow i
  rw [jmod, Nat.pow_succ, ← Nat.div_div_eq_div_mul]
  congr 1
  rw [Nat.add_mul, show jlb x i * jB ^ i * f = jB ^ i * (jlb x i * f) by rw [Nat.mul_comm (jlb x i), Nat.mul_assoc], Nat.add_comm, Nat.add_mul_div_left _ _ h, Nat.add_comm]
theorem jsc_grow {x f i : Nat} (hf : 0 < f) (h : i < jnl x ∨ 0 < jsc x f i) : i < jnl (x * f) := by
  rw [jnl_lt, jsc_div]
  rcases h with h | h
  · exact Nat.ne_of_gt (Nat.lt_of_lt_of_le (Nat.mul_pos (Nat.pos_of_ne_zero (jnl_lt.mp h)) hf) (Nat.le_add_right _ _))
  · exact Nat.ne_of_gt (Nat.lt_of_lt_of_le h (Nat.le_add_left _ _))
theorem jsc_end {x f i : Nat} (h1 : jnl x ≤ i) (h3 : jsc x f i = 0) : jnl (x * f) ≤ i := by
  rw [jnl_le, jsc_div, jnl_le.mp h1, h3, Nat.zero_mul]
/-- the heap of one Wide -/
abbrev jH1 (n : Nat) (s : Int) (g0 : Int32) (g : Nat → Int32) : mj_H := [.inr (8, [.ref 1, .int (jn s), .int g0]), .inl (0, n, fun j => .int (g j))]
theorem jw_scale_loop {D n x f : Nat} {g0 : Int32} {g : Nat → Int32} (hn : n < 2147483648) (hf : 0 < f) (hf2 : f ≤ 1000000000) (hcap : jnl (x * f) ≤ n) (hg : ∀ j, j < jnl x → g j = jn (jlb x j)) {Q : mj_R → Prop}
    (hend : ∀ (gi : Nat → Int32), (∀ j, j < jnl (x * f) → gi j = jn (jlb (x * f) j)) → Q (.inl none, jH1 n (jnl (x * f)) g0 gi)) :
    ∀ (d i : Nat) (gi : Nat → Int32) (l6 l7 : Option Value), i + d = n → i ≤ jnl (x * f) → (∀ j, j < i → gi j = jn (jlb (x * f) j)) → (∀ j, i ≤ j → gi j = g j) →
      mj_T D mj_m96 5 [some (.ref 0), some (.long (jl f)), none, some (.long (jl (jsc x f i))), none, some (.int (jn i)), l6, l7] [] (jH1 n ((max (jnl x) i : Nat) : Int) g0 gi) Q := by
  have hxn : jnl x ≤ jnl (x * f) := jnl_mono (Nat.le_mul_of_pos_right x hf)
  intro d
  induction d with
  | zero =>
    intro i gi l6 l7 hid hil hg1 hg2
    iterate 3 refine mj_T.pl rfl rfl rfl rfl ?_
    refine mj_T.alen rfl rfl ?_
    refine mj_T.icmp rfl ⟨by omega, by omega⟩ ⟨by omega, by omega⟩ (fun hc12 => ?_) (fun hc12 => ?_)
    · have e : i = jnl (x * f) := by omega
      subst e
      rw [show max (jnl x) (jnl (x * f)) = jnl (x * f) by omega]
      exact mj_T.ret rfl rfl rfl (hend gi hg1)
    · simp only [jc, decide_eq_false_iff_not] at hc12; omega
  | succ d ih =>
    intro i gi l6 l7 hid hil hg1 hg2
    have hcf := jsc_lt (x := x) (i := i) hf
    have hlim := jsc_limb x f i
    have hnx := jsc_next x f i
    have hx1 := jlb_lt x i
    iterate 3 refine mj_T.pl rfl rfl rfl rfl ?_
    refine mj_T.alen rfl rfl ?_
    refine mj_T.icmp rfl ⟨by omega, by omega⟩ ⟨by omega, by omega⟩ (fun hc12 => ?_) (fun hc12 => ?_)
    · simp only [jc, decide_eq_true_eq] at hc12; omega
    clear hc12
    have key : (i < jnl x ∨ 0 < jsc x f i) → mj_T D mj_m96 30 [some (.ref 0), some (.long (jl f)), none, some (.long (jl (jsc x f i))), none, some (.int (jn i)), l6, l7] [] (jH1 n ((max (jnl x) i : Nat) : Int) g0 gi) Q := by
      intro hgo
      have hnl := jsc_grow hf hgo
      have hpb : jlb x i * f ≤ 999999999 * 1000000000 := Nat.mul_le_mul (by omega) hf2
      have t4 : ∀ (gi' : Nat → Int32) (v l6' l7' : Option Value), v = some (.int (jn ((max (jnl x) (i + 1) : Nat) : Int))) → gi' = upd gi i (jn (jlb (x * f) i)) → mj_T D mj_m96 99 [some (.ref 0), some (.long (jl f)), none, some (.long (jl (jsc x f (i + 1)))), none, some (.int (jn i)), l6', l7'] (v.toList ++ [.ref 0]) (jH1 n ((max (jnl x) i : Nat) : Int) g0 gi') Q := by
        intro gi' v l6' l7' hv hgi
        subst hv
        subst hgi
        refine mj_T.pl rfl rfl rfl rfl ?_
        refine mj_T.iinc (a := i) rfl rfl ?_
        refine mj_T.pl rfl rfl rfl rfl ?_
        refine ih (i + 1) (upd gi i (jn (jlb (x * f) i))) l6' l7' (by omega) (by omega) (fun j hj => ?_) (fun j hj => ?_)
        · unfold upd
          split
          · rename_i h; rw [h]
          · exact hg1 j (by omega)
        · unfold upd
          rw [if_neg (by omega)]
          exact hg2 j (by omega)
      have t3 : ∀ p : Int, p = (jlb x i * f : Nat) → mj_T D mj_m96 53 [some (.ref 0), some (.long (jl f)), none, some (.long (jl (jsc x f i))), none, some (.int (jn i)), l6, l7] [.long (jl p)] (jH1 n ((max (jnl x) i : Nat) : Int) g0 gi) Q := by
        intro p hp
        subst hp
        refine mj_T.pl rfl rfl rfl rfl ?_
        refine mj_T.ladd rfl ?_
        rw [show ((jlb x i * f : Nat) : Int) + ((jsc x f i : Nat) : Int) = ((jlb x i * f + jsc x f i : Nat) : Int) by omega]
        iterate 6 refine mj_T.pl rfl rfl rfl rfl ?_
        refine mj_T.lrem (b := 1000000000) rfl ⟨by omega, by omega⟩ ⟨by omega, by omega⟩ (by omega) ?_
        rw [show ((jlb x i * f + jsc x f i : Nat) : Int).tmod 1000000000 = ((jlb (x * f) i : Nat) : Int) by rw [hlim]; rfl]
        refine mj_T.l2i rfl ?_
        refine mj_T.iast rfl rfl ⟨by omega, by omega⟩ ⟨by omega, by omega⟩ ?_
        iterate 2 refine mj_T.pl rfl rfl rfl rfl ?_
        refine mj_T.ldiv (b := 1000000000) rfl ⟨by omega, by omega⟩ ⟨by omega, by omega⟩ (by omega) ?_
        rw [show ((jlb x i * f + jsc x f i : Nat) : Int).tdiv 1000000000 = ((jsc x f (i + 1) : Nat) : Int) by rw [hnx]; rfl]
        iterate 5 refine mj_T.pl rfl rfl rfl rfl ?_
        refine mj_T.icmp rfl ⟨by omega, by omega⟩ ⟨by omega, by omega⟩ (fun hc85 => ?_) (fun hc85 => ?_)
        · simp only [jc, decide_eq_true_eq] at hc85
          iterate 2 refine mj_T.pl rfl rfl rfl rfl ?_
          exact t4 _ (some _) _ _ (by rw [show max (jnl x) (i + 1) = max (jnl x) i by omega]) rfl
        · simp only [jc, decide_eq_false_iff_not] at hc85
          iterate 2 refine mj_T.pl rfl rfl rfl rfl ?_
          refine mj_T.iadd (b := 1) rfl ?_
          refine mj_T.pl rfl rfl rfl rfl ?_
          exact t4 _ (some _) _ _ (by rw [show ((max (jnl x) (i + 1) : Nat) : Int) = (i : Int) + 1 by omega]) rfl
      iterate 3 refine mj_T.pl rfl rfl rfl rfl ?_
      refine mj_T.icmp rfl ⟨by omega, by omega⟩ ⟨by omega, by omega⟩ (fun hc36 => ?_) (fun hc36 => ?_)
      · simp only [jc, decide_eq_true_eq] at hc36
        refine mj_T.pl rfl rfl rfl rfl ?_
        exact t3 0 (by rw [jlb_high (show jnl x ≤ i by omega), Nat.zero_mul]; rfl)
      · simp only [jc, decide_eq_false_iff_not] at hc36
        iterate 3 refine mj_T.pl rfl rfl rfl rfl ?_
        by_cases hix : i < jnl x
        · refine mj_T.ialv rfl rfl ⟨by omega, by omega⟩ ⟨by omega, by omega⟩ ((hg2 i (Nat.le_refl i)).trans (hg i hix)) ?_
          refine mj_T.i2l rfl ⟨by omega, by omega⟩ ?_
          refine mj_T.pl rfl rfl rfl rfl ?_
          refine mj_T.lmul rfl ?_
          refine mj_T.pl rfl rfl rfl rfl ?_
          exact t3 _ (by rw [Int.natCast_mul])
        · omega
    iterate 3 refine mj_T.pl rfl rfl rfl rfl ?_
    refine mj_T.icmp rfl ⟨by omega, by omega⟩ ⟨by omega, by omega⟩ (fun hc21 => ?_) (fun hc21 => ?_)
    · simp only [jc, decide_eq_true_eq] at hc21
      exact key (by omega)
    · simp only [jc, decide_eq_false_iff_not] at hc21
      iterate 2 refine mj_T.pl rfl rfl rfl rfl ?_
      refine mj_T.lif (b := 0) rfl rfl ⟨by omega, by omega⟩ ⟨by omega, by omega⟩ (fun hc26 => ?_) (fun hc26 => ?_)
      · simp only [jc, decide_eq_true_eq] at hc26
        have e : i = jnl (x * f) := by have := jsc_end (x := x) (f := f) (i := i) (by omega) (by omega); omega
        subst e
        rw [show max (jnl x) (jnl (x * f)) = jnl (x * f) by omega]
        exact mj_T.ret rfl rfl rfl (hend gi hg1)
      · simp only [jc, decide_eq_false_iff_not] at hc26
        exact key (by omega)
theorem jw_scale {D n x f : Nat} {g0 : Int32} {g : Nat → Int32} (hn : n < 2147483648) (hf : 0 < f) (hf2 : f ≤ 1000000000) (hcap : jnl (x * f) ≤ n) (hg : ∀ j, j < jnl x → g j = jn (jlb x j)) :
    mj_Ok (D + 1) 96 [.ref 0, .long (jl f)] (jH1 n (jnl x) g0 g) (fun r => ∃ g' : Nat → Int32, (∀ j, j < jnl (x * f) → g' j = jn (jlb (x * f) j)) ∧ r = (.inl none, jH1 n (jnl (x * f)) g0 g')) := by
  refine mj_Ok.of (M := mj_m96) rfl rfl rfl ?_
  iterate 4 refine mj_T.pl rfl rfl rfl rfl ?_
  refine mj_T.eq (jw_scale_loop (x := x) (f := f) (g := g) hn hf hf2 hcap hg (fun gi hgi => ⟨gi, hgi, rfl⟩) n 0 g none none (by omega) (Nat.zero_le _) (fun j hj => by omega) (fun j _ => rfl)) rfl ?_ rfl ?_
  · rw [jsc_zero]; rfl
  · rw [Nat.max_eq_left (Nat.zero_le _)]
/-! Wide: cut. -/
theorem jcut_step (x f i : Nat) : x / jB ^ i = (x / jB ^ (i + 1) / f * jB) * f + (x / jB ^ (i + 1) % f * jB + jlb x i) := by
  conv => lhs; rw [jdiv x i, ← Nat.div_add_mod (x / jB ^ (i + 1)) f]
  rw [Nat.add_mul, Nat.add_assoc]
  congr 1
  simp only [Nat.mul_comm, Nat.mul_left_comm]
theorem jcut_limb {x f i : Nat} (hf : 0 < f) : jlb (x / f) i = (x / jB ^ (i + 1) % f * jB + jlb x i) / f := by
  have h1 : (x / jB ^ (i + 1) % f * jB + jlb x i) / f < jB := by
    rw [Nat.div_lt_iff_lt_mul hf]
    have h2 := Nat.mod_lt (x / jB ^ (i + 1)) hf
    have h3 : jlb x i < jB := jlb_lt x i
    exact Nat.lt_of_lt_of_le (Nat.add_lt_add_left h3 _) (by rw [Nat.mul_comm jB, ← Nat.succ_mul]; exact Nat.mul_le_mul_right _ h2)
  unfold jlb at h1 ⊢
  rw [Nat.div_div_eq_div_mul, Nat.mul_comm f, ← Nat.div_div_eq_div_mul]
  conv => lhs; rw [jcut_step x f i]
  rw [Nat.add_comm, Nat.add_mul_div_right _ _ hf, Nat.add_mul_mod_self_right]
  exact Nat.mod_eq_of_lt h1
theorem jcut_rest {x f i : Nat} (hf : 0 < f) : x / jB ^ i % f = (x / jB ^ (i + 1) % f * jB + jlb x i) % f := by
  conv => lhs; rw [jcut_step x f i]
  rw [Nat.add_comm, Nat.add_mul_mod_self_right]
/-- the limbs' number above k, if there is one -/
def jup (z k : Nat) : Nat := if k < jnl z then jnl z else 0
theorem jup_same {z k : Nat} (h : jup z (k + 1) ≠ 0 ∨ jlb z k = 0) : jup z k = jup z (k + 1) := by
  unfold jup at h ⊢
  by_cases h1 : k + 1 < jnl z
  · rw [if_pos h1, if_pos (by omega)]
  · rw [if_neg h1] at h ⊢
    rw [if_neg]
    intro h2
    rcases h with h | h
    · exact h rfl
    · exact jlb_top (x := z) (j := k) (by omega) h
theorem jup_new {z k : Nat} (h : jup z (k + 1) = 0) (hl : jlb z k ≠ 0) : jup z k = k + 1 := by
  unfold jup at h ⊢
  have h1 : ¬ k + 1 < jnl z := fun q => by rw [if_pos q] at h; omega
  have h2 : k < jnl z := Decidable.byContradiction fun q => hl (jlb_high (by omega))
  rw [if_pos h2]
  omega
theorem jup_zero (z : Nat) : jup z 0 = jnl z := by
  unfold jup
  split <;> omega
theorem jup_le (z k : Nat) : jup z k ≤ jnl z := by
  unfold jup
  split <;> omega
theorem jw_cut_loop {D n x f : Nat} {g0 : Int32} {g : Nat → Int32} (hn : n < 2147483648) (hf : 0 < f) (hf2 : f ≤ 1000000000) (hcap : jnl x ≤ n) (hg : ∀ j, j < jnl x → g j = jn (jlb x j)) {Q : mj_R → Prop}
    (hend : ∀ (gi : Nat → Int32) (l7 l8 : Option Value) (l6 : Int), (∀ j, j < jnl x → gi j = jn (jlb (x / f) j)) → mj_T D mj_m97 97 [some (.ref 0), some (.long (jl f)), none, some (.long (jl (x % f : Nat))), none, some (.int (jn (jnl (x / f)))), some (.int (jn l6)), l7, l8] [] (jH1 n (jnl x) g0 gi) Q) :
    ∀ (k : Nat) (v : Int) (gi : Nat → Int32) (l7 l8 : Option Value), v = (k : Int) - 1 → k ≤ jnl x → (∀ j, k ≤ j → j < jnl x → gi j = jn (jlb (x / f) j)) → (∀ j, j < k → gi j = g j) →
      mj_T D mj_m97 21 [some (.ref 0), some (.long (jl f)), none, some (.long (jl (x / jB ^ k % f : Nat))), none, some (.int (jn (jup (x / f) k))), some (.int (jn v)), l7, l8] [] (jH1 n (jnl x) g0 gi) Q := by
  intro k
  have hzx : jnl (x / f) ≤ jnl x := jnl_mono (Nat.div_le_self _ _)
  induction k with
  | zero =>
    intro v gi l7 l8 hv hk hg1 hg2
    refine mj_T.pl rfl rfl rfl rfl ?_
    refine mj_T.if0 rfl ⟨by omega, by omega⟩ (fun hc23 => ?_) (fun hc23 => ?_)
    · rw [jup_zero, Nat.pow_zero, Nat.div_one]
      exact hend gi l7 l8 v (fun j hj => hg1 j (Nat.zero_le _) hj)
    · simp only [jc, decide_eq_false_iff_not] at hc23; omega
  | succ k ih =>
    intro v gi l7 l8 hv hk hg1 hg2
    have ev : v = k := by omega
    subst ev
    have hx1 := jlb_lt x k
    have hz1 := jlb_lt (x / f) k
    have hr := Nat.mod_lt (x / jB ^ (k + 1)) hf
    have hlim := jcut_limb (x := x) (f := f) (i := k) hf
    have hrest := jcut_rest (x := x) (f := f) (i := k) hf
    have hul := jup_le (x / f) (k + 1)
    refine mj_T.pl rfl rfl rfl rfl ?_
    refine mj_T.if0 rfl ⟨by omega, by omega⟩ (fun hc23 => ?_) (fun hc23 => ?_)
    · simp only [jc, decide_eq_true_eq] at hc23; omega
    · iterate 2 refine mj_T.pl rfl rfl rfl rfl ?_
      refine mj_T.lif (b := 0) rfl rfl ⟨by omega, by omega⟩ ⟨by omega, by omega⟩ (fun hc28 => ?_) (fun hc28 => ?_)
      · simp only [jc, decide_eq_true_eq] at hc28; omega
      · have t3 : ∀ (gi' : Nat → Int32) (l7 l8 : Option Value), gi' = upd gi k (jn (jlb (x / f) k)) → mj_T D mj_m97 89 [some (.ref 0), some (.long (jl f)), none, some (.long (jl (x / jB ^ k % f : Nat))), none, some (.int (jn (jup (x / f) (k + 1)))), some (.int (jn k)), l7, l8] [.int (jn (jup (x / f) k))] (jH1 n (jnl x) g0 gi') Q := by
          intro gi' l7 l8 hgi
          subst hgi
          refine mj_T.pl rfl rfl rfl rfl ?_
          refine mj_T.iinc (a := k) rfl rfl ?_
          refine mj_T.pl rfl rfl rfl rfl ?_
          refine ih ((k : Int) + -1) (upd gi k (jn (jlb (x / f) k))) l7 l8 (by omega) (by omega) (fun j hj1 hj2 => ?_) (fun j hj => ?_)
          · unfold upd
            split
            · rename_i h; rw [h]
            · exact hg1 j (by omega) hj2
          · unfold upd
            rw [if_neg (by omega)]
            exact hg2 j (by omega)
        generalize hR : x / jB ^ (k + 1) % f = R at *
        have hlim : jlb (x / f) k = (R * 1000000000 + jlb x k) / f := hlim
        have hrest : x / jB ^ k % f = (R * 1000000000 + jlb x k) % f := hrest
        iterate 2 refine mj_T.pl rfl rfl rfl rfl ?_
        refine mj_T.lmul (b := 1000000000) rfl ?_
        iterate 3 refine mj_T.pl rfl rfl rfl rfl ?_
        refine mj_T.ialv rfl rfl ⟨by omega, by omega⟩ ⟨by omega, by omega⟩ ((hg2 k (by omega)).trans (hg k (by omega))) ?_
        refine mj_T.i2l rfl ⟨by omega, by omega⟩ ?_
        refine mj_T.ladd rfl ?_
        rw [show (R : Int) * 1000000000 + ((jlb x k : Nat) : Int) = ((R * 1000000000 + jlb x k : Nat) : Int) by rw [Int.natCast_add, Int.natCast_mul]; rfl]
        have hb2 : R * 1000000000 + jlb x k ≤ 1000000000000000000 := by omega
        iterate 6 refine mj_T.pl rfl rfl rfl rfl ?_
        refine mj_T.ldiv rfl ⟨by omega, by omega⟩ ⟨by omega, by omega⟩ (by omega) ?_
        rw [show ((R * 1000000000 + jlb x k : Nat) : Int).tdiv (f : Int) = ((jlb (x / f) k : Nat) : Int) by rw [hlim]; rfl]
        refine mj_T.l2i rfl ?_
        refine mj_T.iast rfl rfl ⟨by omega, by omega⟩ ⟨by omega, by omega⟩ ?_
        iterate 2 refine mj_T.pl rfl rfl rfl rfl ?_
        refine mj_T.lrem rfl ⟨by omega, by omega⟩ ⟨by omega, by omega⟩ (by omega) ?_
        rw [show ((R * 1000000000 + jlb x k : Nat) : Int).tmod (f : Int) = ((x / jB ^ k % f : Nat) : Int) by rw [hrest]; rfl]
        iterate 2 refine mj_T.pl rfl rfl rfl rfl ?_
        refine mj_T.if0 rfl ⟨by omega, by omega⟩ (fun hc67 => ?_) (fun hc67 => ?_)
        · simp only [jc, Bool.not_eq_true', decide_eq_false_iff_not] at hc67
          iterate 1 refine mj_T.pl rfl rfl rfl rfl ?_
          have e := jup_same (z := x / f) (k := k) (Or.inl (by omega))
          have t := t3 _ (some (.long (jl (R * 1000000000 + jlb x k : Nat)))) none rfl
          rw [e] at t
          exact t
        · simp only [jc, Bool.not_eq_false', decide_eq_true_eq] at hc67
          iterate 3 refine mj_T.pl rfl rfl rfl rfl ?_
          refine mj_T.ialv (z := (jlb (x / f) k : Nat)) rfl rfl ⟨by omega, by omega⟩ ⟨by omega, by omega⟩ (if_pos rfl) ?_
          refine mj_T.if0 rfl ⟨by omega, by omega⟩ (fun hc77 => ?_) (fun hc77 => ?_)
          · simp only [jc, decide_eq_true_eq] at hc77
            iterate 1 refine mj_T.pl rfl rfl rfl rfl ?_
            have e := jup_same (z := x / f) (k := k) (Or.inr (by omega))
            have t := t3 _ (some (.long (jl (R * 1000000000 + jlb x k : Nat)))) none rfl
            rw [e] at t
            exact t
          · simp only [jc, decide_eq_false_iff_not] at hc77
            iterate 2 refine mj_T.pl rfl rfl rfl rfl ?_
            refine mj_T.iadd (b := 1) rfl ?_
            refine mj_T.pl rfl rfl rfl rfl ?_
            have e := jup_new (z := x / f) (k := k) (by omega) (by omega)
            have t := t3 _ (some (.long (jl (R * 1000000000 + jlb x k : Nat)))) none rfl
            rw [e] at t
            exact t
theorem jw_cut {D n x f : Nat} {s : Int} {g : Nat → Int32} (hn : n < 2147483648) (hf : 0 < f) (hf2 : f ≤ 1000000000) (hcap : jnl x ≤ n) (hg : ∀ j, j < jnl x → g j = jn (jlb x j)) :
    mj_Ok (D + 1) 97 [.ref 0, .long (jl f)] (jH1 n (jnl x) (jn s) g) (fun r => ∃ g' : Nat → Int32, (∀ j, j < jnl x → g' j = jn (jlb (x / f) j)) ∧ r = (.inl none, jH1 n (jnl (x / f)) (jn (if x / f = 0 then 0 else s)) g')) := by
  have hzx : jnl (x / f) ≤ jnl x := jnl_mono (Nat.div_le_self _ _)
  refine mj_Ok.of (M := mj_m97) rfl rfl rfl ?_
  iterate 8 refine mj_T.pl rfl rfl rfl rfl ?_
  refine mj_T.alen rfl rfl ?_
  refine mj_T.imin rfl rfl (Nat.le_of_ble_eq_true rfl) ⟨by omega, by omega⟩ ⟨by omega, by omega⟩ ?_
  rw [show min (jnl x : Int) (n : Int) = (jnl x : Nat) by omega]
  iterate 1 refine mj_T.pl rfl rfl rfl rfl ?_
  refine mj_T.isub (b := 1) rfl ?_
  iterate 1 refine mj_T.pl rfl rfl rfl rfl ?_
  refine mj_T.eq (jw_cut_loop (x := x) (f := f) (g := g) hn hf hf2 hcap hg (fun gi l7 l8 l6 hgi => ?_) (jnl x) _ g none none rfl (Nat.le_refl _) (fun j hj1 hj2 => by omega) (fun j _ => rfl)) rfl ?_ rfl rfl
  · iterate 6 refine mj_T.pl rfl rfl rfl rfl ?_
    refine mj_T.if0 rfl ⟨by omega, by omega⟩ (fun hc108 => ?_) (fun hc108 => ?_)
    · simp only [jc, Bool.not_eq_true', decide_eq_false_iff_not] at hc108
      iterate 3 refine mj_T.pl rfl rfl rfl rfl ?_
      refine mj_T.ret rfl rfl rfl ⟨gi, hgi, ?_⟩
      rw [if_neg (fun h => hc108 (by rw [h]; exact congrArg Int.ofNat jnl_zero))]
      rfl
    · simp only [jc, Bool.not_eq_false', decide_eq_true_eq] at hc108
      have h0 : x / f = 0 := jnl_eq0.mp (by omega)
      iterate 3 refine mj_T.pl rfl rfl rfl rfl ?_
      refine mj_T.ret rfl rfl rfl ⟨gi, hgi, ?_⟩
      rw [if_pos h0]
      rfl
  · rw [jnl_le.mp (Nat.le_refl (jnl x)), Nat.zero_mod]
    rw [show jup (x / f) (jnl x) = 0 by unfold jup; rw [if_neg (by omega)]]
    rfl
/-! Products by limbs: the columns. -/
def jsm (f : Nat → Nat) : Nat → Nat
  | 0 => 0
  | n + 1 => jsm f n + f n
theorem jsm_head (f : Nat → Nat) : ∀ n, jsm f (n + 1) = f 0 + jsm (fun i => f (i + 1)) n
  | 0 => by simp [jsm]
  | n + 1 => by
    show jsm f (n + 1) + f (n + 1) = _
    rw [jsm_head f n]
    simp only [jsm]
    omega
theorem jsm_congr {f g : Nat → Nat} : ∀ {n : Nat}, (∀ i, i < n → f i = g i) → jsm f n = jsm g n
  | 0, _ => rfl
  | n + 1, h => by
    simp only [jsm]
    rw [jsm_congr (fun i hi => h i (by omega)), h n (by omega)]
theorem jsm_add (f g : Nat → Nat) : ∀ n, jsm (fun i => f i + g i) n = jsm f n + jsm g n
  | 0 => rfl
  | n + 1 => by simp only [jsm]; rw [jsm_add f g n]; omega
theorem jsm_mul (c : Nat) (f : Nat → Nat) : ∀ n, jsm (fun i => c * f i) n = c * jsm f n
  | 0 => rfl
  | n + 1 => by simp only [jsm]; rw [jsm_mul c f n, Nat.mul_add]
theorem jsm_flat {f : Nat → Nat} {lo : Nat} : ∀ {d : Nat}, (∀ i, lo ≤ i → i < lo + d → f i = 0) → jsm f (lo + d) = jsm f lo
  | 0, _ => rfl
  | d + 1, h => by
    show jsm f (lo + d) + f (lo + d) = _
    rw [h (lo + d) (by omega) (by omega), jsm_flat (fun i h1 h2 => h i h1 (by omega))]
    rfl
theorem jsm_flat' {f : Nat → Nat} {lo hi : Nat} (hl : lo ≤ hi) (h : ∀ i, lo ≤ i → i < hi → f i = 0) : jsm f hi = jsm f lo := by
  obtain ⟨d, rfl⟩ : ∃ d, hi = lo + d := ⟨hi - lo, by omega⟩
  exact jsm_flat h
theorem jsm_low (b : Nat) : ∀ k, jsm (fun j => jlb b j * jB ^ j) k = b % jB ^ k
  | 0 => by simp [jsm, Nat.mod_one]
  | k + 1 => by
    simp only [jsm]
    rw [jsm_low b k, jmod, Nat.add_comm]
theorem jlb_succ (a i : Nat) : jlb a (i + 1) = jlb (a / jB) i := by
  unfold jlb
  rw [Nat.pow_succ, Nat.mul_comm, ← Nat.div_div_eq_div_mul]
/-- a column -/
def jco (a b k : Nat) : Nat := jsm (fun i => jlb a i * jlb b (k - i)) (k + 1)
theorem jco_zero (a b : Nat) : jco a b 0 = jlb a 0 * jlb b 0 := by simp [jco, jsm]
theorem jco_succ (a b k : Nat) : jco a b (k + 1) = jlb a 0 * jlb b (k + 1) + jco (a / jB) b k := by
  unfold jco
  rw [jsm_head]
  congr 1
  apply jsm_congr
  intro i _
  rw [jlb_succ, Nat.add_sub_add_right]
def jP (a b k : Nat) : Nat := jsm (fun j => jco a b j * jB ^ j) k
theorem jP_rec (a b k : Nat) : jP a b (k + 1) = jlb a 0 * (b % jB ^ (k + 1)) + jB * jP (a / jB) b k := by
  unfold jP
  rw [← jsm_low b (k + 1), jsm_head (fun j => jco a b j * jB ^ j), jsm_head (fun j => jlb b j * jB ^ j), Nat.mul_add, jco_zero]
  simp only [Nat.pow_zero, Nat.mul_one]
  rw [Nat.add_assoc]
  congr 1
  rw [← jsm_mul, ← jsm_mul, ← jsm_add]
  apply jsm_congr
  intro i _
  rw [jco_succ, Nat.add_mul, Nat.pow_succ]
  congr 1
  · rw [Nat.mul_assoc]
  · simp only [Nat.mul_comm, Nat.mul_left_comm, Nat.mul_assoc]
theorem jlb_z (a : Nat) : jlb a 0 = a % jB := by simp [jlb]
theorem jP_mod : ∀ (k a b : Nat), jP a b k % jB ^ k = a * b % jB ^ k
  | 0, a, b => by simp [Nat.mod_one]
  | k + 1, a, b => by
    rw [jP_rec]
    have h1 := jP_mod k (a / jB) b
    have e1 : jB * jP (a / jB) b k % jB ^ (k + 1) = jB * (a / jB * b) % jB ^ (k + 1) := by
      rw [Nat.pow_succ, Nat.mul_comm (jB ^ k), Nat.mul_mod_mul_left, Nat.mul_mod_mul_left, h1]
    rw [Nat.add_mod, e1, Nat.mul_mod_mod, ← Nat.add_mod]
    congr 1
    conv => rhs; rw [← Nat.div_add_mod a jB]
    rw [jlb_z, Nat.add_mul, Nat.mul_assoc, Nat.add_comm]
/-- what is carried into a column -/
def jcc (a b k : Nat) : Nat := jP a b k / jB ^ k
theorem jcc_zero (a b : Nat) : jcc a b 0 = 0 := by simp [jcc, jP, jsm]
theorem jcc_div (a b k : Nat) : jP a b (k + 1) / jB ^ k = jcc a b k + jco a b k := by
  show (jP a b k + jco a b k * jB ^ k) / jB ^ k = _
  rw [Nat.add_mul_div_right _ _ (jB_pow k)]
  rfl
theorem jcc_next (a b k : Nat) : jcc a b (k + 1) = (jcc a b k + jco a b k) / jB := by
  rw [← jcc_div]
  unfold jcc
  rw [Nat.pow_succ, Nat.div_div_eq_div_mul]
theorem jcc_limb (a b k : Nat) : jlb (a * b) k = (jcc a b k + jco a b k) % jB := by
  have h1 : ∀ x, x % jB ^ (k + 1) / jB ^ k = x / jB ^ k % jB := by
    intro x
    rw [Nat.pow_succ, Nat.mod_mul_right_div_self]
  have h2 := jP_mod (k + 1) a b
  rw [← jcc_div]
  unfold jlb
  rw [← h1, ← h1, h2]
theorem jsm_le {f : Nat → Nat} {c : Nat} (h : ∀ i, f i ≤ c) : ∀ n, jsm f n ≤ n * c
  | 0 => by simp [jsm]
  | n + 1 => by
    have h1 := jsm_le h n
    have h2 := h n
    simp only [jsm]
    rw [Nat.add_mul]
    omega
theorem jmul_le (a b i j : Nat) : jlb a i * jlb b j ≤ 999999999 * 999999999 := Nat.mul_le_mul (by have := jlb_lt a i; omega) (by have := jlb_lt b j; omega)
theorem jcc_le (a b : Nat) : ∀ k, jcc a b k ≤ k * 1000000000
  | 0 => by rw [jcc_zero]; omega
  | k + 1 => by
    rw [jcc_next]
    have h1 := jcc_le a b k
    have h2 : jco a b k ≤ (k + 1) * (999999999 * 999999999) := jsm_le (fun i => jmul_le a b i (k - i)) (k + 1)
    exact Nat.div_le_of_le_mul (by show _ ≤ 1000000000 * _; omega)
theorem jnl_mul (a b : Nat) : jnl (a * b) ≤ jnl a + jnl b := by
  rw [jnl_le_lt, Nat.pow_add]
  by_cases h : a = 0
  · subst h; rw [Nat.zero_mul]; exact Nat.mul_pos (jB_pow _) (jB_pow _)
  · exact Nat.mul_lt_mul_of_lt_of_le (jnl_le_lt.mp (Nat.le_refl _)) (Nat.le_of_lt (jnl_le_lt.mp (Nat.le_refl _))) (jB_pow _)
/-! Wide: setProduct. -/
/-- the heap of three Wides -/
abbrev jH3 (n m1 m2 : Nat) (s s1 s2 : Int) (g0 : Int32) (t1 t2 : Int) (g q1 q2 : Nat → Int32) : mj_H := [.inr (8, [.ref 1, .int (jn s), .int g0]), .inl (0, n, fun j => .int (g j)), .inr (8, [.ref 3, .int (jn s1), .int (jn t1)]), .inl (0, m1, fun j => .int (q1 j)), .inr (8, [.ref 5, .int (jn s2), .int (jn t2)]), .inl (0, m2, fun j => .int (q2 j))]
abbrev jL3 (la lb cols : Int) (carry : Int) (k : Int) (l : List (Option Value)) : mj_L := some (.ref 0) :: some (.ref 2) :: some (.ref 4) :: some (.int (jn la)) :: some (.int (jn lb)) :: some (.int (jn cols)) :: some (.long (jl carry)) :: none :: some (.int (jn k)) :: l
theorem jw_prod_in {D n m1 m2 a b k : Nat} {s : Int} {g0 : Int32} {t1 t2 : Int} {g q1 q2 : Nat → Int32} (hn : n ≤ 1000) (hm1 : m1 ≤ 1000) (hm2 : m2 ≤ 1000) (ha : jnl a ≤ m1) (hb : jnl b ≤ m2) (hq1 : ∀ j, j < jnl a → q1 j = jn (jlb a j)) (hq2 : ∀ j, j < jnl b → q2 j = jn (jlb b j)) {cols : Nat} (hk : k < cols) (hcols : cols ≤ n) {last : Int} (hlast : last = min (k : Int) (jnl a - 1)) {Q : mj_R → Prop}
    (hend : ∀ (low cnt i : Nat), low + cnt * 8000000000000000000 = jcc a b k + jco a b k → cnt ≤ 1000 → low < 8000000000000000000 → mj_T D mj_m95 152 (jL3 (jnl a) (jnl b) cols (jcc a b k) k [some (.long (jl low)), none, some (.long (jl (cnt * 8000000000))), none, some (.int (jn last)), some (.int (jn i))]) [] (jH3 n m1 m2 s (jnl a) (jnl b) g0 t1 t2 g q1 q2) Q) :
    ∀ (d i low cnt : Nat), (d : Int) = last + 1 - i → (k + 1 ≤ i + jnl b) → i ≤ k + 1 → low + cnt * 8000000000000000000 = jcc a b k + jsm (fun i => jlb a i * jlb b (k - i)) i → cnt ≤ i → low < 8000000000000000000 →
      mj_T D mj_m95 89 (jL3 (jnl a) (jnl b) cols (jcc a b k) k [some (.long (jl low)), none, some (.long (jl (cnt * 8000000000))), none, some (.int (jn last)), some (.int (jn i))]) [] (jH3 n m1 m2 s (jnl a) (jnl b) g0 t1 t2 g q1 q2) Q := by
  intro d
  induction d with
  | zero =>
    intro i low cnt hd hib hik hlow hcnt hl8
    iterate 2 refine mj_T.pl rfl rfl rfl rfl ?_
    refine mj_T.icmp rfl ⟨by omega, by omega⟩ ⟨by omega, by omega⟩ (fun hc93 => ?_) (fun hc93 => ?_)
    · refine hend low cnt i ?_ (by omega) hl8
      rw [hlow]
      congr 1
      unfold jco
      symm
      refine jsm_flat' hik (fun j h1 h2 => ?_)
      rw [jlb_high (show jnl a ≤ j by omega), Nat.zero_mul]
    · simp only [jc, decide_eq_false_iff_not] at hc93; omega
  | succ d ih =>
    intro i low cnt hd hib hik hlow hcnt hl8
    have hp := jmul_le a b i (k - i)
    have hsm : jsm (fun i => jlb a i * jlb b (k - i)) (i + 1) = jsm (fun i => jlb a i * jlb b (k - i)) i + jlb a i * jlb b (k - i) := rfl
    have hx1 := jlb_lt a i
    have hy1 := jlb_lt b (k - i)
    generalize hS : jsm (fun i => jlb a i * jlb b (k - i)) i = S at *
    iterate 2 refine mj_T.pl rfl rfl rfl rfl ?_
    refine mj_T.icmp rfl ⟨by omega, by omega⟩ ⟨by omega, by omega⟩ (fun hc93 => ?_) (fun hc93 => ?_)
    · simp only [jc, decide_eq_true_eq] at hc93; omega
    · iterate 4 refine mj_T.pl rfl rfl rfl rfl ?_
      refine mj_T.ialv rfl rfl ⟨by omega, by omega⟩ ⟨by omega, by omega⟩ (hq1 i (by omega)) ?_
      refine mj_T.i2l rfl ⟨by omega, by omega⟩ ?_
      iterate 4 refine mj_T.pl rfl rfl rfl rfl ?_
      refine mj_T.isub rfl ?_
      rw [show (k : Int) - (i : Int) = ((k - i : Nat) : Int) by omega]
      refine mj_T.ialv rfl rfl ⟨by omega, by omega⟩ ⟨by omega, by omega⟩ (hq2 (k - i) (by omega)) ?_
      refine mj_T.i2l rfl ⟨by omega, by omega⟩ ?_
      refine mj_T.lmul rfl ?_
      refine mj_T.ladd rfl ?_
      rw [show (low : Int) + ((jlb a i : Nat) : Int) * ((jlb b (k - i) : Nat) : Int) = ((low + jlb a i * jlb b (k - i) : Nat) : Int) by rw [Int.natCast_add, Int.natCast_mul]]
      generalize hpp : jlb a i * jlb b (k - i) = p at *
      iterate 3 refine mj_T.pl rfl rfl rfl rfl ?_
      refine mj_T.lif (b := 8000000000000000000) rfl rfl ⟨by omega, by omega⟩ ⟨by omega, by omega⟩ (fun hc126 => ?_) (fun hc126 => ?_)
      · simp only [jc, decide_eq_true_eq] at hc126
        refine mj_T.iinc (a := i) rfl rfl ?_
        refine mj_T.pl rfl rfl rfl rfl ?_
        exact ih (i + 1) (low + p) cnt (by omega) (by omega) (by omega) (by omega) (by omega) (by omega)
      · simp only [jc, decide_eq_false_iff_not] at hc126
        iterate 2 refine mj_T.pl rfl rfl rfl rfl ?_
        refine mj_T.lsub (b := 8000000000000000000) rfl ?_
        iterate 3 refine mj_T.pl rfl rfl rfl rfl ?_
        refine mj_T.ladd (b := 8000000000) rfl ?_
        iterate 1 refine mj_T.pl rfl rfl rfl rfl ?_
        refine mj_T.iinc (a := i) rfl rfl ?_
        refine mj_T.pl rfl rfl rfl rfl ?_
        rw [show ((low + p : Nat) : Int) - 8000000000000000000 = ((low + p - 8000000000000000000 : Nat) : Int) by omega, show (cnt : Int) * 8000000000 + 8000000000 = ((cnt + 1 : Nat) : Int) * 8000000000 by omega]
        exact ih (i + 1) (low + p - 8000000000000000000) (cnt + 1) (by omega) (by omega) (by omega) (by omega) (by omega) (by omega)
theorem jw_prod_out {D n m1 m2 a b : Nat} {g0 : Int32} {t1 t2 : Int} {g q1 q2 : Nat → Int32} (hn : n ≤ 1000) (hm1 : m1 ≤ 1000) (hm2 : m2 ≤ 1000) (ha : jnl a ≤ m1) (hb : jnl b ≤ m2) (hq1 : ∀ j, j < jnl a → q1 j = jn (jlb a j)) (hq2 : ∀ j, j < jnl b → q2 j = jn (jlb b j)) {cols : Nat} (hcols : cols ≤ n) (hab : cols ≤ jnl a + jnl b) {Q : mj_R → Prop}
    (hend : ∀ (gi : Nat → Int32) (l : List (Option Value)), l.length = 6 → (∀ j, j < cols → gi j = jn (jlb (a * b) j)) → mj_T D mj_m95 208 (jL3 (jnl a) (jnl b) cols (jcc a b cols) cols l) [] (jH3 n m1 m2 (jnl (a * b % jB ^ cols)) (jnl a) (jnl b) g0 t1 t2 gi q1 q2) Q) :
    ∀ (d k : Nat) (gi : Nat → Int32) (l9 l10 l11 l12 l13 l14 : Option Value), k + d = cols → (∀ j, j < k → gi j = jn (jlb (a * b) j)) →
      mj_T D mj_m95 52 (jL3 (jnl a) (jnl b) cols (jcc a b k) k [l9, l10, l11, l12, l13, l14]) [] (jH3 n m1 m2 (jnl (a * b % jB ^ k)) (jnl a) (jnl b) g0 t1 t2 gi q1 q2) Q := by
  intro d
  induction d with
  | zero =>
    intro k gi l9 l10 l11 l12 l13 l14 hd hgi
    iterate 2 refine mj_T.pl rfl rfl rfl rfl ?_
    refine mj_T.icmp rfl ⟨by omega, by omega⟩ ⟨by omega, by omega⟩ (fun hc56 => ?_) (fun hc56 => ?_)
    · have e : k = cols := by omega
      subst e
      exact hend gi [l9, l10, l11, l12, l13, l14] rfl hgi
    · simp only [jc, decide_eq_false_iff_not] at hc56; omega
  | succ d ih =>
    intro k gi l9 l10 l11 l12 l13 l14 hd hgi
    have hcc := jcc_le a b k
    have hlim := jcc_limb a b k
    have hnx := jcc_next a b k
    have hz1 := jlb_lt (a * b) k
    have hml := jnl_mod_le (a * b) k
    iterate 2 refine mj_T.pl rfl rfl rfl rfl ?_
    refine mj_T.icmp rfl ⟨by omega, by omega⟩ ⟨by omega, by omega⟩ (fun hc56 => ?_) (fun hc56 => ?_)
    · simp only [jc, decide_eq_true_eq] at hc56; omega
    · iterate 7 refine mj_T.pl rfl rfl rfl rfl ?_
      refine mj_T.isub (b := 1) rfl ?_
      refine mj_T.imin rfl rfl (Nat.le_of_ble_eq_true rfl) ⟨by omega, by omega⟩ ⟨by omega, by omega⟩ ?_
      iterate 4 refine mj_T.pl rfl rfl rfl rfl ?_
      refine mj_T.isub rfl ?_
      refine mj_T.pl rfl rfl rfl rfl ?_
      refine mj_T.iadd (b := 1) rfl ?_
      refine mj_T.imax (a := 0) rfl rfl (Nat.le_of_ble_eq_true rfl) ⟨by omega, by omega⟩ ⟨by omega, by omega⟩ ?_
      rw [show max 0 ((k : Int) - (jnl b : Nat) + 1) = ((k + 1 - jnl b : Nat) : Int) by omega]
      refine mj_T.pl rfl rfl rfl rfl ?_
      refine jw_prod_in (a := a) (b := b) (k := k) hn hm1 hm2 ha hb hq1 hq2 (by omega) hcols rfl (fun low cnt i hT hcnt hl8 => ?_) ((min (k : Int) (jnl a - 1) + 1 - (k + 1 - jnl b : Nat)).toNat) (k + 1 - jnl b) (jcc a b k) 0 ?_ (by omega) (by omega) ?_ (Nat.zero_le _) (by omega)
      · rw [← hT] at hlim hnx
        have hlim2 : jlb (a * b) k = low % 1000000000 := by
          rw [hlim]
          show (low + cnt * 8000000000000000000) % 1000000000 = _
          omega
        have hnx2 : jcc a b (k + 1) = cnt * 8000000000 + low / 1000000000 := by
          rw [hnx]
          show (low + cnt * 8000000000000000000) / 1000000000 = _
          omega
        have t4 : ∀ (gi' : Nat → Int32) (v : Value) (l9 l10 l11 l12 l13 l14 : Option Value), v = .int (jn (jnl (a * b % jB ^ (k + 1)))) → gi' = upd gi k (jn (jlb (a * b) k)) → mj_T D mj_m95 199 (jL3 (jnl a) (jnl b) cols (jcc a b (k + 1)) k [l9, l10, l11, l12, l13, l14]) [v, .ref 0] (jH3 n m1 m2 (jnl (a * b % jB ^ k)) (jnl a) (jnl b) g0 t1 t2 gi' q1 q2) Q := by
          intro gi' v l9 l10 l11 l12 l13 l14 hv hgi'
          subst hv
          subst hgi'
          refine mj_T.pl rfl rfl rfl rfl ?_
          refine mj_T.iinc (a := k) rfl rfl ?_
          refine mj_T.pl rfl rfl rfl rfl ?_
          refine ih (k + 1) (upd gi k (jn (jlb (a * b) k))) l9 l10 l11 l12 l13 l14 (by omega) (fun j hj => ?_)
          unfold upd
          split
          · rename_i h; rw [h]
          · exact hgi j (by omega)
        iterate 3 refine mj_T.pl rfl rfl rfl rfl ?_
        refine mj_T.ldiv (b := 1000000000) rfl ⟨by omega, by omega⟩ ⟨by omega, by omega⟩ (by omega) ?_
        refine mj_T.ladd rfl ?_
        rw [show (cnt : Int) * 8000000000 + (low : Int).tdiv 1000000000 = ((jcc a b (k + 1) : Nat) : Int) by rw [hnx2, Int.natCast_add, Int.natCast_mul]; rfl]
        iterate 6 refine mj_T.pl rfl rfl rfl rfl ?_
        refine mj_T.lrem (b := 1000000000) rfl ⟨by omega, by omega⟩ ⟨by omega, by omega⟩ (by omega) ?_
        rw [show (low : Int).tmod 1000000000 = ((jlb (a * b) k : Nat) : Int) by rw [hlim2]; rfl]
        refine mj_T.l2i rfl ?_
        refine mj_T.iast rfl rfl ⟨by omega, by omega⟩ ⟨by omega, by omega⟩ ?_
        iterate 4 refine mj_T.pl rfl rfl rfl rfl ?_
        refine mj_T.ialv (z := (jlb (a * b) k : Nat)) rfl rfl ⟨by omega, by omega⟩ ⟨by omega, by omega⟩ (if_pos rfl) ?_
        refine mj_T.if0 rfl ⟨by omega, by omega⟩ (fun hc185 => ?_) (fun hc185 => ?_)
        · simp only [jc, decide_eq_true_eq] at hc185
          iterate 2 refine mj_T.pl rfl rfl rfl rfl ?_
          exact t4 _ _ _ _ _ _ _ _ (by rw [jnl_mod_same (by omega)]) rfl
        · simp only [jc, decide_eq_false_iff_not] at hc185
          iterate 2 refine mj_T.pl rfl rfl rfl rfl ?_
          refine mj_T.iadd (b := 1) rfl ?_
          refine mj_T.pl rfl rfl rfl rfl ?_
          exact t4 _ _ _ _ _ _ _ _ (by rw [jnl_mod_top (by omega)]; rfl) rfl
      · omega
      · rw [Nat.zero_mul, Nat.add_zero]
        have := jsm_flat' (f := fun i => jlb a i * jlb b (k - i)) (Nat.zero_le (k + 1 - jnl b)) (fun i _ h => by
          show jlb a i * jlb b (k - i) = 0
          rw [jlb_high (show jnl b ≤ k - i by omega), Nat.mul_zero])
        rw [this]
        rfl
theorem jw_setProduct {D n m1 m2 : Nat} {u w : Int} {s0 g0 : Int32} {g q1 q2 : Nat → Int32} (hn : n ≤ 1000) (hm1 : m1 ≤ 1000) (hm2 : m2 ≤ 1000) (ha : jnl u.natAbs ≤ m1) (hb : jnl w.natAbs ≤ m2) (hcap : jnl (u * w).natAbs ≤ n) (hq1 : ∀ j, j < jnl u.natAbs → q1 j = jn (jlb u.natAbs j)) (hq2 : ∀ j, j < jnl w.natAbs → q2 j = jn (jlb w.natAbs j)) :
    mj_Ok (D + 1) 95 [.ref 0, .ref 2, .ref 4] [.inr (8, [.ref 1, .int s0, .int g0]), .inl (0, n, fun j => .int (g j)), .inr (8, [.ref 3, .int (jn (jnl u.natAbs)), .int (jn (jsg u))]), .inl (0, m1, fun j => .int (q1 j)), .inr (8, [.ref 5, .int (jn (jnl w.natAbs)), .int (jn (jsg w))]), .inl (0, m2, fun j => .int (q2 j))]
      (fun r => ∃ g' : Nat → Int32, (∀ j, j < jnl (u * w).natAbs → g' j = jn (jlb (u * w).natAbs j)) ∧ r = (.inl none, jH3 n m1 m2 (jnl (u * w).natAbs) (jnl u.natAbs) (jnl w.natAbs) (jn (jsg (u * w))) (jsg u) (jsg w) g' q1 q2)) := by
  have hsu := jsg_range u
  have hsw := jsg_range w
  have huw : (u * w).natAbs = u.natAbs * w.natAbs := Int.natAbs_mul u w
  have hnm := jnl_mul u.natAbs w.natAbs
  have hss : jsg u * jsg w = jsg (u * w) := by
    unfold jsg
    rcases Int.lt_trichotomy u 0 with h1 | h1 | h1 <;> rcases Int.lt_trichotomy w 0 with h2 | h2 | h2
    · rw [if_pos h1, if_pos h2, if_neg (Int.not_lt.mpr (Int.le_of_lt (Int.mul_pos_of_neg_of_neg h1 h2))), if_pos (Int.mul_pos_of_neg_of_neg h1 h2)]; rfl
    · subst h2; simp
    · rw [if_pos h1, if_neg (by omega), if_pos h2, if_pos (Int.mul_neg_of_neg_of_pos h1 h2)]; rfl
    · subst h1; simp
    · subst h1; simp
    · subst h1; simp
    · rw [if_neg (by omega), if_pos h1, if_pos h2, if_pos (Int.mul_neg_of_pos_of_neg h1 h2)]; rfl
    · subst h2; simp
    · rw [if_neg (by omega), if_pos h1, if_neg (by omega), if_pos h2, if_neg (Int.not_lt.mpr (Int.le_of_lt (Int.mul_pos h1 h2))), if_pos (Int.mul_pos h1 h2)]; rfl
  rw [huw] at hcap ⊢
  refine mj_Ok.of (M := mj_m95) rfl rfl rfl ?_
  iterate 4 refine mj_T.pl rfl rfl rfl rfl ?_
  refine mj_T.alen rfl rfl ?_
  refine mj_T.imin rfl rfl (Nat.le_of_ble_eq_true rfl) ⟨by omega, by omega⟩ ⟨by omega, by omega⟩ ?_
  rw [show min (jnl u.natAbs : Int) (m1 : Int) = (jnl u.natAbs : Nat) by omega]
  iterate 5 refine mj_T.pl rfl rfl rfl rfl ?_
  refine mj_T.alen rfl rfl ?_
  refine mj_T.imin rfl rfl (Nat.le_of_ble_eq_true rfl) ⟨by omega, by omega⟩ ⟨by omega, by omega⟩ ?_
  rw [show min (jnl w.natAbs : Int) (m2 : Int) = (jnl w.natAbs : Nat) by omega]
  iterate 3 refine mj_T.pl rfl rfl rfl rfl ?_
  refine mj_T.iadd rfl ?_
  iterate 2 refine mj_T.pl rfl rfl rfl rfl ?_
  refine mj_T.alen rfl rfl ?_
  refine mj_T.imin rfl rfl (Nat.le_of_ble_eq_true rfl) ⟨by omega, by omega⟩ ⟨by omega, by omega⟩ ?_
  rw [show min ((jnl u.natAbs : Int) + (jnl w.natAbs : Int)) (n : Int) = ((min (jnl u.natAbs + jnl w.natAbs) n : Nat) : Int) by omega]
  iterate 8 refine mj_T.pl rfl rfl rfl rfl ?_
  have hz : jnl (u.natAbs * w.natAbs) ≤ min (jnl u.natAbs + jnl w.natAbs) n := by omega
  refine mj_T.eq (jw_prod_out (a := u.natAbs) (b := w.natAbs) (g := g) (g0 := g0) (t1 := jsg u) (t2 := jsg w) (cols := min (jnl u.natAbs + jnl w.natAbs) n) hn hm1 hm2 ha hb hq1 hq2 (by omega) (by omega) (fun gi l hl hgi => ?_) _ 0 g none none none none none none (Nat.zero_add _) (fun j hj => by omega)) rfl ?_ rfl ?_
  · rw [jmod_full hz]
    iterate 3 refine mj_T.pl rfl rfl rfl rfl ?_
    refine mj_T.if0 rfl ⟨by omega, by omega⟩ (fun hc213 => ?_) (fun hc213 => ?_)
    · iterate 4 refine mj_T.pl rfl rfl rfl rfl ?_
      refine mj_T.imul rfl ?_
      rw [hss]
      refine mj_T.pl rfl rfl rfl rfl ?_
      exact mj_T.ret rfl rfl rfl ⟨gi, fun j hj => hgi j (by omega), rfl⟩
    · simp only [jc, Bool.not_eq_false', decide_eq_true_eq] at hc213
      have h0 : u * w = 0 := by have := jnl_eq0 (x := u.natAbs * w.natAbs); omega
      iterate 3 refine mj_T.pl rfl rfl rfl rfl ?_
      refine mj_T.ret rfl rfl rfl ⟨gi, fun j hj => hgi j (by omega), ?_⟩
      rw [h0]
      rfl
  · rw [jcc_zero]; rfl
  · rw [show u.natAbs * w.natAbs % jB ^ 0 = 0 by simp [Nat.mod_one], jnl_zero]
    rfl
/-! Long division, one limb of the quotient (Knuth, Algorithm D): the guess out of the top limbs. -/
/-- the quotient of the tops is the quotient or one more -/
theorem jkn {U V u3 w u' v' P : Nat} (hP : 0 < P) (hU : U = u3 * P + u') (hu : u' < P) (hV : V = w * P + v') (hv : v' < P) (hw : jB * jB ≤ 2 * w) (hlt : U < V * jB) : U / V ≤ u3 / w ∧ u3 / w ≤ U / V + 1 := by
  have hw0 : 0 < w := by
    have : 0 < jB * jB := by decide
    omega
  have hV0 : 0 < V := by rw [hV]; exact Nat.lt_of_lt_of_le (Nat.mul_pos hw0 hP) (Nat.le_add_right _ _)
  constructor
  · rw [Nat.le_div_iff_mul_le hw0]
    have h1 : U / V * V ≤ U := Nat.div_mul_le_self U V
    have h2 : U / V * w * P ≤ U := by
      rw [Nat.mul_assoc]
      exact Nat.le_trans (Nat.mul_le_mul_left _ (by rw [hV]; exact Nat.le_add_right _ _)) h1
    have h3 : U / V * w * P < (u3 + 1) * P := by rw [Nat.succ_mul]; omega
    have := Nat.lt_of_mul_lt_mul_right h3
    omega
  · apply Decidable.byContradiction
    intro hn
    have hq : U / V + 2 ≤ u3 / w := by omega
    -- the guess is at most the base
    have h1 : u3 / w * w ≤ u3 := Nat.div_mul_le_self u3 w
    have h2 : u3 / w * w * P ≤ U := by
      rw [hU]
      exact Nat.le_trans (Nat.mul_le_mul_right P h1) (Nat.le_add_right _ _)
    have h3 : U < (U / V + 1) * V := by rw [Nat.mul_comm]; exact Nat.lt_mul_div_succ U hV0
    generalize hQ : u3 / w = Q at *
    generalize hq0 : U / V = q at *
    have hqB : q < jB := by rw [← hq0, Nat.div_lt_iff_lt_mul hV0, Nat.mul_comm]; exact hlt
    -- Q * w * P <= U < (q + 1) * V <= (Q - 1) * V = (Q - 1) * (w P + v')
    have h4 : Q * w * P < (Q - 1) * V := Nat.lt_of_lt_of_le (Nat.lt_of_le_of_lt h2 h3) (Nat.mul_le_mul_right V (by omega))
    rw [hV, Nat.mul_add] at h4
    have h5 : Q * w * P = (Q - 1) * (w * P) + w * P := by
      rw [Nat.mul_assoc, ← Nat.succ_mul]
      congr 1
      omega
    have h6 : w * P < (Q - 1) * v' := by omega
    have h7 : (Q - 1) * v' ≤ (Q - 1) * P := Nat.mul_le_mul_left _ (Nat.le_of_lt hv)
    have h8 : w < Q - 1 := Nat.lt_of_mul_lt_mul_right (Nat.lt_of_lt_of_le h6 h7)
    -- but Q * w * P < V * B < (w + 1) * P * B
    have h9 : Q * w * P < (w + 1) * jB * P := by
      refine Nat.lt_of_le_of_lt h2 (Nat.lt_of_lt_of_le hlt ?_)
      rw [Nat.mul_assoc, Nat.mul_comm jB P, ← Nat.mul_assoc]
      exact Nat.mul_le_mul_right jB (by rw [hV, Nat.succ_mul]; omega)
    have h10 : Q * w < (w + 1) * jB := Nat.lt_of_mul_lt_mul_right h9
    have h11 : w * w < (w + 1) * jB := Nat.lt_of_le_of_lt (Nat.mul_le_mul_right w (by omega)) h10
    have hwB : 2 * jB ≤ w := by
      have : 4 * jB ≤ jB * jB := Nat.mul_le_mul_right jB (by decide)
      omega
    have h12 : 2 * jB * w ≤ w * w := Nat.mul_le_mul_right w hwB
    have h13 : (w + 1) * jB = w * jB + jB := Nat.succ_mul w jB
    have h14 : 2 * jB * w = w * jB + w * jB := by rw [Nat.mul_assoc, Nat.two_mul, Nat.mul_comm]
    have h15 : jB ≤ w * jB := Nat.le_mul_of_pos_left jB hw0
    omega
/-- one correction more, or not -/
theorem jkg {t l v2 u2 G : Nat} (hl : 0 < l) : (G * v2 > (t - G * l) * jB + u2 ↔ G * (l * jB + v2) > t * jB + u2) ∨ t < G * l := by
  by_cases h : t < G * l
  · exact Or.inr h
  · refine Or.inl ?_
    have e : t * jB = (t - G * l) * jB + G * l * jB := by rw [← Nat.add_mul]; congr 1; omega
    rw [Nat.mul_add, ← Nat.mul_assoc, e]
    omega
/-- one round of the guess's correction -/
def jgs (l v2 u2 : Nat) (p : Nat × Nat) : Nat × Nat := if p.2 < jB ∧ (jB ≤ p.1 ∨ p.2 * jB + u2 < p.1 * v2) then (p.1 - 1, p.2 + l) else p
/-- what is known of a guess G with its rest: it isn't below q, and it is the greatest that goes into t, less k -/
def jgi (t l q : Nat) (p : Nat × Nat) (k : Nat) : Prop := p.1 * l + p.2 = t ∧ q ≤ p.1 ∧ p.1 + k = t / l
theorem jgs_step {t l v2 u2 q k : Nat} {p : Nat × Nat} (hq : q < jB) (hw : q * (l * jB + v2) ≤ t * jB + u2) (h : jgi t l q p k) (hc : p.2 < jB ∧ (jB ≤ p.1 ∨ p.2 * jB + u2 < p.1 * v2)) : jgi t l q (p.1 - 1, p.2 + l) (k + 1) ∧ q < p.1 := by
  obtain ⟨h1, h2, h3⟩ := h
  have hlt : q < p.1 := by
    apply Decidable.byContradiction
    intro hn
    have e : p.1 = q := by omega
    rcases hc.2 with h4 | h4
    · omega
    · rw [e] at h1 h4
      have h5 : t * jB = q * (l * jB) + p.2 * jB := by rw [← h1, Nat.add_mul, Nat.mul_assoc]
      rw [Nat.mul_add, h5] at hw
      omega
  refine ⟨⟨?_, by show q ≤ p.1 - 1; omega, by show p.1 - 1 + (k + 1) = t / l; omega⟩, hlt⟩
  show (p.1 - 1) * l + (p.2 + l) = t
  have : p.1 * l = (p.1 - 1) * l + l := by rw [← Nat.succ_mul]; congr 1; omega
  omega
theorem jguess {t l v2 u2 q : Nat} (hl : jB ≤ 2 * l) (hv2 : v2 < jB) (hu2 : u2 < jB) (ht : t < (l + 1) * jB) (hq : q < jB) (hq1 : q ≤ (t * jB + u2) / (l * jB + v2)) (hq2 : (t * jB + u2) / (l * jB + v2) ≤ q + 1) :
    q ≤ (jgs l v2 u2 (jgs l v2 u2 (t / l, t % l))).1 ∧ (jgs l v2 u2 (jgs l v2 u2 (t / l, t % l))).1 ≤ q + 1 := by
  have hl0 : 0 < l := by
    have : 0 < jB := by decide
    omega
  have hw0 : 0 < l * jB + v2 := Nat.lt_of_lt_of_le (Nat.mul_pos hl0 (by decide)) (Nat.le_add_right _ _)
  have hqw : q * (l * jB + v2) ≤ t * jB + u2 := (Nat.le_div_iff_mul_le hw0).mp hq1
  have hup : t * jB + u2 < (q + 2) * (l * jB + v2) := by
    have := Nat.lt_mul_div_succ (t * jB + u2) hw0
    refine Nat.lt_of_lt_of_le this ?_
    rw [Nat.mul_comm]
    exact Nat.mul_le_mul_right _ (by omega)
  -- a guess that isn't too great
  have hstop : ∀ p : Nat × Nat, ∀ k, jgi t l q p k → p.1 * v2 ≤ p.2 * jB + u2 → p.1 ≤ q + 1 := by
    intro p k hp h2
    apply Decidable.byContradiction
    intro hn
    have h3 : (q + 2) * (l * jB + v2) ≤ p.1 * (l * jB + v2) := Nat.mul_le_mul_right _ (by omega)
    have h4 : t * jB = p.1 * (l * jB) + p.2 * jB := by rw [← hp.1, Nat.add_mul, Nat.mul_assoc]
    rw [Nat.mul_add p.1] at h3
    omega
  have hG : t / l ≤ jB + 1 := by
    have h1 : t / l < jB + 2 := by
      rw [Nat.div_lt_iff_lt_mul hl0]
      refine Nat.lt_of_lt_of_le ht ?_
      rw [Nat.succ_mul, Nat.add_mul, Nat.mul_comm]
      omega
    omega
  have i0 : jgi t l q (t / l, t % l) 0 := by
    refine ⟨?_, ?_, rfl⟩
    · show t / l * l + t % l = t
      rw [Nat.mul_comm]
      exact Nat.div_add_mod t l
    · show q ≤ t / l
      rw [Nat.le_div_iff_mul_le hl0]
      have h1 : q * l * jB < (t + 1) * jB := by
        rw [Nat.succ_mul, Nat.mul_assoc]
        have : q * (l * jB) ≤ q * (l * jB + v2) := Nat.mul_le_mul_left _ (Nat.le_add_right _ _)
        omega
      have := Nat.lt_of_mul_lt_mul_right h1
      omega
  have hr0 : t % l < jB ∨ jB ≤ t % l := by omega
  -- what stands where no correction is made
  have hno : ∀ p : Nat × Nat, ∀ k, jgi t l q p k → (p.2 < jB ∨ p.1 ≤ jB) → ¬ (p.2 < jB ∧ (jB ≤ p.1 ∨ p.2 * jB + u2 < p.1 * v2)) → p.1 ≤ q + 1 := by
    intro p k hp h1 h2
    refine hstop p k hp ?_
    by_cases h3 : p.2 < jB
    · have : ¬ (p.2 * jB + u2 < p.1 * v2) := fun h => h2 ⟨h3, Or.inr h⟩
      omega
    · have h4 : p.1 ≤ jB := by omega
      have h5 : p.1 * v2 ≤ jB * jB := Nat.mul_le_mul h4 (Nat.le_of_lt hv2)
      have h6 : jB * jB ≤ p.2 * jB := Nat.mul_le_mul_right _ (by omega)
      omega
  have hlB : l ≤ jB ∨ jB < l := by omega
  unfold jgs
  by_cases c1 : (t / l, t % l).2 < jB ∧ (jB ≤ (t / l, t % l).1 ∨ (t / l, t % l).2 * jB + u2 < (t / l, t % l).1 * v2)
  · rw [if_pos c1]
    obtain ⟨i1, l1⟩ := jgs_step hq hqw i0 c1
    have hG1 : t / l - 1 ≤ jB := by omega
    by_cases c2 : (t / l - 1, t % l + l).2 < jB ∧ (jB ≤ (t / l - 1, t % l + l).1 ∨ (t / l - 1, t % l + l).2 * jB + u2 < (t / l - 1, t % l + l).1 * v2)
    · simp only at c1 c2 ⊢
      rw [if_pos c2]
      obtain ⟨i2, l2⟩ := jgs_step hq hqw i1 c2
      refine ⟨i2.2.1, ?_⟩
      -- two corrections are enough
      refine hstop _ _ i2 ?_
      show (t / l - 1 - 1) * v2 ≤ (t % l + l + l) * jB + u2
      have h5 : (t / l - 1 - 1) * v2 ≤ jB * jB := Nat.mul_le_mul (by omega) (Nat.le_of_lt hv2)
      have h6 : jB * jB ≤ (t % l + l + l) * jB := Nat.mul_le_mul_right _ (by omega)
      omega
    · simp only at c1 c2 ⊢
      rw [if_neg c2]
      exact ⟨i1.2.1, hno _ _ i1 (Or.inr hG1) c2⟩
  · rw [if_neg c1]
    have h7 : (t / l, t % l).2 < jB ∨ (t / l, t % l).1 ≤ jB := by
      rcases hr0 with h | h
      · exact Or.inl h
      · refine Or.inr ?_
        show t / l ≤ jB
        have hm := Nat.mod_lt t hl0
        have h8 : t / l < jB + 1 + 1 := by omega
        have h9 : t / l * l + t % l = t := by rw [Nat.mul_comm]; exact Nat.div_add_mod t l
        apply Decidable.byContradiction
        intro hn
        have h10 : (jB + 1) * l ≤ t / l * l := Nat.mul_le_mul_right _ (by omega)
        have h11 : (jB + 1) * l = l * jB + l := by rw [Nat.succ_mul, Nat.mul_comm]
        have h12 : (l + 1) * jB = l * jB + jB := Nat.succ_mul l jB
        omega
    rw [if_neg c1]
    exact ⟨i0.2.1, hno _ _ i0 h7 c1⟩
/-! Divisor: guess. -/
def jgn (l v2 u2 : Nat) : Nat → Nat × Nat → Nat × Nat
  | 0, p => p
  | d + 1, p => jgn l v2 u2 d (jgs l v2 u2 p)
theorem jgn_stop {l v2 u2 : Nat} {p : Nat × Nat} (h : ¬ p.2 < jB) : ∀ d, jgn l v2 u2 d p = p
  | 0 => rfl
  | d + 1 => by
    simp only [jgn]
    rw [show jgs l v2 u2 p = p by unfold jgs; rw [if_neg (fun q => h q.1)]]
    exact jgn_stop h d
/-- the heap of a Divisor and a Wide -/
abbrev jHD (nd m : Nat) (n sv : Int) (fac : Int) (s : Int) (s2 : Int) (gv gy : Nat → Int32) : mj_H := [.inr (2, [.ref 1, .int (jn n), .int (jn sv), .long (jl fac)]), .inl (0, nd, fun j => .int (gv j)), .inr (8, [.ref 3, .int (jn s), .int (jn s2)]), .inl (0, m, fun j => .int (gy j))]
theorem jw_guess_loop {D l v2 u2 : Nat} {top x8 x10 : Int} {h : mj_H} (hl : l < 1000000000) (hv2 : v2 < 1000000000) (hu2 : u2 < 1000000000) {Q : mj_R → Prop} :
    ∀ (d i : Nat) (p : Nat × Nat), i + d = 2 → p.1 + i ≤ 2000000002 → p.2 ≤ (i + 1) * 1000000000 → Q (.inl (some (.long (jl (jgn l v2 u2 d p).1))), h) →
      mj_T D mj_m32 174 [some (.ref 0), some (.ref 2), some (.int (jn top)), some (.ref 3), some (.long (jl l)), none, some (.long (jl v2)), none, some (.long (jl x8)), none, some (.long (jl x10)), none, some (.long (jl u2)), none, some (.long (jl p.1)), none, some (.long (jl p.2)), none, some (.int (jn i))] [] h Q := by
  intro d
  induction d with
  | zero =>
    intro i p hid hp1 hp2 hQ
    iterate 2 refine mj_T.pl rfl rfl rfl rfl ?_
    refine mj_T.icmp (b := 2) rfl ⟨by omega, by omega⟩ ⟨by omega, by omega⟩ (fun hc177 => ?_) (fun hc177 => ?_)
    · iterate 1 refine mj_T.pl rfl rfl rfl rfl ?_
      exact mj_T.ret rfl rfl rfl hQ
    · simp only [jc, decide_eq_false_iff_not] at hc177; omega
  | succ d ih =>
    intro i p hid hp1 hp2 hQ
    iterate 2 refine mj_T.pl rfl rfl rfl rfl ?_
    refine mj_T.icmp (b := 2) rfl ⟨by omega, by omega⟩ ⟨by omega, by omega⟩ (fun hc177 => ?_) (fun hc177 => ?_)
    · simp only [jc, decide_eq_true_eq] at hc177; omega
    · iterate 2 refine mj_T.pl rfl rfl rfl rfl ?_
      refine mj_T.lif (b := 1000000000) rfl rfl ⟨by omega, by omega⟩ ⟨by omega, by omega⟩ (fun hc185 => ?_) (fun hc185 => ?_)
      · simp only [jc, decide_eq_true_eq] at hc185
        rw [jgn_stop (show ¬ p.2 < jB by rw [show jB = 1000000000 from rfl]; omega)] at hQ
        iterate 1 refine mj_T.pl rfl rfl rfl rfl ?_
        exact mj_T.ret rfl rfl rfl hQ
      · simp only [jc, decide_eq_false_iff_not] at hc185
        have eB : jB = 1000000000 := rfl
        have yes : (jB ≤ p.1 ∨ p.2 * jB + u2 < p.1 * v2) → 0 < p.1 → mj_T D mj_m32 216 [some (.ref 0), some (.ref 2), some (.int (jn top)), some (.ref 3), some (.long (jl l)), none, some (.long (jl v2)), none, some (.long (jl x8)), none, some (.long (jl x10)), none, some (.long (jl u2)), none, some (.long (jl p.1)), none, some (.long (jl p.2)), none, some (.int (jn i))] [] h Q := by
          intro hc h0
          have e : jgs l v2 u2 p = (p.1 - 1, p.2 + l) := by
            unfold jgs
            exact if_pos ⟨by rw [eB]; omega, hc⟩
          simp only [jgn, e] at hQ
          iterate 2 refine mj_T.pl rfl rfl rfl rfl ?_
          refine mj_T.lsub (b := 1) rfl ?_
          iterate 3 refine mj_T.pl rfl rfl rfl rfl ?_
          refine mj_T.ladd rfl ?_
          iterate 1 refine mj_T.pl rfl rfl rfl rfl ?_
          refine mj_T.iinc (a := i) rfl rfl ?_
          refine mj_T.pl rfl rfl rfl rfl ?_
          have t := ih (i + 1) (p.1 - 1, p.2 + l) (by omega) (by show p.1 - 1 + (i + 1) ≤ _; omega) (by show p.2 + l ≤ _; omega) hQ
          rw [show (p.1 : Int) - 1 = ((p.1 - 1 : Nat) : Int) by omega]
          exact t
        iterate 2 refine mj_T.pl rfl rfl rfl rfl ?_
        refine mj_T.lif (b := 1000000000) rfl rfl ⟨by omega, by omega⟩ ⟨by omega, by omega⟩ (fun hc194 => ?_) (fun hc194 => ?_)
        · simp only [jc, decide_eq_true_eq] at hc194
          exact yes (Or.inl (by rw [eB]; omega)) (by omega)
        · simp only [jc, decide_eq_false_iff_not] at hc194
          have g2 : p.1 + (i + 1) ≤ 2000000002 := by omega
          have g3 : p.2 ≤ (i + 1 + 1) * 1000000000 := Nat.le_trans hp2 (Nat.mul_le_mul_right _ (Nat.le_succ _))
          have hpb : p.1 * v2 ≤ 999999999 * 999999999 := Nat.mul_le_mul (by omega) (by omega)
          iterate 2 refine mj_T.pl rfl rfl rfl rfl ?_
          refine mj_T.lmul rfl ?_
          rw [← Int.natCast_mul]
          iterate 2 refine mj_T.pl rfl rfl rfl rfl ?_
          refine mj_T.lmul (b := 1000000000) rfl ?_
          iterate 1 refine mj_T.pl rfl rfl rfl rfl ?_
          refine mj_T.ladd rfl ?_
          refine mj_T.lif rfl rfl ⟨by omega, by omega⟩ ⟨by omega, by omega⟩ (fun hc212 => ?_) (fun hc212 => ?_)
          · simp only [jc, decide_eq_true_eq] at hc212
            have e : jgs l v2 u2 p = p := by
              unfold jgs
              refine if_neg (fun q => ?_)
              have q2 := q.2
              rw [eB] at q2
              omega
            have hQ2 : Q (.inl (some (.long (jl (jgn l v2 u2 d p).1))), h) := by
              have t := hQ
              unfold jgn at t
              rw [e] at t
              exact t
            clear hQ hpb hc212 eB e
            refine mj_T.iinc (a := i) rfl rfl ?_
            refine mj_T.pl rfl rfl rfl rfl ?_
            have g1 : i + 1 + d = 2 := by omega
            exact ih (i + 1) p g1 g2 g3 hQ2
          · simp only [jc, decide_eq_false_iff_not] at hc212
            refine yes (Or.inr (by rw [eB]; omega)) ?_
            rcases Nat.eq_zero_or_pos p.1 with h0 | h0
            · rw [h0, Nat.zero_mul] at hc212; omega
            · exact h0
theorem jw_guess {D nd m S V Y top : Nat} {sv fac s2 : Int} {gv gy : Nat → Int32} (hnd : nd ≤ 1000) (hm : m ≤ 1000) (hV : 0 < V) (hnorm : 1000000000 ≤ 2 * jlb V (jnl V - 1)) (hVn : jnl V ≤ nd) (htop : jnl V ≤ top) (hS : top ≤ S) (hSm : S ≤ m) (hY : jnl Y ≤ S) (hgv : ∀ j, j < jnl V → gv j = jn (jlb V j)) (hgy : ∀ j, j < S → gy j = jn (jlb Y j)) :
    mj_Ok (D + 1) 32 [.ref 0, .ref 2, .int (jn top)] (jHD nd m (jnl V) sv fac S s2 gv gy)
      (fun r => r = (.inl (some (.long (jl (jgn (jlb V (jnl V - 1)) (if 1 < jnl V then jlb V (jnl V - 2) else 0) (if 1 < jnl V then jlb Y (top - 2) else 0) 2 ((jlb Y top * 1000000000 + jlb Y (top - 1)) / jlb V (jnl V - 1), (jlb Y top * 1000000000 + jlb Y (top - 1)) % jlb V (jnl V - 1))).1))), jHD nd m (jnl V) sv fac S s2 gv gy)) := by
  have hn1 : 1 ≤ jnl V := Nat.pos_of_ne_zero (fun h => by have := jnl_eq0.mp h; omega)
  have hl0 : jlb V (jnl V - 1) ≠ 0 := jlb_top (by omega)
  have hl1 := jlb_lt V (jnl V - 1)
  have hy1 := jlb_lt Y top
  have hy2 := jlb_lt Y (top - 1)
  have hy3 := jlb_lt Y (top - 2)
  have hv3 := jlb_lt V (jnl V - 2)
  have hgl := hgv (jnl V - 1) (by omega)
  refine mj_Ok.of (M := mj_m32) rfl rfl rfl ?_
  iterate 5 refine mj_T.pl rfl rfl rfl rfl ?_
  refine mj_T.icmp (b := 1) rfl ⟨by omega, by omega⟩ ⟨by omega, by omega⟩ (fun hc7 => ?_) (fun hc7 => ?_)
  · simp only [jc, decide_eq_true_eq] at hc7; omega
  clear hc7
  iterate 2 refine mj_T.pl rfl rfl rfl rfl ?_
  refine mj_T.alen rfl rfl ?_
  refine mj_T.icmp rfl ⟨by omega, by omega⟩ ⟨by omega, by omega⟩ (fun hc13 => ?_) (fun hc13 => ?_)
  · simp only [jc, decide_eq_true_eq] at hc13; omega
  clear hc13
  iterate 3 refine mj_T.pl rfl rfl rfl rfl ?_
  refine mj_T.icmp (b := 1) rfl ⟨by omega, by omega⟩ ⟨by omega, by omega⟩ (fun hc21 => ?_) (fun hc21 => ?_)
  · simp only [jc, decide_eq_true_eq] at hc21; omega
  clear hc21
  iterate 4 refine mj_T.pl rfl rfl rfl rfl ?_
  refine mj_T.alen rfl rfl ?_
  refine mj_T.icmp rfl ⟨by omega, by omega⟩ ⟨by omega, by omega⟩ (fun hc33 => ?_) (fun hc33 => ?_)
  · simp only [jc, decide_eq_true_eq] at hc33; omega
  clear hc33
  iterate 5 refine mj_T.pl rfl rfl rfl rfl ?_
  refine mj_T.isub (b := 1) rfl ?_
  rw [show (jnl V : Int) - 1 = ((jnl V - 1 : Nat) : Int) by omega]
  refine mj_T.ialv rfl rfl ⟨by omega, by omega⟩ ⟨by omega, by omega⟩ hgl ?_
  refine mj_T.pl rfl rfl rfl rfl ?_
  refine mj_T.icmp (b := 1) rfl ⟨by omega, by omega⟩ ⟨by omega, by omega⟩ (fun hc48 => ?_) (fun hc48 => ?_)
  rotate_left
  · simp only [jc, decide_eq_false_iff_not] at hc48; omega
  clear hc48
  iterate 5 refine mj_T.pl rfl rfl rfl rfl ?_
  refine mj_T.isub (b := 1) rfl ?_
  rw [show (jnl V : Int) - 1 = ((jnl V - 1 : Nat) : Int) by omega]
  refine mj_T.ialv rfl rfl ⟨by omega, by omega⟩ ⟨by omega, by omega⟩ hgl ?_
  refine mj_T.i2l rfl ⟨by omega, by omega⟩ ?_
  generalize hl : jlb V (jnl V - 1) = l at *
  -- what follows, once the divisor's second limb is known
  have k91 : ∀ v2 : Nat, v2 = (if 1 < jnl V then jlb V (jnl V - 2) else 0) → mj_T D mj_m32 91 [some (.ref 0), some (.ref 2), some (.int (jn top)), some (.ref 3), some (.long (jl l)), none, none, none, none, none, none, none, none, none, none, none, none, none, none] [.long (jl v2)] (jHD nd m (jnl V) sv fac S s2 gv gy)
      (fun r => r = (.inl (some (.long (jl (jgn l (if 1 < jnl V then jlb V (jnl V - 2) else 0) (if 1 < jnl V then jlb Y (top - 2) else 0) 2 ((jlb Y top * 1000000000 + jlb Y (top - 1)) / l, (jlb Y top * 1000000000 + jlb Y (top - 1)) % l)).1))), jHD nd m (jnl V) sv fac S s2 gv gy)) := by
    intro v2 hv2
    rw [← hv2]
    have hv2b : v2 < 1000000000 := by rw [hv2]; split <;> omega
    clear hv2
    have k115 : ∀ x8 : Nat, x8 = jlb Y top → mj_T D mj_m32 115 [some (.ref 0), some (.ref 2), some (.int (jn top)), some (.ref 3), some (.long (jl l)), none, some (.long (jl v2)), none, none, none, none, none, none, none, none, none, none, none, none] [.long (jl x8)] (jHD nd m (jnl V) sv fac S s2 gv gy)
        (fun r => r = (.inl (some (.long (jl (jgn l v2 (if 1 < jnl V then jlb Y (top - 2) else 0) 2 ((jlb Y top * 1000000000 + jlb Y (top - 1)) / l, (jlb Y top * 1000000000 + jlb Y (top - 1)) % l)).1))), jHD nd m (jnl V) sv fac S s2 gv gy)) := by
      intro x8 hx8
      subst hx8
      iterate 3 refine mj_T.pl rfl rfl rfl rfl ?_
      refine mj_T.lmul (b := 1000000000) rfl ?_
      iterate 3 refine mj_T.pl rfl rfl rfl rfl ?_
      refine mj_T.isub (b := 1) rfl ?_
      rw [show (top : Int) - 1 = ((top - 1 : Nat) : Int) by omega]
      refine mj_T.ialv rfl rfl ⟨by omega, by omega⟩ ⟨by omega, by omega⟩ (hgy (top - 1) (by omega)) ?_
      refine mj_T.i2l rfl ⟨by omega, by omega⟩ ?_
      refine mj_T.ladd rfl ?_
      rw [show ((jlb Y top : Nat) : Int) * 1000000000 + ((jlb Y (top - 1) : Nat) : Int) = ((jlb Y top * 1000000000 + jlb Y (top - 1) : Nat) : Int) by omega]
      generalize hT : jlb Y top * 1000000000 + jlb Y (top - 1) = T
      have hTb : T ≤ 1000000000000000000 := by omega
      have k155 : ∀ u2 : Nat, u2 = (if 1 < jnl V then jlb Y (top - 2) else 0) → mj_T D mj_m32 155 [some (.ref 0), some (.ref 2), some (.int (jn top)), some (.ref 3), some (.long (jl l)), none, some (.long (jl v2)), none, some (.long (jl (jlb Y top))), none, some (.long (jl T)), none, none, none, none, none, none, none, none] [.long (jl u2)] (jHD nd m (jnl V) sv fac S s2 gv gy)
          (fun r => r = (.inl (some (.long (jl (jgn l v2 (if 1 < jnl V then jlb Y (top - 2) else 0) 2 (T / l, T % l)).1))), jHD nd m (jnl V) sv fac S s2 gv gy)) := by
        intro u2 hu2
        rw [← hu2]
        have hu2b : u2 < 1000000000 := by rw [hu2]; split <;> omega
        clear hu2
        have hm1 := Nat.mod_lt T (show 0 < l by omega)
        iterate 3 refine mj_T.pl rfl rfl rfl rfl ?_
        refine mj_T.ldiv rfl ⟨by omega, by omega⟩ ⟨by omega, by omega⟩ (by omega) ?_
        iterate 3 refine mj_T.pl rfl rfl rfl rfl ?_
        refine mj_T.lrem rfl ⟨by omega, by omega⟩ ⟨by omega, by omega⟩ (by omega) ?_
        iterate 3 refine mj_T.pl rfl rfl rfl rfl ?_
        refine jw_guess_loop (l := l) (v2 := v2) (u2 := u2) (x8 := (jlb Y top : Nat)) (x10 := T) hl1 hv2b hu2b 2 0 (T / l, T % l) rfl ?_ (by show T % l ≤ _; omega) rfl
        have hd : T / l ≤ 2000000000 := Nat.div_le_of_le_mul (by omega)
        show T / l + 0 ≤ _
        omega
      iterate 4 refine mj_T.pl rfl rfl rfl rfl ?_
      refine mj_T.icmp (b := 1) rfl ⟨by omega, by omega⟩ ⟨by omega, by omega⟩ (fun hc137 => ?_) (fun hc137 => ?_)
      · simp only [jc, decide_eq_true_eq] at hc137
        refine mj_T.pl rfl rfl rfl rfl ?_
        exact k155 0 (by rw [if_neg (by omega)])
      · simp only [jc, decide_eq_false_iff_not] at hc137
        iterate 2 refine mj_T.pl rfl rfl rfl rfl ?_
        refine mj_T.icmp (b := 1) rfl ⟨by omega, by omega⟩ ⟨by omega, by omega⟩ (fun hc142 => ?_) (fun hc142 => ?_)
        · simp only [jc, decide_eq_true_eq] at hc142; omega
        · iterate 3 refine mj_T.pl rfl rfl rfl rfl ?_
          refine mj_T.isub (b := 2) rfl ?_
          rw [show (top : Int) - 2 = ((top - 2 : Nat) : Int) by omega]
          refine mj_T.ialv rfl rfl ⟨by omega, by omega⟩ ⟨by omega, by omega⟩ (hgy (top - 2) (by omega)) ?_
          refine mj_T.i2l rfl ⟨by omega, by omega⟩ ?_
          refine mj_T.pl rfl rfl rfl rfl ?_
          exact k155 _ (by rw [if_pos (by omega)])
    iterate 4 refine mj_T.pl rfl rfl rfl rfl ?_
    refine mj_T.icmp rfl ⟨by omega, by omega⟩ ⟨by omega, by omega⟩ (fun hc98 => ?_) (fun hc98 => ?_)
    · simp only [jc, decide_eq_true_eq] at hc98
      refine mj_T.pl rfl rfl rfl rfl ?_
      exact k115 0 (by rw [jlb_high (show jnl Y ≤ top by omega)])
    · simp only [jc, decide_eq_false_iff_not] at hc98
      iterate 2 refine mj_T.pl rfl rfl rfl rfl ?_
      refine mj_T.alen rfl rfl ?_
      refine mj_T.icmp rfl ⟨by omega, by omega⟩ ⟨by omega, by omega⟩ (fun hc104 => ?_) (fun hc104 => ?_)
      · simp only [jc, decide_eq_true_eq] at hc104; omega
      · iterate 2 refine mj_T.pl rfl rfl rfl rfl ?_
        refine mj_T.ialv rfl rfl ⟨by omega, by omega⟩ ⟨by omega, by omega⟩ (hgy top (by omega)) ?_
        refine mj_T.i2l rfl ⟨by omega, by omega⟩ ?_
        refine mj_T.pl rfl rfl rfl rfl ?_
        exact k115 _ rfl
  iterate 4 refine mj_T.pl rfl rfl rfl rfl ?_
  refine mj_T.icmp (b := 1) rfl ⟨by omega, by omega⟩ ⟨by omega, by omega⟩ (fun hc71 => ?_) (fun hc71 => ?_)
  · simp only [jc, decide_eq_true_eq] at hc71
    refine mj_T.pl rfl rfl rfl rfl ?_
    exact k91 0 (by rw [if_neg (by omega)])
  · simp only [jc, decide_eq_false_iff_not] at hc71
    iterate 5 refine mj_T.pl rfl rfl rfl rfl ?_
    refine mj_T.isub (b := 2) rfl ?_
    rw [show (jnl V : Int) - 2 = ((jnl V - 2 : Nat) : Int) by omega]
    refine mj_T.ialv rfl rfl ⟨by omega, by omega⟩ ⟨by omega, by omega⟩ (hgv (jnl V - 2) (by omega)) ?_
    refine mj_T.i2l rfl ⟨by omega, by omega⟩ ?_
    refine mj_T.pl rfl rfl rfl rfl ?_
    exact k91 _ (by rw [if_pos (by omega)])
/-! Divisor: takeAway. -/
/-- below limb i: so many times V is taken from U, the borrow is c, R stays -/
def jta (U V x i c R : Nat) : Prop := U % jB ^ i + c * jB ^ i = x * (V % jB ^ i) + R ∧ R < jB ^ i
theorem jta_zero (U V x : Nat) : jta U V x 0 0 0 := by simp [jta, Nat.mod_one]
theorem jta_le {U V x i c R : Nat} (h : jta U V x i c R) : c ≤ x := by
  have h1 := jB_pow i
  have h2 : x * (V % jB ^ i) ≤ x * jB ^ i := Nat.mul_le_mul_left x (Nat.le_of_lt (Nat.mod_lt _ h1))
  have h3 : c * jB ^ i < (x + 1) * jB ^ i := by
    rw [Nat.succ_mul]
    exact Nat.lt_of_le_of_lt (Nat.le_trans (Nat.le_add_left _ _) (Nat.le_of_eq h.1)) (Nat.add_lt_add_of_le_of_lt h2 h.2)
  have := Nat.lt_of_mul_lt_mul_right h3
  omega
theorem jta_next {U V x i c R c' r : Nat} (h : jta U V x i c R) (hr : r < jB) (e : jlb U i + c' * jB = x * jlb V i + c + r) : jta U V x (i + 1) c' (r * jB ^ i + R) := by
  obtain ⟨h1, h2⟩ := h
  constructor
  · rw [jmod, jmod, Nat.mul_add, Nat.pow_succ]
    have e2 : (jlb U i + c' * jB) * jB ^ i = (x * jlb V i + c + r) * jB ^ i := by rw [e]
    rw [Nat.add_mul, Nat.add_mul, Nat.add_mul] at e2
    rw [show c' * (jB ^ i * jB) = c' * jB * jB ^ i by rw [Nat.mul_comm (jB ^ i), Nat.mul_assoc], show x * (jlb V i * jB ^ i) = x * jlb V i * jB ^ i by rw [Nat.mul_assoc]]
    omega
  · rw [Nat.pow_succ, Nat.mul_comm (jB ^ i)]
    refine Nat.lt_of_lt_of_le (Nat.add_lt_add_left h2 _) ?_
    rw [← Nat.succ_mul]
    exact Nat.mul_le_mul_right _ hr
theorem jw_take_loop {D nd m S U V x place : Nat} {sv fac s2 : Int} {gv gy : Nat → Int32} (hnd : nd ≤ 1000) (hm : m ≤ 1000) (hVn : jnl V ≤ nd) (htop : place + jnl V ≤ S) (hSm : S ≤ m) (hx : x ≤ 1000000000) (hgv : ∀ j, j < jnl V → gv j = jn (jlb V j)) (hgy : ∀ j, j < jnl V → gy (place + j) = jn (jlb U j)) {Q : mj_R → Prop}
    (hend : ∀ (c R : Nat) (gi : Nat → Int32) (l10 l12 : Option Value), jta U V x (jnl V) c R → (∀ j, j < place → gi j = gy j) → (∀ j, j < jnl V → gi (place + j) = jn (jlb R j)) → (∀ j, place + jnl V ≤ j → gi j = gy j) →
      mj_T D mj_m33 123 [some (.ref 0), some (.ref 2), some (.int (jn place)), some (.long (jl x)), none, some (.ref 3), some (.int (jn (place + jnl V : Nat))), some (.long (jl c)), none, some (.int (jn (place + jnl V : Nat))), l10, none, l12, none] [] (jHD nd m (jnl V) sv fac S s2 gv gi) Q) :
    ∀ (d i c R : Nat) (gi : Nat → Int32) (l10 l12 : Option Value), i + d = jnl V → jta U V x i c R → (∀ j, j < place → gi j = gy j) → (∀ j, j < i → gi (place + j) = jn (jlb R j)) → (∀ j, place + i ≤ j → gi j = gy j) →
      mj_T D mj_m33 24 [some (.ref 0), some (.ref 2), some (.int (jn place)), some (.long (jl x)), none, some (.ref 3), some (.int (jn (place + jnl V : Nat))), some (.long (jl c)), none, some (.int (jn (place + i : Nat))), l10, none, l12, none] [] (jHD nd m (jnl V) sv fac S s2 gv gi) Q := by
  intro d
  induction d with
  | zero =>
    intro i c R gi l10 l12 hid hta hg1 hg2 hg3
    have ei : i = jnl V := by omega
    subst ei
    iterate 2 refine mj_T.pl rfl rfl rfl rfl ?_
    refine mj_T.icmp rfl ⟨by omega, by omega⟩ ⟨by omega, by omega⟩ (fun hc28 => ?_) (fun hc28 => ?_)
    · exact hend c R gi l10 l12 hta hg1 hg2 hg3
    · simp only [jc, decide_eq_false_iff_not] at hc28; omega
  | succ d ih =>
    intro i c R gi l10 l12 hid hta hg1 hg2 hg3
    have hcx := jta_le hta
    have hu1 := jlb_lt U i
    have hv1 := jlb_lt V i
    have hpb : x * jlb V i ≤ 1000000000 * 999999999 := Nat.mul_le_mul hx (by omega)
    iterate 2 refine mj_T.pl rfl rfl rfl rfl ?_
    refine mj_T.icmp rfl ⟨by omega, by omega⟩ ⟨by omega, by omega⟩ (fun hc28 => ?_) (fun hc28 => ?_)
    · simp only [jc, decide_eq_true_eq] at hc28; omega
    clear hc28
    iterate 2 refine mj_T.pl rfl rfl rfl rfl ?_
    refine mj_T.alen rfl rfl ?_
    refine mj_T.icmp rfl ⟨by omega, by omega⟩ ⟨by omega, by omega⟩ (fun hc36 => ?_) (fun hc36 => ?_)
    · simp only [jc, decide_eq_true_eq] at hc36; omega
    clear hc36
    iterate 5 refine mj_T.pl rfl rfl rfl rfl ?_
    refine mj_T.isub rfl ?_
    rw [show ((place + i : Nat) : Int) - (place : Int) = (i : Int) by omega]
    refine mj_T.ialv rfl rfl ⟨by omega, by omega⟩ ⟨by omega, by omega⟩ (hgv i (by omega)) ?_
    refine mj_T.i2l rfl ⟨by omega, by omega⟩ ?_
    refine mj_T.lmul rfl ?_
    refine mj_T.pl rfl rfl rfl rfl ?_
    refine mj_T.ladd rfl ?_
    rw [show (x : Int) * ((jlb V i : Nat) : Int) + (c : Int) = ((x * jlb V i + c : Nat) : Int) by rw [Int.natCast_add, Int.natCast_mul]]
    generalize hpp : x * jlb V i = p at *
    generalize htk : p + c = tk at *
    iterate 3 refine mj_T.pl rfl rfl rfl rfl ?_
    refine mj_T.ialv rfl rfl ⟨by omega, by omega⟩ ⟨by omega, by omega⟩ ((hg3 (place + i) (Nat.le_refl _)).trans (hgy i (by omega))) ?_
    refine mj_T.i2l rfl ⟨by omega, by omega⟩ ?_
    iterate 2 refine mj_T.pl rfl rfl rfl rfl ?_
    refine mj_T.lrem (b := 1000000000) rfl ⟨by omega, by omega⟩ ⟨by omega, by omega⟩ (by omega) ?_
    rw [show (tk : Int).tmod 1000000000 = ((tk % 1000000000 : Nat) : Int) from rfl]
    refine mj_T.lsub rfl ?_
    iterate 3 refine mj_T.pl rfl rfl rfl rfl ?_
    refine mj_T.ldiv (b := 1000000000) rfl ⟨by omega, by omega⟩ ⟨by omega, by omega⟩ (by omega) ?_
    rw [show (tk : Int).tdiv 1000000000 = ((tk / 1000000000 : Nat) : Int) from rfl]
    have hdm := Nat.div_add_mod tk 1000000000
    have hml := Nat.mod_lt tk (show 0 < 1000000000 by decide)
    -- what follows, once it is known whether the limb is below 0
    have k : ∀ b r : Nat, r < 1000000000 → (r : Int) = ((jlb U i : Nat) : Int) - ((tk % 1000000000 : Nat) : Int) + b * 1000000000 → (b = 0 ∨ b = 1) → mj_T D mj_m33 89 [some (.ref 0), some (.ref 2), some (.int (jn place)), some (.long (jl x)), none, some (.ref 3), some (.int (jn (place + jnl V : Nat))), some (.long (jl c)), none, some (.int (jn (place + i : Nat))), some (.long (jl tk)), none, some (.long (jl (((jlb U i : Nat) : Int) - ((tk % 1000000000 : Nat) : Int)))), none] [.int (jn b), .long (jl (tk / 1000000000 : Nat))] (jHD nd m (jnl V) sv fac S s2 gv gi) Q := by
      intro b r hr1 hr2 hb
      refine mj_T.i2l rfl ⟨by omega, by omega⟩ ?_
      refine mj_T.ladd rfl ?_
      rw [show ((tk / 1000000000 : Nat) : Int) + (b : Int) = ((tk / 1000000000 + b : Nat) : Int) by omega]
      have nx := jta_next (c' := tk / 1000000000 + b) (r := r) hta hr1 (by
        rw [show jB = 1000000000 from rfl, hpp]
        omega)
      have k2 : mj_T D mj_m33 115 [some (.ref 0), some (.ref 2), some (.int (jn place)), some (.long (jl x)), none, some (.ref 3), some (.int (jn (place + jnl V : Nat))), some (.long (jl (tk / 1000000000 + b : Nat))), none, some (.int (jn (place + i : Nat))), some (.long (jl tk)), none, some (.long (jl (((jlb U i : Nat) : Int) - ((tk % 1000000000 : Nat) : Int)))), none] [.long (jl r), .int (jn (place + i : Nat)), .ref 3] (jHD nd m (jnl V) sv fac S s2 gv gi) Q := by
        refine mj_T.l2i rfl ?_
        refine mj_T.iast rfl rfl ⟨by omega, by omega⟩ ⟨by omega, by omega⟩ ?_
        refine mj_T.iinc (a := (place + i : Nat)) rfl rfl ?_
        refine mj_T.pl rfl rfl rfl rfl ?_
        rw [show ((place + i : Nat) : Int) + 1 = ((place + (i + 1) : Nat) : Int) by omega]
        refine ih (i + 1) _ _ (upd gi (place + i) (jn r)) _ _ (by omega) nx (fun j hj => ?_) (fun j hj => ?_) (fun j hj => ?_)
        · unfold upd
          rw [if_neg (by omega)]
          exact hg1 j hj
        · unfold upd
          by_cases h : j = i
          · subst h
            rw [if_pos rfl, jlb_of hr1 hta.2]
          · rw [if_neg (by omega), jlb_low (by omega)]
            exact hg2 j (by omega)
        · unfold upd
          rw [if_neg (by omega)]
          exact hg3 j (by omega)
      iterate 5 refine mj_T.pl rfl rfl rfl rfl ?_
      refine mj_T.lif (b := 0) rfl rfl ⟨by omega, by omega⟩ ⟨by omega, by omega⟩ (fun hc99 => ?_) (fun hc99 => ?_)
      · simp only [jc, decide_eq_true_eq] at hc99
        refine mj_T.pl rfl rfl rfl rfl ?_
        have e : ((jlb U i : Nat) : Int) - ((tk % 1000000000 : Nat) : Int) = r := by omega
        refine mj_T.eq k2 rfl rfl ?_ rfl
        rw [← e]
      · simp only [jc, decide_eq_false_iff_not] at hc99
        iterate 2 refine mj_T.pl rfl rfl rfl rfl ?_
        refine mj_T.ladd (b := 1000000000) rfl ?_
        refine mj_T.pl rfl rfl rfl rfl ?_
        have e : ((jlb U i : Nat) : Int) - ((tk % 1000000000 : Nat) : Int) + 1000000000 = r := by omega
        refine mj_T.eq k2 rfl rfl ?_ rfl
        rw [← e]
    iterate 2 refine mj_T.pl rfl rfl rfl rfl ?_
    refine mj_T.lif (b := 0) rfl rfl ⟨by omega, by omega⟩ ⟨by omega, by omega⟩ (fun hc80 => ?_) (fun hc80 => ?_)
    · simp only [jc, decide_eq_true_eq] at hc80
      refine mj_T.pl rfl rfl rfl rfl ?_
      exact k 0 (jlb U i - tk % 1000000000) (by omega) (by omega) (Or.inl rfl)
    · simp only [jc, decide_eq_false_iff_not] at hc80
      iterate 2 refine mj_T.pl rfl rfl rfl rfl ?_
      exact k 1 (jlb U i + 1000000000 - tk % 1000000000) (by omega) (by omega) (Or.inr rfl)
theorem jw_takeAway {D nd m S U V x place h : Nat} {sv fac s2 : Int} {gv gy : Nat → Int32} (hnd : nd ≤ 1000) (hm : m ≤ 1000) (hVn : jnl V ≤ nd) (htop : place + jnl V ≤ S) (hSm : S ≤ m) (hx : x ≤ 1000000000) (hh : h < 1000000000) (hgv : ∀ j, j < jnl V → gv j = jn (jlb V j)) (hgy : ∀ j, j < jnl V → gy (place + j) = jn (jlb U j)) (hgt : place + jnl V < S → gy (place + jnl V) = jn h) (hgt2 : ¬ place + jnl V < S → h = 0) :
    mj_Ok (D + 1) 33 [.ref 0, .ref 2, .int (jn place), .long (jl x)] (jHD nd m (jnl V) sv fac S s2 gv gy)
      (fun r => ∃ (c R : Nat) (gi : Nat → Int32), jta U V x (jnl V) c R ∧ (∀ j, j < place → gi j = gy j) ∧ (∀ j, j < jnl V → gi (place + j) = jn (jlb R j)) ∧ (place + jnl V < S → gi (place + jnl V) = jn 0) ∧ (∀ j, place + jnl V < j → gi j = gy j) ∧ r = (.inl (some (.int (jn (if c ≤ h then 1 else 0)))), jHD nd m (jnl V) sv fac S s2 gv gi)) := by
  refine mj_Ok.of (M := mj_m33) rfl rfl rfl ?_
  iterate 6 refine mj_T.pl rfl rfl rfl rfl ?_
  refine mj_T.iadd rfl ?_
  rw [show (place : Int) + (jnl V : Nat) = ((place + jnl V : Nat) : Int) by omega]
  iterate 5 refine mj_T.pl rfl rfl rfl rfl ?_
  refine mj_T.imax (b := 0) rfl rfl (Nat.le_of_ble_eq_true rfl) ⟨by omega, by omega⟩ ⟨by omega, by omega⟩ ?_
  rw [show max (place : Int) 0 = ((place + 0 : Nat) : Int) by omega]
  refine mj_T.pl rfl rfl rfl rfl ?_
  refine jw_take_loop (U := U) (V := V) (x := x) (gy := gy) hnd hm hVn htop hSm hx hgv hgy (fun c R gi l10 l12 hta hg1 hg2 hg3 => ?_) (jnl V) 0 0 0 gy none none (by omega) (jta_zero U V x) (fun j _ => rfl) (fun j hj => by omega) (fun j _ => rfl)
  have hcx := jta_le hta
  iterate 1 refine mj_T.pl rfl rfl rfl rfl ?_
  refine mj_T.if0 rfl ⟨by omega, by omega⟩ (fun hc125 => ?_) (fun hc125 => ?_)
  · simp only [jc, decide_eq_true_eq] at hc125; omega
  iterate 3 refine mj_T.pl rfl rfl rfl rfl ?_
  refine mj_T.icmp rfl ⟨by omega, by omega⟩ ⟨by omega, by omega⟩ (fun hc134 => ?_) (fun hc134 => ?_)
  · simp only [jc, decide_eq_true_eq] at hc134
    have h0 := hgt2 (by omega)
    subst h0
    iterate 2 refine mj_T.pl rfl rfl rfl rfl ?_
    refine mj_T.lif (b := 0) rfl rfl ⟨by omega, by omega⟩ ⟨by omega, by omega⟩ (fun hc147 => ?_) (fun hc147 => ?_)
    · simp only [jc, Bool.not_eq_true', decide_eq_false_iff_not] at hc147
      iterate 1 refine mj_T.pl rfl rfl rfl rfl ?_
      refine mj_T.ret rfl rfl rfl ⟨c, R, gi, hta, hg1, hg2, fun h => by omega, fun j hj => hg3 j (by omega), ?_⟩
      rw [if_neg (by omega)]
    · simp only [jc, Bool.not_eq_false', decide_eq_true_eq] at hc147
      iterate 2 refine mj_T.pl rfl rfl rfl rfl ?_
      refine mj_T.ret rfl rfl rfl ⟨c, R, gi, hta, hg1, hg2, fun h => by omega, fun j hj => hg3 j (by omega), ?_⟩
      rw [if_pos (by omega)]
  · simp only [jc, decide_eq_false_iff_not] at hc134
    have hlt : place + jnl V < S := by omega
    iterate 2 refine mj_T.pl rfl rfl rfl rfl ?_
    refine mj_T.alen rfl rfl ?_
    refine mj_T.icmp rfl ⟨by omega, by omega⟩ ⟨by omega, by omega⟩ (fun hc142 => ?_) (fun hc142 => ?_)
    rotate_left
    · simp only [jc, decide_eq_false_iff_not] at hc142; omega
    have k : ∀ b : Int, b = (if c ≤ h then 1 else 0) → mj_T D mj_m33 175 [some (.ref 0), some (.ref 2), some (.int (jn place)), some (.long (jl x)), none, some (.ref 3), some (.int (jn (place + jnl V : Nat))), some (.long (jl c)), none, some (.int (jn (place + jnl V : Nat))), l10, none, l12, none] [.int (jn b)] (jHD nd m (jnl V) sv fac S s2 gv gi)
        (fun r => ∃ (c R : Nat) (gi : Nat → Int32), jta U V x (jnl V) c R ∧ (∀ j, j < place → gi j = gy j) ∧ (∀ j, j < jnl V → gi (place + j) = jn (jlb R j)) ∧ (place + jnl V < S → gi (place + jnl V) = jn 0) ∧ (∀ j, place + jnl V < j → gi j = gy j) ∧ r = (.inl (some (.int (jn (if c ≤ h then 1 else 0)))), jHD nd m (jnl V) sv fac S s2 gv gi)) := by
      intro b hb
      subst hb
      iterate 4 refine mj_T.pl rfl rfl rfl rfl ?_
      refine mj_T.iast rfl rfl ⟨by omega, by omega⟩ ⟨by omega, by omega⟩ ?_
      iterate 1 refine mj_T.pl rfl rfl rfl rfl ?_
      refine mj_T.ret rfl rfl (v := some (.int (jn (if c ≤ h then 1 else 0)))) ?_ ⟨c, R, upd gi (place + jnl V) (jn 0), hta, fun j hj => ?_, fun j hj => ?_, fun _ => ?_, fun j hj => ?_, rfl⟩
      · by_cases hch : c ≤ h
        · rw [if_pos hch]; rfl
        · rw [if_neg hch]; rfl
      · unfold upd; rw [if_neg (by omega)]; exact hg1 j hj
      · unfold upd; rw [if_neg (by omega)]; exact hg2 j hj
      · unfold upd; rw [if_pos rfl]
      · unfold upd; rw [if_neg (by omega)]; exact hg3 j (by omega)
    iterate 2 refine mj_T.pl rfl rfl rfl rfl ?_
    refine mj_T.ialv rfl rfl ⟨by omega, by omega⟩ ⟨by omega, by omega⟩ ((hg3 (place + jnl V) (Nat.le_refl _)).trans (hgt hlt)) ?_
    refine mj_T.i2l rfl ⟨by omega, by omega⟩ ?_
    refine mj_T.pl rfl rfl rfl rfl ?_
    refine mj_T.lif rfl rfl ⟨by omega, by omega⟩ ⟨by omega, by omega⟩ (fun hc166 => ?_) (fun hc166 => ?_)
    · simp only [jc, decide_eq_true_eq] at hc166
      iterate 1 refine mj_T.pl rfl rfl rfl rfl ?_
      exact k 0 (by rw [if_neg (by omega)])
    · simp only [jc, decide_eq_false_iff_not] at hc166
      iterate 2 refine mj_T.pl rfl rfl rfl rfl ?_
      exact k 1 (by rw [if_pos (by omega)])
/-! Divisor: putBack. -/
theorem jw_back_loop {D nd m S V R place : Nat} {sv fac s2 : Int} {gv gy : Nat → Int32} (hnd : nd ≤ 1000) (hm : m ≤ 1000) (hVn : jnl V ≤ nd) (htop : place + jnl V ≤ m) (hgv : ∀ j, j < jnl V → gv j = jn (jlb V j)) (hgy : ∀ j, j < jnl V → gy (place + j) = jn (jlb R j)) {Q : mj_R → Prop}
    (hend : ∀ (gi : Nat → Int32), (∀ j, j < place → gi j = gy j) → (∀ j, j < jnl V → gi (place + j) = jn (jlb (R + V) j)) → (∀ j, place + jnl V ≤ j → gi j = gy j) → Q (.inl none, jHD nd m (jnl V) sv fac S s2 gv gi)) :
    ∀ (d i : Nat) (gi : Nat → Int32) (l6 : Option Value), i + d = jnl V → (∀ j, j < place → gi j = gy j) → (∀ j, j < i → gi (place + j) = jn (jlb (R + V) j)) → (∀ j, place + i ≤ j → gi j = gy j) →
      mj_T D mj_m34 15 [some (.ref 0), some (.ref 2), some (.int (jn place)), some (.ref 3), some (.int (jn (jcy R V i))), some (.int (jn (place + i : Nat))), l6] [] (jHD nd m (jnl V) sv fac S s2 gv gi) Q := by
  intro d
  induction d with
  | zero =>
    intro i gi l6 hid hg1 hg2 hg3
    have ei : i = jnl V := by omega
    subst ei
    iterate 4 refine mj_T.pl rfl rfl rfl rfl ?_
    refine mj_T.iadd rfl ?_
    refine mj_T.icmp rfl ⟨by omega, by omega⟩ ⟨by omega, by omega⟩ (fun hc23 => ?_) (fun hc23 => ?_)
    · exact mj_T.ret rfl rfl rfl (hend gi hg1 hg2 hg3)
    · simp only [jc, decide_eq_false_iff_not] at hc23; omega
  | succ d ih =>
    intro i gi l6 hid hg1 hg2 hg3
    have hcx := jcy_le R V i
    have hcx2 := jcy_le R V (i + 1)
    have hu1 := jlb_lt R i
    have hv1 := jlb_lt V i
    have hz1 := jlb_lt (R + V) i
    have hlim : jlb (R + V) i = (jlb R i + jlb V i + jcy R V i) % 1000000000 := jcy_limb R V i
    have hnx : jcy R V (i + 1) = (jlb R i + jlb V i + jcy R V i) / 1000000000 := jcy_next R V i
    iterate 4 refine mj_T.pl rfl rfl rfl rfl ?_
    refine mj_T.iadd rfl ?_
    refine mj_T.icmp rfl ⟨by omega, by omega⟩ ⟨by omega, by omega⟩ (fun hc23 => ?_) (fun hc23 => ?_)
    · simp only [jc, decide_eq_true_eq] at hc23; omega
    clear hc23
    iterate 2 refine mj_T.pl rfl rfl rfl rfl ?_
    refine mj_T.alen rfl rfl ?_
    refine mj_T.icmp rfl ⟨by omega, by omega⟩ ⟨by omega, by omega⟩ (fun hc30 => ?_) (fun hc30 => ?_)
    · simp only [jc, decide_eq_true_eq] at hc30; omega
    clear hc30
    iterate 2 refine mj_T.pl rfl rfl rfl rfl ?_
    refine mj_T.ialv rfl rfl ⟨by omega, by omega⟩ ⟨by omega, by omega⟩ ((hg3 (place + i) (Nat.le_refl _)).trans (hgy i (by omega))) ?_
    iterate 4 refine mj_T.pl rfl rfl rfl rfl ?_
    refine mj_T.isub rfl ?_
    rw [show ((place + i : Nat) : Int) - (place : Int) = (i : Int) by omega]
    refine mj_T.ialv rfl rfl ⟨by omega, by omega⟩ ⟨by omega, by omega⟩ (hgv i (by omega)) ?_
    refine mj_T.iadd rfl ?_
    refine mj_T.pl rfl rfl rfl rfl ?_
    refine mj_T.iadd rfl ?_
    iterate 3 refine mj_T.pl rfl rfl rfl rfl ?_
    have k : ∀ b : Int, b = (jcy R V (i + 1) : Nat) → mj_T D mj_m34 64 [some (.ref 0), some (.ref 2), some (.int (jn place)), some (.ref 3), some (.int (jn (jcy R V i))), some (.int (jn (place + i : Nat))), some (.int (jn (((jlb R i : Nat) : Int) + ((jlb V i : Nat) : Int) + ((jcy R V i : Nat) : Int))))] [.int (jn b)] (jHD nd m (jnl V) sv fac S s2 gv gi) Q := by
      intro b hb
      subst hb
      iterate 6 refine mj_T.pl rfl rfl rfl rfl ?_
      refine mj_T.imul (b := 1000000000) rfl ?_
      refine mj_T.isub rfl ?_
      rw [show ((jlb R i : Nat) : Int) + ((jlb V i : Nat) : Int) + ((jcy R V i : Nat) : Int) - ((jcy R V (i + 1) : Nat) : Int) * 1000000000 = ((jlb (R + V) i : Nat) : Int) by omega]
      refine mj_T.iast rfl rfl ⟨by omega, by omega⟩ ⟨by omega, by omega⟩ ?_
      refine mj_T.iinc (a := (place + i : Nat)) rfl rfl ?_
      refine mj_T.pl rfl rfl rfl rfl ?_
      rw [show ((place + i : Nat) : Int) + 1 = ((place + (i + 1) : Nat) : Int) by omega]
      refine ih (i + 1) (upd gi (place + i) (jn (jlb (R + V) i))) _ (by omega) (fun j hj => ?_) (fun j hj => ?_) (fun j hj => ?_)
      · unfold upd
        rw [if_neg (by omega)]
        exact hg1 j hj
      · unfold upd
        by_cases h : j = i
        · subst h
          rw [if_pos rfl]
        · rw [if_neg (by omega)]
          exact hg2 j (by omega)
      · unfold upd
        rw [if_neg (by omega)]
        exact hg3 j (by omega)
    refine mj_T.icmp (b := 1000000000) rfl ⟨by omega, by omega⟩ ⟨by omega, by omega⟩ (fun hc56 => ?_) (fun hc56 => ?_)
    · simp only [jc, decide_eq_true_eq] at hc56
      refine mj_T.pl rfl rfl rfl rfl ?_
      exact k 0 (by omega)
    · simp only [jc, decide_eq_false_iff_not] at hc56
      iterate 2 refine mj_T.pl rfl rfl rfl rfl ?_
      exact k 1 (by omega)
theorem jw_putBack {D nd m S V R place : Nat} {sv fac s2 : Int} {gv gy : Nat → Int32} (hnd : nd ≤ 1000) (hm : m ≤ 1000) (hVn : jnl V ≤ nd) (htop : place + jnl V ≤ m) (hgv : ∀ j, j < jnl V → gv j = jn (jlb V j)) (hgy : ∀ j, j < jnl V → gy (place + j) = jn (jlb R j)) :
    mj_Ok (D + 1) 34 [.ref 0, .ref 2, .int (jn place)] (jHD nd m (jnl V) sv fac S s2 gv gy)
      (fun r => ∃ gi : Nat → Int32, (∀ j, j < place → gi j = gy j) ∧ (∀ j, j < jnl V → gi (place + j) = jn (jlb (R + V) j)) ∧ (∀ j, place + jnl V ≤ j → gi j = gy j) ∧ r = (.inl none, jHD nd m (jnl V) sv fac S s2 gv gi)) := by
  refine mj_Ok.of (M := mj_m34) rfl rfl rfl ?_
  iterate 7 refine mj_T.pl rfl rfl rfl rfl ?_
  refine mj_T.imax (b := 0) rfl rfl (Nat.le_of_ble_eq_true rfl) ⟨by omega, by omega⟩ ⟨by omega, by omega⟩ ?_
  rw [show max (place : Int) 0 = ((place + 0 : Nat) : Int) by omega]
  refine mj_T.pl rfl rfl rfl rfl ?_
  refine mj_T.eq (jw_back_loop (R := R) (V := V) (S := S) (s2 := s2) (sv := sv) (fac := fac) (gy := gy) hnd hm hVn htop hgv hgy (fun gi h1 h2 h3 => ⟨gi, h1, h2, h3, rfl⟩) (jnl V) 0 gy none (by omega) (fun j _ => rfl) (fun j hj => by omega) (fun j _ => rfl)) rfl ?_ rfl rfl
  rw [jcy_zero]
  rfl
/-! Divisor: prepare. -/
/-- what a divisor is taken times -/
def jfa (x : Nat) : Nat := if x = 0 then 1 else 1000000000 / (jlb x (jnl x - 1) + 1)
theorem jfa_pos (x : Nat) : 0 < jfa x ∧ jfa x ≤ 1000000000 := by
  unfold jfa
  split
  · omega
  · have := jlb_lt x (jnl x - 1)
    exact ⟨Nat.div_pos (by omega) (by omega), Nat.div_le_self _ _⟩
theorem jfa_lt {x : Nat} : x * jfa x < jB ^ jnl x := by
  by_cases h : x = 0
  · subst h; rw [Nat.zero_mul]; exact jB_pow _
  · have hn : jnl x ≠ 0 := fun q => h (jnl_eq0.mp q)
    obtain ⟨n, hn⟩ : ∃ n, jnl x = n + 1 := ⟨jnl x - 1, by omega⟩
    have e : x / jB ^ n = jlb x n := by
      have h1 := jdiv x n
      rw [← hn, jnl_le.mp (Nat.le_refl (jnl x)), Nat.zero_mul, Nat.zero_add] at h1
      exact h1
    have h2 : x < (jlb x n + 1) * jB ^ n := by rw [← e, Nat.mul_comm]; exact Nat.lt_mul_div_succ x (jB_pow n)
    have h3 : jfa x * (jlb x n + 1) ≤ jB := by
      unfold jfa
      rw [if_neg h, hn, Nat.add_sub_cancel]
      exact Nat.div_mul_le_self _ _
    rw [hn, Nat.pow_succ]
    refine Nat.lt_of_lt_of_le (Nat.mul_lt_mul_of_pos_right h2 (jfa_pos x).1) ?_
    rw [Nat.mul_comm _ (jfa x), ← Nat.mul_assoc, Nat.mul_comm _ jB]
    exact Nat.mul_le_mul_right _ h3
theorem jfa_nl {x : Nat} : jnl (x * jfa x) = jnl x := by
  have h1 := jnl_of (jfa_lt (x := x))
  have h2 := jnl_mono (Nat.le_mul_of_pos_right x (jfa_pos x).1)
  omega
theorem jhalf {t : Nat} (h0 : 0 < t) (h1 : t < 1000000000) : 1000000000 ≤ 2 * (t * (1000000000 / (t + 1))) := by
  have hd := Nat.div_add_mod 1000000000 (t + 1)
  have hm := Nat.mod_lt 1000000000 (show 0 < t + 1 by omega)
  generalize hf : 1000000000 / (t + 1) = f at *
  generalize 1000000000 % (t + 1) = r at *
  have e : (t + 1) * f = t * f + f := Nat.succ_mul t f
  rw [e] at hd
  rcases Nat.lt_or_ge t 2 with h2 | h2
  · have : t = 1 := by omega
    subst this
    omega
  · rcases Nat.lt_or_ge f 3 with h3 | h3
    · have hf0 : f ≠ 0 := fun q => by subst q; simp at hd; omega
      rcases Nat.lt_or_ge f 2 with h4 | h4
      · have : f = 1 := by omega
        subst this
        omega
      · have : f = 2 := by omega
        subst this
        omega
    · -- (f - 2) * (t - 1) is at least 2
      obtain ⟨a, rfl⟩ : ∃ a, f = a + 2 := ⟨f - 2, by omega⟩
      obtain ⟨b, rfl⟩ : ∃ b, t = b + 1 := ⟨t - 1, by omega⟩
      have e1 : (b + 1) * (a + 2) = b * a + a + 2 * b + 2 := by
        rw [Nat.add_mul, Nat.mul_add]
        omega
      have h5 : b * a ≥ 2 := by
        rcases Nat.lt_or_ge a 2 with h6 | h6
        · have : a = 1 := by omega
          subst this
          omega
        · exact Nat.le_trans h6 (Nat.le_mul_of_pos_left a (by omega))
      rw [e1] at hd ⊢
      omega
theorem jfa_norm {x : Nat} (h : 0 < x) : 1000000000 ≤ 2 * jlb (x * jfa x) (jnl x - 1) := by
  have hn : jnl x ≠ 0 := fun q => by have := jnl_eq0.mp q; omega
  obtain ⟨n, hn⟩ : ∃ n, jnl x = n + 1 := ⟨jnl x - 1, by omega⟩
  have ht := jlb_top hn.symm
  have hl := jhalf (Nat.pos_of_ne_zero ht) (jlb_lt x n)
  have e : x / jB ^ n = jlb x n := by
    have h1 := jdiv x n
    rw [← hn, jnl_le.mp (Nat.le_refl (jnl x)), Nat.zero_mul, Nat.zero_add] at h1
    exact h1
  have e2 : x * jfa x / jB ^ n = jlb (x * jfa x) n := by
    have h1 := jdiv (x * jfa x) n
    rw [← hn, ← jfa_nl, jnl_le.mp (Nat.le_refl (jnl (x * jfa x))), Nat.zero_mul, Nat.zero_add] at h1
    exact h1
  have h3 : jlb x n * jfa x ≤ x * jfa x / jB ^ n := by rw [jsc_div, e]; exact Nat.le_add_right _ _
  have h4 : jfa x = 1000000000 / (jlb x n + 1) := by
    unfold jfa
    rw [if_neg (by omega), hn, Nat.add_sub_cancel]
  rw [hn, Nat.add_sub_cancel, ← e2]
  rw [← h4] at hl
  omega
theorem jw_prep_loop {D nd m x f : Nat} {sv s2 : Int} {gy : Nat → Int32} (hnd : nd ≤ 1000) (hm : m ≤ 1000) (hxd : jnl x ≤ nd) (hxm : jnl x ≤ m) (hf : 0 < f) (hf2 : f ≤ 1000000000) (hgy : ∀ j, j < jnl x → gy j = jn (jlb x j)) {Q : mj_R → Prop}
    (hend : ∀ gi : Nat → Int32, (∀ j, j < jnl x → gi j = jn (jlb (x * f) j)) → Q (.inl none, jHD nd m (jnl x) sv f (jnl x) s2 gi gy)) :
    ∀ (d i : Nat) (gi : Nat → Int32) (l6 : Option Value), i + d = jnl x → (∀ j, j < i → gi j = jn (jlb (x * f) j)) →
      mj_T D mj_m30 80 [some (.ref 0), some (.ref 2), some (.ref 3), some (.long (jl (jsc x f i))), none, some (.int (jn i)), l6, none] [] (jHD nd m (jnl x) sv f (jnl x) s2 gi gy) Q := by
  intro d
  induction d with
  | zero =>
    intro i gi l6 hid hg1
    have ei : i = jnl x := by omega
    subst ei
    iterate 3 refine mj_T.pl rfl rfl rfl rfl ?_
    refine mj_T.icmp rfl ⟨by omega, by omega⟩ ⟨by omega, by omega⟩ (fun hc86 => ?_) (fun hc86 => ?_)
    · exact mj_T.ret rfl rfl rfl (hend gi hg1)
    · simp only [jc, decide_eq_false_iff_not] at hc86; omega
  | succ d ih =>
    intro i gi l6 hid hg1
    have hcf := jsc_lt (x := x) (i := i) hf
    have hlim : jlb (x * f) i = (jlb x i * f + jsc x f i) % 1000000000 := jsc_limb x f i
    have hnx : jsc x f (i + 1) = (jlb x i * f + jsc x f i) / 1000000000 := jsc_next x f i
    have hx1 := jlb_lt x i
    have hpb : jlb x i * f ≤ 999999999 * 1000000000 := Nat.mul_le_mul (by omega) hf2
    iterate 3 refine mj_T.pl rfl rfl rfl rfl ?_
    refine mj_T.icmp rfl ⟨by omega, by omega⟩ ⟨by omega, by omega⟩ (fun hc86 => ?_) (fun hc86 => ?_)
    · simp only [jc, decide_eq_true_eq] at hc86; omega
    clear hc86
    iterate 2 refine mj_T.pl rfl rfl rfl rfl ?_
    refine mj_T.ialv rfl rfl ⟨by omega, by omega⟩ ⟨by omega, by omega⟩ (hgy i (by omega)) ?_
    refine mj_T.i2l rfl ⟨by omega, by omega⟩ ?_
    iterate 2 refine mj_T.pl rfl rfl rfl rfl ?_
    refine mj_T.lmul rfl ?_
    refine mj_T.pl rfl rfl rfl rfl ?_
    refine mj_T.ladd rfl ?_
    rw [show ((jlb x i : Nat) : Int) * (f : Int) + ((jsc x f i : Nat) : Int) = ((jlb x i * f + jsc x f i : Nat) : Int) by rw [Int.natCast_add, Int.natCast_mul]]
    iterate 6 refine mj_T.pl rfl rfl rfl rfl ?_
    refine mj_T.lrem (b := 1000000000) rfl ⟨by omega, by omega⟩ ⟨by omega, by omega⟩ (by omega) ?_
    rw [show ((jlb x i * f + jsc x f i : Nat) : Int).tmod 1000000000 = ((jlb (x * f) i : Nat) : Int) by rw [hlim]; rfl]
    refine mj_T.l2i rfl ?_
    refine mj_T.iast rfl rfl ⟨by omega, by omega⟩ ⟨by omega, by omega⟩ ?_
    iterate 2 refine mj_T.pl rfl rfl rfl rfl ?_
    refine mj_T.ldiv (b := 1000000000) rfl ⟨by omega, by omega⟩ ⟨by omega, by omega⟩ (by omega) ?_
    rw [show ((jlb x i * f + jsc x f i : Nat) : Int).tdiv 1000000000 = ((jsc x f (i + 1) : Nat) : Int) by rw [hnx]; rfl]
    refine mj_T.pl rfl rfl rfl rfl ?_
    refine mj_T.iinc (a := i) rfl rfl ?_
    refine mj_T.pl rfl rfl rfl rfl ?_
    refine ih (i + 1) (upd gi i (jn (jlb (x * f) i))) _ (by omega) (fun j hj => ?_)
    unfold upd
    split
    · rename_i h; rw [h]
    · exact hg1 j (by omega)
theorem jw_prepare {D nd m x : Nat} {s0 : Int32} {sv0 : Int32} {fac0 : Int64} {s2 : Int} {gv gy : Nat → Int32} (hnd : nd ≤ 1000) (hm : m ≤ 1000) (hxd : jnl x ≤ nd) (hxm : jnl x ≤ m) (hgy : ∀ j, j < jnl x → gy j = jn (jlb x j)) :
    mj_Ok (D + 1) 30 [.ref 0, .ref 2] [.inr (2, [.ref 1, .int s0, .int sv0, .long fac0]), .inl (0, nd, fun j => .int (gv j)), .inr (8, [.ref 3, .int (jn (jnl x)), .int (jn s2)]), .inl (0, m, fun j => .int (gy j))]
      (fun r => ∃ gi : Nat → Int32, (∀ j, j < jnl x → gi j = jn (jlb (x * jfa x) j)) ∧ r = (.inl none, jHD nd m (jnl x) s2 (jfa x) (jnl x) s2 gi gy)) := by
  have hfa := jfa_pos x
  refine mj_Ok.of (M := mj_m30) rfl rfl rfl ?_
  iterate 8 refine mj_T.pl rfl rfl rfl rfl ?_
  refine mj_T.alen rfl rfl ?_
  refine mj_T.pl rfl rfl rfl rfl ?_
  refine mj_T.alen rfl rfl ?_
  refine mj_T.imin rfl rfl (Nat.le_of_ble_eq_true rfl) ⟨by omega, by omega⟩ ⟨by omega, by omega⟩ ?_
  refine mj_T.imin rfl rfl (Nat.le_of_ble_eq_true rfl) ⟨by omega, by omega⟩ ⟨by omega, by omega⟩ ?_
  rw [show min (jnl x : Int) (min (nd : Int) (m : Int)) = (jnl x : Nat) by omega]
  have fin : mj_T D mj_m30 72 [some (.ref 0), some (.ref 2), some (.ref 3), none, none, none, none, none] [.long (jl (jfa x)), .ref 0] [.inr (2, [.ref 1, .int (jn (jnl x)), .int (jn s2), .long fac0]), .inl (0, nd, fun j => .int (gv j)), .inr (8, [.ref 3, .int (jn (jnl x)), .int (jn s2)]), .inl (0, m, fun j => .int (gy j))]
      (fun r => ∃ gi : Nat → Int32, (∀ j, j < jnl x → gi j = jn (jlb (x * jfa x) j)) ∧ r = (.inl none, jHD nd m (jnl x) s2 (jfa x) (jnl x) s2 gi gy)) := by
    iterate 5 refine mj_T.pl rfl rfl rfl rfl ?_
    refine mj_T.eq (jw_prep_loop (x := x) (f := jfa x) (sv := s2) (s2 := s2) (gy := gy) hnd hm hxd hxm hfa.1 hfa.2 hgy (fun gi h => ⟨gi, h, rfl⟩) (jnl x) 0 gv none (by omega) (fun j hj => by omega)) rfl ?_ rfl rfl
    rw [jsc_zero]
    rfl
  iterate 8 refine mj_T.pl rfl rfl rfl rfl ?_
  refine mj_T.if0 rfl ⟨by omega, by omega⟩ (fun hc39 => ?_) (fun hc39 => ?_)
  · simp only [jc, decide_eq_true_eq] at hc39
    have h0 : x = 0 := jnl_eq0.mp (by omega)
    refine mj_T.pl rfl rfl rfl rfl ?_
    refine mj_T.eq fin rfl rfl ?_ rfl
    rw [show jfa x = 1 by unfold jfa; rw [if_pos h0]]
    rfl
  · simp only [jc, decide_eq_false_iff_not] at hc39
    have h0 : x ≠ 0 := fun q => by rw [q, jnl_zero] at hc39; omega
    have ht := jlb_lt x (jnl x - 1)
    have hgt := hgy (jnl x - 1) (by omega)
    have ht0 : jlb x (jnl x - 1) ≠ 0 := jlb_top (by omega)
    iterate 4 refine mj_T.pl rfl rfl rfl rfl ?_
    refine mj_T.isub (b := 1) rfl ?_
    rw [show (jnl x : Int) - 1 = ((jnl x - 1 : Nat) : Int) by omega]
    refine mj_T.ialv rfl rfl ⟨by omega, by omega⟩ ⟨by omega, by omega⟩ hgt ?_
    refine mj_T.if0 rfl ⟨by omega, by omega⟩ (fun hc50 => ?_) (fun hc50 => ?_)
    · simp only [jc, decide_eq_true_eq] at hc50; omega
    iterate 5 refine mj_T.pl rfl rfl rfl rfl ?_
    refine mj_T.isub (b := 1) rfl ?_
    rw [show (jnl x : Int) - 1 = ((jnl x - 1 : Nat) : Int) by omega]
    refine mj_T.ialv rfl rfl ⟨by omega, by omega⟩ ⟨by omega, by omega⟩ hgt ?_
    refine mj_T.i2l rfl ⟨by omega, by omega⟩ ?_
    refine mj_T.pl rfl rfl rfl rfl ?_
    refine mj_T.ladd (b := 1) rfl ?_
    refine mj_T.ldiv (a := 1000000000) rfl ⟨by omega, by omega⟩ ⟨by omega, by omega⟩ (by omega) ?_
    refine mj_T.pl rfl rfl rfl rfl ?_
    refine mj_T.eq fin rfl rfl ?_ rfl
    rw [show ((jfa x : Nat) : Int) = (1000000000 : Int).tdiv (((jlb x (jnl x - 1) : Nat) : Int) + 1) by unfold jfa; rw [if_neg h0]; rfl]
/-! A contract over a small heap, used where its cells lie in a greater one. -/
def jrho (is : List Nat) (m i : Nat) : Nat := match is[i]? with
  | some p => p
  | none => m + (i - is.length)
theorem jrho_out {is : List Nat} {m i : Nat} (h : is.length ≤ i) : jrho is m i + is.length = m + i := by
  unfold jrho
  rw [List.getElem?_eq_none_iff.mpr h]
  simp only
  omega
theorem jrho_in {is : List Nat} {m i p : Nat} (h : is[i]? = some p) : jrho is m i = p := by
  unfold jrho
  rw [h]
theorem jrho_inj {is : List Nat} {m : Nat} (hn : is.Nodup) (hl : ∀ p ∈ is, p < m) : ∀ i j, jrho is m i = jrho is m j → i = j := by
  intro i j h
  cases hi : is[i]? with
  | none =>
    have h1 := jrho_out (m := m) (List.getElem?_eq_none_iff.mp hi)
    have h1l := List.getElem?_eq_none_iff.mp hi
    cases hj : is[j]? with
    | none =>
      have h2 := jrho_out (m := m) (List.getElem?_eq_none_iff.mp hj)
      omega
    | some q =>
      have h2 := jrho_in (m := m) hj
      have h3 := hl q (List.mem_of_getElem? hj)
      omega
  | some p =>
    have h1 := jrho_in (m := m) hi
    have h1l := hl p (List.mem_of_getElem? hi)
    cases hj : is[j]? with
    | none =>
      have h2 := jrho_out (m := m) (List.getElem?_eq_none_iff.mp hj)
      have h3 := List.getElem?_eq_none_iff.mp hj
      omega
    | some q =>
      have h2 := jrho_in (m := m) hj
      have e : p = q := by omega
      subst e
      have hi2 := (List.getElem?_eq_some_iff.mp hi)
      have hj2 := (List.getElem?_eq_some_iff.mp hj)
      obtain ⟨a, ha⟩ := hi2
      obtain ⟨b, hb⟩ := hj2
      have hpw := List.pairwise_iff_getElem.mp hn
      rcases Nat.lt_trichotomy i j with h5 | h5 | h5
      · exact absurd (ha.trans hb.symm) (hpw i j a b h5)
      · exact h5
      · exact absurd (hb.trans ha.symm) (hpw j i b a h5)
/-- cells laid at their places -/
def jlay (f : mj_E → mj_E) : List Nat → mj_H → mj_H → mj_H
  | p :: is, e :: K, h => jlay f is K (h.set p (f e))
  | _, _, h => h
theorem jlay_len (f : mj_E → mj_E) : ∀ (is : List Nat) (K h : mj_H), (jlay f is K h).length = h.length
  | [], _, _ => by simp [jlay]
  | _ :: _, [], _ => by simp [jlay]
  | p :: is, e :: K, h => by
    simp only [jlay]
    rw [jlay_len f is K, List.length_set]
theorem jlay_out (f : mj_E → mj_E) : ∀ (is : List Nat) (K h : mj_H) (q : Nat), q ∉ is → (jlay f is K h)[q]? = h[q]?
  | [], _, _, _, _ => by simp [jlay]
  | _ :: _, [], _, _, _ => by simp [jlay]
  | p :: is, e :: K, h, q, hq => by
    simp only [jlay]
    rw [jlay_out f is K _ q (fun x => hq (List.mem_cons_of_mem _ x)), List.getElem?_set_ne (fun x => hq (by rw [← x]; exact List.mem_cons_self))]
theorem jlay_in (f : mj_E → mj_E) : ∀ (is : List Nat) (K h : mj_H) (i p : Nat) (e : mj_E), is.Nodup → (∀ p ∈ is, p < h.length) → is[i]? = some p → K[i]? = some e → (jlay f is K h)[p]? = some (f e)
  | [], _, _, _, _, _, _, _, h, _ => by simp at h
  | _ :: _, [], _, _, _, _, _, _, _, h => by simp at h
  | p :: is, e :: K, h, 0, q, x, hn, hl, hp, he => by
    simp only [List.getElem?_cons_zero, Option.some.injEq] at hp he
    subst hp
    subst he
    simp only [jlay]
    rw [jlay_out f is K _ p (List.nodup_cons.mp hn).1, List.getElem?_set_self (hl p List.mem_cons_self)]
  | p :: is, e :: K, h, i + 1, q, x, hn, hl, hp, he => by
    simp only [List.getElem?_cons_succ] at hp he
    simp only [jlay]
    exact jlay_in f is K _ i q x (List.nodup_cons.mp hn).2 (fun y hy => by rw [List.length_set]; exact hl y (List.mem_cons_of_mem _ hy)) hp he
/-- the contract, elsewhere: where no cell is made -/
theorem mj_Ok.at {D j : Nat} {as : List Value} {K : mj_H} {Q : mj_R → Prop} (c : mj_Ok D j as K Q) (is : List Nat) {h : mj_H} (hlen : is.length = K.length) (hnd : is.Nodup) (hlt : ∀ p ∈ is, p < h.length) (hc : ∀ (i p : Nat) (e : mj_E), is[i]? = some p → K[i]? = some e → h[p]? = some (mj_rE (jrho is h.length) e)) (hK : ∀ r, Q r → r.2.length = K.length) :
    mj_Ok D j (as.map (mj_rn (jrho is h.length))) h (fun r => ∃ r0 K', Q (r0, K') ∧ r = (mj_rR (jrho is h.length) r0, jlay (mj_rE (jrho is h.length)) is K' h)) := by
  obtain ⟨F, r, h1, h2⟩ := c
  have he : mj_em (jrho is h.length) is.length h.length K h := by
    refine ⟨by omega, by omega, fun k e hk => ?_⟩
    have hkl := (List.getElem?_eq_some_iff.mp hk).1
    have hp : is[k]? = some (is[k]'(by omega)) := List.getElem?_eq_getElem (by omega)
    rw [jrho_in hp]
    exact hc k _ e hp hk
  obtain ⟨h', g1, g2, g3⟩ := mj_ren_run (ρ := jrho is h.length) (fun k hk => jrho_out hk) (jrho_inj hnd hlt) mj_P F D j as K h r h1 he
  refine ⟨F, _, g1, r.1, r.2, h2, ?_⟩
  have hl := hK r h2
  congr 1
  have hlen' : h'.length = h.length := by have := g2.2.1; omega
  apply List.ext_getElem?
  intro q
  by_cases hq : q ∈ is
  · obtain ⟨i, hi⟩ := List.getElem?_of_mem hq
    have hil := (List.getElem?_eq_some_iff.mp hi).1
    have hk : r.2[i]? = some (r.2[i]'(by omega)) := List.getElem?_eq_getElem (by omega)
    rw [jlay_in _ is r.2 h i q _ hnd hlt hi hk, ← jrho_in (m := h.length) hi]
    exact g2.2.2 i _ hk
  · rw [jlay_out _ is r.2 h q hq]
    by_cases hql : q < h.length
    · refine g3 q hql (fun k hk e => hq ?_)
      have hp : is[k]? = some (is[k]'hk) := List.getElem?_eq_getElem hk
      rw [jrho_in hp] at e
      rw [← e]
      exact List.getElem_mem hk
    · rw [List.getElem?_eq_none_iff.mpr (by omega), List.getElem?_eq_none_iff.mpr (by omega)]
/-! Wide: putLimb. -/
theorem jw_putLimb {D n sz i x : Nat} {g0 : Int32} {g : Nat → Int32} (hn : n ≤ 1000) (hsz : sz ≤ n) (hi : i ≤ 1000) (hx : x < 1000000000) :
    mj_Ok (D + 1) 90 [.ref 0, .int (jn i), .int (jn x)] (jH1 n sz g0 g)
      (fun r => ∃ gi : Nat → Int32, (i < n → gi i = jn x) ∧ (∀ j, j ≠ i → gi j = g j) ∧ r = (.inl none, jH1 n ((if i < n ∧ x ≠ 0 ∧ sz ≤ i then i + 1 else sz : Nat) : Int) g0 gi)) := by
  refine mj_Ok.of (M := mj_m90) rfl rfl rfl ?_
  refine mj_T.pl rfl rfl rfl rfl ?_
  refine mj_T.if0 rfl ⟨by omega, by omega⟩ (fun hc1 => ?_) (fun hc1 => ?_)
  · simp only [jc, decide_eq_true_eq] at hc1; omega
  iterate 3 refine mj_T.pl rfl rfl rfl rfl ?_
  refine mj_T.alen rfl rfl ?_
  refine mj_T.icmp rfl ⟨by omega, by omega⟩ ⟨by omega, by omega⟩ (fun hc10 => ?_) (fun hc10 => ?_)
  · simp only [jc, decide_eq_true_eq] at hc10
    refine mj_T.ret rfl rfl rfl ⟨g, fun h => by omega, fun j _ => rfl, ?_⟩
    rw [if_neg (by omega)]
  · simp only [jc, decide_eq_false_iff_not] at hc10
    iterate 4 refine mj_T.pl rfl rfl rfl rfl ?_
    refine mj_T.iast rfl rfl ⟨by omega, by omega⟩ ⟨by omega, by omega⟩ ?_
    refine mj_T.pl rfl rfl rfl rfl ?_
    refine mj_T.if0 rfl ⟨by omega, by omega⟩ (fun hc21 => ?_) (fun hc21 => ?_)
    · simp only [jc, decide_eq_true_eq] at hc21
      refine mj_T.ret rfl rfl rfl ⟨upd g i (jn x), fun _ => if_pos rfl, fun j hj => if_neg hj, ?_⟩
      rw [if_neg (by omega)]
      rfl
    · simp only [jc, decide_eq_false_iff_not] at hc21
      iterate 3 refine mj_T.pl rfl rfl rfl rfl ?_
      refine mj_T.icmp rfl ⟨by omega, by omega⟩ ⟨by omega, by omega⟩ (fun hc29 => ?_) (fun hc29 => ?_)
      · simp only [jc, decide_eq_true_eq] at hc29
        refine mj_T.ret rfl rfl rfl ⟨upd g i (jn x), fun _ => if_pos rfl, fun j hj => if_neg hj, ?_⟩
        rw [if_neg (by omega)]
        rfl
      · simp only [jc, decide_eq_false_iff_not] at hc29
        iterate 3 refine mj_T.pl rfl rfl rfl rfl ?_
        refine mj_T.iadd (b := 1) rfl ?_
        refine mj_T.pl rfl rfl rfl rfl ?_
        refine mj_T.ret rfl rfl rfl ⟨upd g i (jn x), fun _ => if_pos rfl, fun j hj => if_neg hj, ?_⟩
        rw [if_pos (by omega)]
        rfl
/-! The guess is the limb of the quotient or one more. -/
theorem jlb_shift (Y k j : Nat) : jlb (Y / jB ^ k) j = jlb Y (k + j) := by
  unfold jlb
  rw [Nat.div_div_eq_div_mul, ← Nat.pow_add]
theorem jtop_eq {x n : Nat} (h : x < jB ^ (n + 1)) : x / jB ^ n = jlb x n := by
  have h1 := jdiv x n
  rw [Nat.div_eq_of_lt h, Nat.zero_mul, Nat.zero_add] at h1
  exact h1
theorem jgood {U V n : Nat} (hn : jnl V = n + 1) (hnorm : jB ≤ 2 * jlb V n) (hU : U < V * jB) :
    U / V ≤ (jgn (jlb V n) (if 1 < n + 1 then jlb V (n + 1 - 2) else 0) (if 1 < n + 1 then jlb U (n + 1 - 2) else 0) 2 ((jlb U (n + 1) * jB + jlb U n) / jlb V n, (jlb U (n + 1) * jB + jlb U n) % jlb V n)).1 ∧
    (jgn (jlb V n) (if 1 < n + 1 then jlb V (n + 1 - 2) else 0) (if 1 < n + 1 then jlb U (n + 1 - 2) else 0) 2 ((jlb U (n + 1) * jB + jlb U n) / jlb V n, (jlb U (n + 1) * jB + jlb U n) % jlb V n)).1 ≤ U / V + 1 := by
  have hVlt : V < jB ^ (n + 1) := jnl_le_lt.mp (Nat.le_of_eq hn)
  have hVt := jtop_eq hVlt
  have hV0 : 0 < V := Nat.pos_of_ne_zero (fun q => by rw [q, jnl_zero] at hn; omega)
  have hUlt : U < jB ^ (n + 1 + 1) := by
    rw [Nat.pow_succ]
    exact Nat.lt_trans hU (Nat.mul_lt_mul_of_pos_right hVlt (by decide))
  have hUt := jtop_eq hUlt
  have ht : U / jB ^ n = jlb U (n + 1) * jB + jlb U n := by rw [jdiv U n, hUt]
  have hVl : V < (jlb V n + 1) * jB ^ n := by
    rw [← hVt, Nat.mul_comm]
    exact Nat.lt_mul_div_succ V (jB_pow n)
  have htl : jlb U (n + 1) * jB + jlb U n < (jlb V n + 1) * jB := by
    rw [← ht, Nat.div_lt_iff_lt_mul (jB_pow n)]
    refine Nat.lt_of_lt_of_le hU ?_
    rw [Nat.mul_assoc, Nat.mul_comm jB, ← Nat.mul_assoc]
    exact Nat.mul_le_mul_right _ (Nat.le_of_lt hVl)
  have hqB : U / V < jB := by rw [Nat.div_lt_iff_lt_mul hV0, Nat.mul_comm]; exact hU
  generalize hT : jlb U (n + 1) * jB + jlb U n = T at *
  cases n with
  | zero =>
    have e1 : V = jlb V 0 := by rw [← hVt, Nat.pow_zero, Nat.div_one]
    have e2 : U = T := by rw [← ht, Nat.pow_zero, Nat.div_one]
    have e3 : (T * jB + 0) / (jlb V 0 * jB + 0) = U / V := by
      rw [Nat.add_zero, Nat.add_zero, Nat.mul_div_mul_right _ _ (by decide), ← e1, ← e2]
    rw [if_neg (by omega), if_neg (by omega)]
    exact jguess hnorm (by decide) (by decide) htl hqB (by rw [e3]; exact Nat.le_refl _) (by rw [e3]; exact Nat.le_succ _)
  | succ p =>
    rw [if_pos (by omega), if_pos (by omega), show p + 1 + 1 - 2 = p by omega]
    have eV : V / jB ^ p = jlb V (p + 1) * jB + jlb V p := by rw [jdiv V p, hVt]
    have eU : U / jB ^ p = T * jB + jlb U p := by rw [jdiv U p, ht]
    have dV := Nat.div_add_mod V (jB ^ p)
    have dU := Nat.div_add_mod U (jB ^ p)
    rw [eV, Nat.mul_comm] at dV
    rw [eU, Nat.mul_comm] at dU
    have hk := jkn (jB_pow p) dU.symm (Nat.mod_lt _ (jB_pow p)) dV.symm (Nat.mod_lt _ (jB_pow p)) (by
      have h1 := Nat.mul_le_mul_right jB hnorm
      rw [Nat.mul_assoc] at h1
      rw [Nat.mul_add]
      exact Nat.le_trans h1 (Nat.le_add_right _ _)) hU
    exact jguess hnorm (jlb_lt V p) (jlb_lt U p) htl hqB hk.1 hk.2
/-! Divisor: split. -/
/-- the heap of a Divisor, the divided Wide and the quotient -/
abbrev jH6 (nd m nq : Nat) (n sv fac s s2 sz : Int) (g0 : Int32) (gv gy gq : Nat → Int32) : mj_H := [.inr (2, [.ref 1, .int (jn n), .int (jn sv), .long (jl fac)]), .inl (0, nd, fun j => .int (gv j)), .inr (8, [.ref 3, .int (jn s), .int (jn s2)]), .inl (0, m, fun j => .int (gy j)), .inr (8, [.ref 5, .int (jn sz), .int g0]), .inl (0, nq, fun j => .int (gq j))]
section MJ6
variable {D nd m nq : Nat} {n sv fac s s2 sz : Int} {g0 : Int32} {gv gy gq : Nat → Int32}
theorem jat_HD {j : Nat} {as : List Value} {Q : mj_R → Prop} (c : mj_Ok D j as (jHD nd m n sv fac s s2 gv gy) Q) (hK : ∀ r, Q r → r.2.length = 4) :
    mj_Ok D j (as.map (mj_rn (jrho [0, 1, 2, 3] 6))) (jH6 nd m nq n sv fac s s2 sz g0 gv gy gq) (fun r => ∃ r0 K', Q (r0, K') ∧ r = (mj_rR (jrho [0, 1, 2, 3] 6) r0, jlay (mj_rE (jrho [0, 1, 2, 3] 6)) [0, 1, 2, 3] K' (jH6 nd m nq n sv fac s s2 sz g0 gv gy gq))) :=
  mj_Ok.at c [0, 1, 2, 3] (h := jH6 nd m nq n sv fac s s2 sz g0 gv gy gq) rfl (by decide) (fun p hp => by show p < 6; simp at hp; omega) (fun i p e hi he => by
    match i, hi, he with
    | 0, hi, he => cases hi; cases he; rfl
    | 1, hi, he => cases hi; cases he; rfl
    | 2, hi, he => cases hi; cases he; rfl
    | 3, hi, he => cases hi; cases he; rfl
    | i + 4, hi, he => simp at hi) hK
theorem jat_Q {j : Nat} {as : List Value} {Q : mj_R → Prop} (c : mj_Ok D j as (jH1 nq sz g0 gq) Q) (hK : ∀ r, Q r → r.2.length = 2) :
    mj_Ok D j (as.map (mj_rn (jrho [4, 5] 6))) (jH6 nd m nq n sv fac s s2 sz g0 gv gy gq) (fun r => ∃ r0 K', Q (r0, K') ∧ r = (mj_rR (jrho [4, 5] 6) r0, jlay (mj_rE (jrho [4, 5] 6)) [4, 5] K' (jH6 nd m nq n sv fac s s2 sz g0 gv gy gq))) :=
  mj_Ok.at c [4, 5] (h := jH6 nd m nq n sv fac s s2 sz g0 gv gy gq) rfl (by decide) (fun p hp => by show p < 6; simp at hp; omega) (fun i p e hi he => by
    match i, hi, he with
    | 0, hi, he => cases hi; cases he; rfl
    | 1, hi, he => cases hi; cases he; rfl
    | i + 2, hi, he => simp at hi) hK
theorem jat_W {j : Nat} {as : List Value} {Q : mj_R → Prop} (c : mj_Ok D j as (jH1 m s (jn s2) gy) Q) (hK : ∀ r, Q r → r.2.length = 2) :
    mj_Ok D j (as.map (mj_rn (jrho [2, 3] 6))) (jH6 nd m nq n sv fac s s2 sz g0 gv gy gq) (fun r => ∃ r0 K', Q (r0, K') ∧ r = (mj_rR (jrho [2, 3] 6) r0, jlay (mj_rE (jrho [2, 3] 6)) [2, 3] K' (jH6 nd m nq n sv fac s s2 sz g0 gv gy gq))) :=
  mj_Ok.at c [2, 3] (h := jH6 nd m nq n sv fac s s2 sz g0 gv gy gq) rfl (by decide) (fun p hp => by show p < 6; simp at hp; omega) (fun i p e hi he => by
    match i, hi, he with
    | 0, hi, he => cases hi; cases he; rfl
    | 1, hi, he => cases hi; cases he; rfl
    | i + 2, hi, he => simp at hi) hK
end MJ6
/-- what stands in the divided number's limbs once the limbs of the quotient from k on are known -/
def jyk (X V k : Nat) : Nat := X / jB ^ k % V * jB ^ k + X % jB ^ k
theorem jyk_shift (X V k : Nat) : jyk X V (k + 1) = (X / jB ^ (k + 1) % V * jB + jlb X k) * jB ^ k + X % jB ^ k := by
  unfold jyk
  rw [jmod, Nat.add_mul, Nat.pow_succ, Nat.mul_assoc (X / (jB ^ k * jB) % V), Nat.mul_comm jB (jB ^ k), Nat.add_assoc]
theorem jyk_div (X V k : Nat) : jyk X V (k + 1) / jB ^ k = X / jB ^ (k + 1) % V * jB + jlb X k := by
  rw [jyk_shift, Nat.mul_comm, Nat.mul_add_div (jB_pow k), Nat.div_eq_of_lt (Nat.mod_lt _ (jB_pow k)), Nat.add_zero]
theorem jyk_low {X V k j : Nat} (h : j < k) : jlb (jyk X V k) j = jlb X j := by
  have h1 : jlb (jyk X V k) j = jlb (X % jB ^ k) j := jlb_low h
  have h2 : jlb (X / jB ^ k * jB ^ k + X % jB ^ k) j = jlb (X % jB ^ k) j := jlb_low h
  rw [h1, ← h2, Nat.mul_comm, Nat.div_add_mod]
theorem jyk_high (X V k j : Nat) : jlb (jyk X V k) (k + j) = jlb (X / jB ^ k % V) j := by
  rw [← jlb_shift]
  congr 1
  unfold jyk
  rw [Nat.mul_comm, Nat.mul_add_div (jB_pow k), Nat.div_eq_of_lt (Nat.mod_lt _ (jB_pow k)), Nat.add_zero]
/-! Divisor: split, the loop. -/
theorem jyk_le (X V k : Nat) : jyk X V k ≤ X := by
  unfold jyk
  have h := Nat.div_add_mod X (jB ^ k)
  have h2 := Nat.mul_le_mul_right (jB ^ k) (Nat.mod_le (X / jB ^ k) V)
  rw [Nat.mul_comm] at h
  exact Nat.le_trans (Nat.add_le_add_right h2 _) (Nat.le_of_eq h)
/-- what takeAway leaves -/
theorem jta_q {U V n c R G h : Nat} (hV : V < jB ^ n) (hV0 : 0 < V) (hU : U / jB ^ n = h) (ht : jta U V G n c R) : (G = U / V → c = h ∧ R = U % V) ∧ (G = U / V + 1 → c = h + 1 ∧ R + V = 1 * jB ^ n + U % V) := by
  obtain ⟨h1, h2⟩ := ht
  rw [Nat.mod_eq_of_lt hV] at h1
  have dU := Nat.div_add_mod U (jB ^ n)
  rw [hU] at dU
  have dV := Nat.div_add_mod U V
  have hm := Nat.mod_lt U hV0
  have hP := jB_pow n
  generalize jB ^ n = P at *
  generalize U % P = a at *
  generalize hq : U / V = q at *
  generalize U % V = b at *
  rw [Nat.mul_comm P h] at dU
  rw [Nat.mul_comm V q] at dV
  constructor
  · intro hG
    subst hG
    have e : c * P + b = h * P + R := by omega
    have hc : c = h := by
      rcases Nat.lt_trichotomy c h with h3 | h3 | h3
      · have := Nat.mul_le_mul_right P (show c + 1 ≤ h by omega)
        rw [Nat.succ_mul] at this
        omega
      · exact h3
      · have := Nat.mul_le_mul_right P (show h + 1 ≤ c by omega)
        rw [Nat.succ_mul] at this
        omega
    subst hc
    exact ⟨rfl, by omega⟩
  · intro hG
    subst hG
    rw [Nat.succ_mul] at h1
    have e : c * P + b = h * P + V + R := by omega
    have hc : c = h + 1 := by
      rcases Nat.lt_trichotomy c (h + 1) with h3 | h3 | h3
      · have := Nat.mul_le_mul_right P (show c ≤ h by omega)
        omega
      · exact h3
      · have := Nat.mul_le_mul_right P (show h + 2 ≤ c by omega)
        rw [Nat.add_mul] at this
        omega
    subst hc
    rw [Nat.succ_mul] at e
    exact ⟨rfl, by omega⟩
theorem jw_split_loop {D nd m nq S X V : Nat} {sg sv fac s2 : Int} {g0 : Int32} {gv : Nat → Int32} (hnd : nd ≤ 1000) (hm : m ≤ 1000) (hnq : nq ≤ 1000) (hV : 0 < V) (hnorm : 1000000000 ≤ 2 * jlb V (jnl V - 1)) (hVn : jnl V ≤ nd) (hS : S ≤ m) (hX : jnl X ≤ S) (hcap : jnl (X / V) ≤ nq) (hgv : ∀ j, j < jnl V → gv j = jn (jlb V j)) {Q : mj_R → Prop}
    (hend : ∀ (gy gq : Nat → Int32) (v : Int) (l5 : Option Value), (∀ j, j < S → gy j = jn (jlb (X % V) j)) → (∀ j, j < jnl (X / V) → gq j = jn (jlb (X / V) j)) → mj_T (D + 1) mj_m31 98 [some (.ref 0), some (.ref 2), some (.ref 4), some (.int (jn sg)), some (.int (jn v)), l5, none] [] (jH6 nd m nq (jnl V) sv fac S s2 (jnl (X / V)) g0 gv gy gq) Q) :
    ∀ (k : Nat) (v : Int) (gy gq : Nat → Int32) (l5 : Option Value), v = (k : Int) - 1 → k + jnl V ≤ S + 1 → (∀ j, j < S → gy j = jn (jlb (jyk X V k) j)) → (∀ j, k ≤ j → j < jnl (X / V) → gq j = jn (jlb (X / V) j)) →
      mj_T (D + 1) mj_m31 39 [some (.ref 0), some (.ref 2), some (.ref 4), some (.int (jn sg)), some (.int (jn v)), l5, none] [] (jH6 nd m nq (jnl V) sv fac S s2 (jup (X / V) k) g0 gv gy gq) Q := by
  intro k
  have hn1 : 1 ≤ jnl V := Nat.pos_of_ne_zero (fun h => by have := jnl_eq0.mp h; omega)
  have hVB : V < jB ^ jnl V := jnl_le_lt.mp (Nat.le_refl _)
  induction k with
  | zero =>
    intro v gy gq l5 hv hk hgy hgq
    refine mj_T.pl rfl rfl rfl rfl ?_
    refine mj_T.if0 rfl ⟨by omega, by omega⟩ (fun hc41 => ?_) (fun hc41 => ?_)
    · rw [jup_zero]
      refine hend gy gq v l5 (fun j hj => ?_) (fun j hj => hgq j (Nat.zero_le _) hj)
      rw [hgy j hj]
      simp [jyk, Nat.mod_one]
    · simp only [jc, decide_eq_false_iff_not] at hc41; omega
  | succ k ih =>
    intro v gy gq l5 hv hk hgy hgq
    have ev : v = k := by omega
    subst ev
    have hYX := jnl_mono (jyk_le X V (k + 1))
    have hUd := jyk_div X V k
    have hR := Nat.mod_lt (X / jB ^ (k + 1)) hV
    have hUlt : jyk X V (k + 1) / jB ^ k < V * jB := by
      rw [hUd]
      have h1 : jlb X k < jB := jlb_lt X k
      refine Nat.lt_of_lt_of_le (Nat.add_lt_add_left h1 _) ?_
      rw [← Nat.succ_mul]
      exact Nat.mul_le_mul_right _ hR
    have hql : jlb (X / V) k = jyk X V (k + 1) / jB ^ k / V := by rw [hUd]; exact jcut_limb hV
    have hrl : X / jB ^ k % V = jyk X V (k + 1) / jB ^ k % V := by rw [hUd]; exact jcut_rest hV
    have hsh : ∀ j, jlb (jyk X V (k + 1)) (k + j) = jlb (jyk X V (k + 1) / jB ^ k) j := fun j => (jlb_shift _ _ _).symm
    obtain ⟨p, hp⟩ : ∃ p, jnl V = p + 1 := ⟨jnl V - 1, by omega⟩
    have hgood := jgood (U := jyk X V (k + 1) / jB ^ k) hp (by rw [hp, Nat.add_sub_cancel] at hnorm; exact hnorm) hUlt
    have hq1 := jlb_lt (X / V) k
    -- the call of guess
    refine mj_T.pl rfl rfl rfl rfl ?_
    refine mj_T.if0 rfl ⟨by omega, by omega⟩ (fun hc41 => ?_) (fun hc41 => ?_)
    · simp only [jc, decide_eq_true_eq] at hc41; omega
    clear hc41
    iterate 5 refine mj_T.pl rfl rfl rfl rfl ?_
    refine mj_T.iadd rfl ?_
    rw [show (k : Int) + (jnl V : Nat) = ((k + jnl V : Nat) : Int) by omega]
    refine mj_T.call (ins := .invokevirtual 44) rfl rfl (Nat.le_of_ble_eq_true rfl) (Nat.le_of_ble_eq_true rfl) rfl rfl (jat_HD (jw_guess (D := D) (Y := jyk X V (k + 1)) (top := k + jnl V) (S := S) hnd hm hV hnorm hVn (by omega) (by omega) hS (by omega) hgv hgy) (fun r h => by rw [h]; rfl)) (fun v' h' hq' => ?_) (fun i h' hq' => by obtain ⟨_, _, h1, h2⟩ := hq'; cases h1; cases h2)
    obtain ⟨r0, K', h1, h2⟩ := hq'
    cases h1
    cases h2
    have e1 : jlb (jyk X V (k + 1)) (k + jnl V) = jlb (jyk X V (k + 1) / jB ^ k) (p + 1) := by rw [hp, hsh]
    have e2 : jlb (jyk X V (k + 1)) (k + jnl V - 1) = jlb (jyk X V (k + 1) / jB ^ k) p := by rw [hp, show k + (p + 1) - 1 = k + p by omega, hsh]
    have e3 : (if 1 < jnl V then jlb (jyk X V (k + 1)) (k + jnl V - 2) else 0) = (if 1 < p + 1 then jlb (jyk X V (k + 1) / jB ^ k) (p + 1 - 2) else 0) := by
      rw [hp]
      by_cases h : 1 < p + 1
      · rw [if_pos h, if_pos h, show k + (p + 1) - 2 = k + (p + 1 - 2) by omega, hsh]
      · rw [if_neg h, if_neg h]
    have e4 : (if 1 < jnl V then jlb V (jnl V - 2) else 0) = (if 1 < p + 1 then jlb V (p + 1 - 2) else 0) := by rw [hp]
    have e5 : jlb V (jnl V - 1) = jlb V p := by rw [hp, Nat.add_sub_cancel]
    rw [e1, e2, e3, e4, e5]
    have hgood2 : _ ∧ _ := hgood
    generalize hG : (jgn (jlb V p) (if 1 < p + 1 then jlb V (p + 1 - 2) else 0) (if 1 < p + 1 then jlb (jyk X V (k + 1) / jB ^ k) (p + 1 - 2) else 0) 2 ((jlb (jyk X V (k + 1) / jB ^ k) (p + 1) * jB + jlb (jyk X V (k + 1) / jB ^ k) p) / jlb V p, (jlb (jyk X V (k + 1) / jB ^ k) (p + 1) * jB + jlb (jyk X V (k + 1) / jB ^ k) p) % jlb V p)).1 = G at hgood2
    refine mj_T.eq (st2 := [.long (jl G)]) (h2 := jH6 nd m nq (jnl V) sv fac S s2 (jup (X / V) (k + 1)) g0 gv gy gq) ?_ rfl rfl (by rw [← hG]; rfl) rfl
    clear hG e1 e2 e3 e4 e5 hgood
    generalize hU : jyk X V (k + 1) / jB ^ k = U at *
    have hUt : U / jB ^ jnl V = jlb U (jnl V) := jtop_eq (by rw [Nat.pow_succ]; exact Nat.lt_trans hUlt (Nat.mul_lt_mul_of_pos_right hVB (by decide)))
    have hh1 := jlb_lt U (jnl V)
    have hYS : jlb (jyk X V (k + 1)) S = 0 := jlb_high (by omega)
    -- the end of a round: the limb of the quotient is known
    have fin : ∀ (gi : Nat → Int32) (l5 : Option Value), (∀ j, j < S → gi j = jn (jlb (jyk X V k) j)) → mj_T (D + 1) mj_m31 83 [some (.ref 0), some (.ref 2), some (.ref 4), some (.int (jn sg)), some (.int (jn k)), some (.long (jl (jlb (X / V) k))), none] [] (jH6 nd m nq (jnl V) sv fac S s2 (jup (X / V) (k + 1)) g0 gv gi gq) Q := by
      intro gi l5 hgi
      iterate 3 refine mj_T.pl rfl rfl rfl rfl ?_
      refine mj_T.l2i rfl ?_
      have hul := jup_le (X / V) (k + 1)
      refine mj_T.call (ins := .invokevirtual 56) rfl rfl (Nat.le_of_ble_eq_true rfl) (Nat.le_of_ble_eq_true rfl) rfl rfl (jat_Q (jw_putLimb (D := D) (n := nq) (sz := jup (X / V) (k + 1)) (i := k) (x := jlb (X / V) k) hnq (by omega) (by omega) hq1) (fun r h => by obtain ⟨_, _, _, h⟩ := h; rw [h]; rfl)) (fun v' h' hq' => ?_) (fun i h' hq' => by obtain ⟨_, _, ⟨_, _, _, h1⟩, h2⟩ := hq'; cases h1; cases h2)
      obtain ⟨r0, K', ⟨gz, hz1, hz2, h1⟩, h2⟩ := hq'
      cases h1
      cases h2
      have esz : (if k < nq ∧ jlb (X / V) k ≠ 0 ∧ jup (X / V) (k + 1) ≤ k then k + 1 else jup (X / V) (k + 1)) = jup (X / V) k := by
        by_cases h0 : jlb (X / V) k = 0
        · rw [if_neg (fun h => h.2.1 h0), jup_same (Or.inr h0)]
        · have hkz : k < jnl (X / V) := Decidable.byContradiction fun q => h0 (jlb_high (by omega))
          by_cases h3 : jup (X / V) (k + 1) = 0
          · rw [if_pos ⟨by omega, h0, by omega⟩, jup_new h3 h0]
          · rw [jup_same (Or.inl h3), if_neg]
            intro h
            have : jup (X / V) (k + 1) = jnl (X / V) ∧ k + 1 < jnl (X / V) := by
              unfold jup at h3 ⊢
              by_cases h4 : k + 1 < jnl (X / V)
              · rw [if_pos h4]; exact ⟨rfl, h4⟩
              · rw [if_neg h4] at h3; exact absurd rfl h3
            omega
      refine mj_T.eq (h2 := jH6 nd m nq (jnl V) sv fac S s2 (jup (X / V) k) g0 gv gi gz) ?_ rfl rfl rfl (by rw [← esz]; rfl)
      refine mj_T.iinc (a := k) rfl rfl ?_
      refine mj_T.pl rfl rfl rfl rfl ?_
      refine ih ((k : Int) + -1) gi gz _ (by omega) (by omega) hgi (fun j hj1 hj2 => ?_)
      by_cases h : j = k
      · subst h
        exact hz1 (by omega)
      · rw [hz2 j h]
        exact hgq j (by omega) hj2
    -- the call of takeAway
    iterate 5 refine mj_T.pl rfl rfl rfl rfl ?_
    refine mj_T.call (ins := .invokevirtual 48) rfl rfl (Nat.le_of_ble_eq_true rfl) (Nat.le_of_ble_eq_true rfl) rfl rfl (jat_HD (jw_takeAway (D := D) (U := U) (V := V) (x := G) (place := k) (h := jlb U (jnl V)) (S := S) hnd hm hVn (by omega) hS (by omega) hh1 hgv (fun j hj => by rw [hgy (k + j) (by omega), hsh]) (fun hlt => by rw [hgy (k + jnl V) hlt, hsh]) (fun hlt => by rw [← hsh, show k + jnl V = S by omega]; exact hYS)) (fun r h => by obtain ⟨_, _, _, _, _, _, _, _, h⟩ := h; rw [h]; rfl)) (fun v' h' hq' => ?_) (fun i h' hq' => by obtain ⟨_, _, ⟨_, _, _, _, _, _, _, _, h1⟩, h2⟩ := hq'; cases h1; cases h2)
    obtain ⟨r0, K', ⟨c, R', gi, hta, t1, t2, t3, t4, h1⟩, h2⟩ := hq'
    cases h1
    cases h2
    have htq := jta_q hVB hV hUt hta
    refine mj_T.eq (st2 := [.int (jn (if c ≤ jlb U (jnl V) then 1 else 0))]) (h2 := jH6 nd m nq (jnl V) sv fac S s2 (jup (X / V) (k + 1)) g0 gv gi gq) ?_ rfl rfl rfl rfl
    -- what the limbs are, once the window's are those of U % V
    have lim : ∀ gz : Nat → Int32, (∀ j, j < k → gz j = gy j) → (∀ j, j < jnl V → gz (k + j) = jn (jlb (U % V) j)) → (k + jnl V < S → gz (k + jnl V) = jn 0) → (∀ j, k + jnl V < j → gz j = gy j) → ∀ j, j < S → gz j = jn (jlb (jyk X V k) j) := by
      intro gz z1 z2 z3 z4 j hj
      have hUV : U % V < jB ^ jnl V := Nat.lt_trans (Nat.mod_lt _ hV) hVB
      rcases Nat.lt_or_ge j k with h | h
      · rw [z1 j h, hgy j hj, jyk_low (by omega), jyk_low h]
      · obtain ⟨i, rfl⟩ : ∃ i, j = k + i := ⟨j - k, by omega⟩
        rw [jyk_high, hrl]
        rcases Nat.lt_trichotomy i (jnl V) with h3 | h3 | h3
        · exact z2 i h3
        · subst h3
          rw [z3 hj, jlb_high (jnl_of hUV)]
          rfl
        · rw [z4 (k + i) (by omega), hgy (k + i) hj, jlb_high (show jnl (U % V) ≤ i by have := jnl_of hUV; omega)]
          rw [show k + i = k + 1 + (i - 1) by omega, jyk_high]
          rw [jlb_high (show jnl (X / jB ^ (k + 1) % V) ≤ i - 1 by have := jnl_of (Nat.lt_trans hR hVB); omega)]
    refine mj_T.if0 rfl ⟨by split <;> omega, by split <;> omega⟩ (fun hc67 => ?_) (fun hc67 => ?_)
    · simp only [jc, Bool.not_eq_true', decide_eq_false_iff_not] at hc67
      have hch : c ≤ jlb U (jnl V) := Decidable.byContradiction fun h => hc67 (by rw [if_neg h])
      have hGq : G = U / V := by
        rcases (show G = U / V ∨ G = U / V + 1 by omega) with h | h
        · exact h
        · have := (htq.2 h).1; omega
      have hRq := (htq.1 hGq).2
      rw [hGq, ← hql]
      exact fin gi none (lim gi t1 (fun j hj => by rw [← hRq]; exact t2 j hj) t3 t4)
    · simp only [jc, Bool.not_eq_false', decide_eq_true_eq] at hc67
      have hch : ¬ c ≤ jlb U (jnl V) := fun h => by rw [if_pos h] at hc67; omega
      have hGq : G = U / V + 1 := by
        rcases (show G = U / V ∨ G = U / V + 1 by omega) with h | h
        · have := (htq.1 h).1; omega
        · exact h
      have hRq := (htq.2 hGq).2
      iterate 3 refine mj_T.pl rfl rfl rfl rfl ?_
      refine mj_T.call (ins := .invokevirtual 52) rfl rfl (Nat.le_of_ble_eq_true rfl) (Nat.le_of_ble_eq_true rfl) rfl rfl (jat_HD (jw_putBack (D := D) (R := R') (V := V) (place := k) (S := S) hnd hm hVn (by omega) hgv t2) (fun r h => by obtain ⟨_, _, _, _, h⟩ := h; rw [h]; rfl)) (fun v' h' hq' => ?_) (fun i h' hq' => by obtain ⟨_, _, ⟨_, _, _, _, h1⟩, h2⟩ := hq'; cases h1; cases h2)
      obtain ⟨r0, K', ⟨gz, b1, b2, b3, h1⟩, h2⟩ := hq'
      cases h1
      cases h2
      refine mj_T.eq (st2 := []) (h2 := jH6 nd m nq (jnl V) sv fac S s2 (jup (X / V) (k + 1)) g0 gv gz gq) ?_ rfl rfl rfl rfl
      iterate 2 refine mj_T.pl rfl rfl rfl rfl ?_
      refine mj_T.lsub (b := 1) rfl ?_
      refine mj_T.pl rfl rfl rfl rfl ?_
      rw [show (G : Int) - 1 = ((jlb (X / V) k : Nat) : Int) by rw [hql, hGq]; omega]
      refine fin gz none (lim gz (fun j hj => (b1 j hj).trans (t1 j hj)) (fun j hj => ?_) (fun hlt => (b3 _ (Nat.le_refl _)).trans (t3 hlt)) (fun j hj => (b3 j (by omega)).trans (t4 j hj)))
      rw [b2 j hj, hRq, jlb_low hj]
/-! cut, where limbs that are 0 may lie on top. -/
theorem jw_cutS_loop {D n x f z : Nat} {g0 : Int32} {g : Nat → Int32} (hn : n < 2147483648) (hxz : jnl x ≤ z) (hf : 0 < f) (hf2 : f ≤ 1000000000) (hcap : z ≤ n) (hg : ∀ j, j < z → g j = jn (jlb x j)) {Q : mj_R → Prop}
    (hend : ∀ (gi : Nat → Int32) (l7 l8 : Option Value) (l6 : Int), (∀ j, j < z → gi j = jn (jlb (x / f) j)) → mj_T D mj_m97 97 [some (.ref 0), some (.long (jl f)), none, some (.long (jl (x % f : Nat))), none, some (.int (jn (jnl (x / f)))), some (.int (jn l6)), l7, l8] [] (jH1 n (z) g0 gi) Q) :
    ∀ (k : Nat) (v : Int) (gi : Nat → Int32) (l7 l8 : Option Value), v = (k : Int) - 1 → k ≤ z → (∀ j, k ≤ j → j < z → gi j = jn (jlb (x / f) j)) → (∀ j, j < k → gi j = g j) →
      mj_T D mj_m97 21 [some (.ref 0), some (.long (jl f)), none, some (.long (jl (x / jB ^ k % f : Nat))), none, some (.int (jn (jup (x / f) k))), some (.int (jn v)), l7, l8] [] (jH1 n (z) g0 gi) Q := by
  intro k
  have hzx : jnl (x / f) ≤ z := Nat.le_trans (jnl_mono (Nat.div_le_self _ _)) hxz
  induction k with
  | zero =>
    intro v gi l7 l8 hv hk hg1 hg2
    refine mj_T.pl rfl rfl rfl rfl ?_
    refine mj_T.if0 rfl ⟨by omega, by omega⟩ (fun hc23 => ?_) (fun hc23 => ?_)
    · rw [jup_zero, Nat.pow_zero, Nat.div_one]
      exact hend gi l7 l8 v (fun j hj => hg1 j (Nat.zero_le _) hj)
    · simp only [jc, decide_eq_false_iff_not] at hc23; omega
  | succ k ih =>
    intro v gi l7 l8 hv hk hg1 hg2
    have ev : v = k := by omega
    subst ev
    have hx1 := jlb_lt x k
    have hz1 := jlb_lt (x / f) k
    have hr := Nat.mod_lt (x / jB ^ (k + 1)) hf
    have hlim := jcut_limb (x := x) (f := f) (i := k) hf
    have hrest := jcut_rest (x := x) (f := f) (i := k) hf
    have hul := jup_le (x / f) (k + 1)
    refine mj_T.pl rfl rfl rfl rfl ?_
    refine mj_T.if0 rfl ⟨by omega, by omega⟩ (fun hc23 => ?_) (fun hc23 => ?_)
    · simp only [jc, decide_eq_true_eq] at hc23; omega
    · iterate 2 refine mj_T.pl rfl rfl rfl rfl ?_
      refine mj_T.lif (b := 0) rfl rfl ⟨by omega, by omega⟩ ⟨by omega, by omega⟩ (fun hc28 => ?_) (fun hc28 => ?_)
      · simp only [jc, decide_eq_true_eq] at hc28; omega
      · have t3 : ∀ (gi' : Nat → Int32) (l7 l8 : Option Value), gi' = upd gi k (jn (jlb (x / f) k)) → mj_T D mj_m97 89 [some (.ref 0), some (.long (jl f)), none, some (.long (jl (x / jB ^ k % f : Nat))), none, some (.int (jn (jup (x / f) (k + 1)))), some (.int (jn k)), l7, l8] [.int (jn (jup (x / f) k))] (jH1 n (z) g0 gi') Q := by
          intro gi' l7 l8 hgi
          subst hgi
          refine mj_T.pl rfl rfl rfl rfl ?_
          refine mj_T.iinc (a := k) rfl rfl ?_
          refine mj_T.pl rfl rfl rfl rfl ?_
          refine ih ((k : Int) + -1) (upd gi k (jn (jlb (x / f) k))) l7 l8 (by omega) (by omega) (fun j hj1 hj2 => ?_) (fun j hj => ?_)
          · unfold upd
            split
            · rename_i h; rw [h]
            · exact hg1 j (by omega) hj2
          · unfold upd
            rw [if_neg (by omega)]
            exact hg2 j (by omega)
        generalize hR : x / jB ^ (k + 1) % f = R at *
        have hlim : jlb (x / f) k = (R * 1000000000 + jlb x k) / f := hlim
        have hrest : x / jB ^ k % f = (R * 1000000000 + jlb x k) % f := hrest
        iterate 2 refine mj_T.pl rfl rfl rfl rfl ?_
        refine mj_T.lmul (b := 1000000000) rfl ?_
        iterate 3 refine mj_T.pl rfl rfl rfl rfl ?_
        refine mj_T.ialv rfl rfl ⟨by omega, by omega⟩ ⟨by omega, by omega⟩ ((hg2 k (by omega)).trans (hg k (by omega))) ?_
        refine mj_T.i2l rfl ⟨by omega, by omega⟩ ?_
        refine mj_T.ladd rfl ?_
        rw [show (R : Int) * 1000000000 + ((jlb x k : Nat) : Int) = ((R * 1000000000 + jlb x k : Nat) : Int) by rw [Int.natCast_add, Int.natCast_mul]; rfl]
        have hb2 : R * 1000000000 + jlb x k ≤ 1000000000000000000 := by omega
        iterate 6 refine mj_T.pl rfl rfl rfl rfl ?_
        refine mj_T.ldiv rfl ⟨by omega, by omega⟩ ⟨by omega, by omega⟩ (by omega) ?_
        rw [show ((R * 1000000000 + jlb x k : Nat) : Int).tdiv (f : Int) = ((jlb (x / f) k : Nat) : Int) by rw [hlim]; rfl]
        refine mj_T.l2i rfl ?_
        refine mj_T.iast rfl rfl ⟨by omega, by omega⟩ ⟨by omega, by omega⟩ ?_
        iterate 2 refine mj_T.pl rfl rfl rfl rfl ?_
        refine mj_T.lrem rfl ⟨by omega, by omega⟩ ⟨by omega, by omega⟩ (by omega) ?_
        rw [show ((R * 1000000000 + jlb x k : Nat) : Int).tmod (f : Int) = ((x / jB ^ k % f : Nat) : Int) by rw [hrest]; rfl]
        iterate 2 refine mj_T.pl rfl rfl rfl rfl ?_
        refine mj_T.if0 rfl ⟨by omega, by omega⟩ (fun hc67 => ?_) (fun hc67 => ?_)
        · simp only [jc, Bool.not_eq_true', decide_eq_false_iff_not] at hc67
          iterate 1 refine mj_T.pl rfl rfl rfl rfl ?_
          have e := jup_same (z := x / f) (k := k) (Or.inl (by omega))
          have t := t3 _ (some (.long (jl (R * 1000000000 + jlb x k : Nat)))) none rfl
          rw [e] at t
          exact t
        · simp only [jc, Bool.not_eq_false', decide_eq_true_eq] at hc67
          iterate 3 refine mj_T.pl rfl rfl rfl rfl ?_
          refine mj_T.ialv (z := (jlb (x / f) k : Nat)) rfl rfl ⟨by omega, by omega⟩ ⟨by omega, by omega⟩ (if_pos rfl) ?_
          refine mj_T.if0 rfl ⟨by omega, by omega⟩ (fun hc77 => ?_) (fun hc77 => ?_)
          · simp only [jc, decide_eq_true_eq] at hc77
            iterate 1 refine mj_T.pl rfl rfl rfl rfl ?_
            have e := jup_same (z := x / f) (k := k) (Or.inr (by omega))
            have t := t3 _ (some (.long (jl (R * 1000000000 + jlb x k : Nat)))) none rfl
            rw [e] at t
            exact t
          · simp only [jc, decide_eq_false_iff_not] at hc77
            iterate 2 refine mj_T.pl rfl rfl rfl rfl ?_
            refine mj_T.iadd (b := 1) rfl ?_
            refine mj_T.pl rfl rfl rfl rfl ?_
            have e := jup_new (z := x / f) (k := k) (by omega) (by omega)
            have t := t3 _ (some (.long (jl (R * 1000000000 + jlb x k : Nat)))) none rfl
            rw [e] at t
            exact t
theorem jw_cutS {D n x f z : Nat} {s : Int} {g : Nat → Int32} (hn : n < 2147483648) (hxz : jnl x ≤ z) (hf : 0 < f) (hf2 : f ≤ 1000000000) (hcap : z ≤ n) (hg : ∀ j, j < z → g j = jn (jlb x j)) :
    mj_Ok (D + 1) 97 [.ref 0, .long (jl f)] (jH1 n (z) (jn s) g) (fun r => ∃ g' : Nat → Int32, (∀ j, j < z → g' j = jn (jlb (x / f) j)) ∧ r = (.inl none, jH1 n (jnl (x / f)) (jn (if x / f = 0 then 0 else s)) g')) := by
  have hzx : jnl (x / f) ≤ z := Nat.le_trans (jnl_mono (Nat.div_le_self _ _)) hxz
  refine mj_Ok.of (M := mj_m97) rfl rfl rfl ?_
  iterate 8 refine mj_T.pl rfl rfl rfl rfl ?_
  refine mj_T.alen rfl rfl ?_
  refine mj_T.imin rfl rfl (Nat.le_of_ble_eq_true rfl) ⟨by omega, by omega⟩ ⟨by omega, by omega⟩ ?_
  rw [show min (z : Int) (n : Int) = (z : Nat) by omega]
  iterate 1 refine mj_T.pl rfl rfl rfl rfl ?_
  refine mj_T.isub (b := 1) rfl ?_
  iterate 1 refine mj_T.pl rfl rfl rfl rfl ?_
  refine mj_T.eq (jw_cutS_loop (x := x) (f := f) (g := g) hn hxz hf hf2 hcap hg (fun gi l7 l8 l6 hgi => ?_) (z) _ g none none rfl (Nat.le_refl _) (fun j hj1 hj2 => by omega) (fun j _ => rfl)) rfl ?_ rfl rfl
  · iterate 6 refine mj_T.pl rfl rfl rfl rfl ?_
    refine mj_T.if0 rfl ⟨by omega, by omega⟩ (fun hc108 => ?_) (fun hc108 => ?_)
    · simp only [jc, Bool.not_eq_true', decide_eq_false_iff_not] at hc108
      iterate 3 refine mj_T.pl rfl rfl rfl rfl ?_
      refine mj_T.ret rfl rfl rfl ⟨gi, hgi, ?_⟩
      rw [if_neg (fun h => hc108 (by rw [h]; exact congrArg Int.ofNat jnl_zero))]
      rfl
    · simp only [jc, Bool.not_eq_false', decide_eq_true_eq] at hc108
      have h0 : x / f = 0 := jnl_eq0.mp (by omega)
      iterate 3 refine mj_T.pl rfl rfl rfl rfl ?_
      refine mj_T.ret rfl rfl rfl ⟨gi, hgi, ?_⟩
      rw [if_pos h0]
      rfl
  · rw [jnl_le.mp hxz, Nat.zero_mod]
    rw [show jup (x / f) (z) = 0 by unfold jup; rw [if_neg (by omega)]]
    rfl
/-! Divisor: split, the whole of it. -/
theorem jsg_tdiv (u v : Int) : jsg (u.tdiv v) = if u.natAbs / v.natAbs = 0 then 0 else jsg u * jsg v := by
  have ha : (u.tdiv v).natAbs = u.natAbs / v.natAbs := Int.natAbs_tdiv u v
  by_cases h : u.natAbs / v.natAbs = 0
  · rw [if_pos h, show u.tdiv v = 0 by rw [← Int.natAbs_eq_zero, ha]; exact h]
    rfl
  · rw [if_neg h]
    have hv : v ≠ 0 := fun q => h (by rw [q]; simp)
    have hu : u ≠ 0 := fun q => h (by rw [q]; simp)
    have hz : u.tdiv v ≠ 0 := fun q => h (by rw [← ha, q]; rfl)
    rcases Int.lt_or_gt_of_ne hu with hu1 | hu1 <;> rcases Int.lt_or_gt_of_ne hv with hv1 | hv1
    · have := Int.tdiv_nonneg (a := -u) (b := -v) (by omega) (by omega)
      rw [Int.neg_tdiv, Int.tdiv_neg, Int.neg_neg] at this
      rw [jsg_pos (by omega), jsg_neg hu1, jsg_neg hv1]
      rfl
    · have := Int.tdiv_nonneg (a := -u) (b := v) (by omega) (by omega)
      rw [Int.neg_tdiv] at this
      rw [jsg_neg (by omega), jsg_neg hu1, jsg_pos hv1]
      rfl
    · have := Int.tdiv_nonneg (a := u) (b := -v) (by omega) (by omega)
      rw [Int.tdiv_neg] at this
      rw [jsg_neg (by omega), jsg_pos hu1, jsg_neg hv1]
      rfl
    · have := Int.tdiv_nonneg (a := u) (b := v) (by omega) (by omega)
      rw [jsg_pos (by omega), jsg_pos hu1, jsg_pos hv1]
      rfl
theorem jsg_tmod (u v : Int) : jsg (u.tmod v) = if u.natAbs % v.natAbs = 0 then 0 else jsg u := by
  have ha : (u.tmod v).natAbs = u.natAbs % v.natAbs := Int.natAbs_tmod u v
  by_cases h : u.natAbs % v.natAbs = 0
  · rw [if_pos h, show u.tmod v = 0 by rw [← Int.natAbs_eq_zero, ha]; exact h]
    rfl
  · rw [if_neg h]
    have hz : u.tmod v ≠ 0 := fun q => h (by rw [← ha, q]; rfl)
    have hu : u ≠ 0 := fun q => h (by rw [q]; simp)
    rcases Int.lt_or_gt_of_ne hu with hu1 | hu1
    · have := Int.tmod_nonneg (a := -u) v (by omega)
      rw [Int.neg_tmod] at this
      rw [jsg_neg (by omega), jsg_neg hu1]
    · have := Int.tmod_nonneg (a := u) v (by omega)
      rw [jsg_pos (by omega), jsg_pos hu1]
theorem jw_split {D nd m nq : Nat} {u v sz0 : Int} {g0 : Int32} {gv gy gq : Nat → Int32} (hnd : nd ≤ 1000) (hm : m ≤ 1000) (hnq : nq ≤ 1000) (hVn : jnl v.natAbs ≤ nd) (hX : jnl (u.natAbs * jfa v.natAbs) ≤ m) (hcap : jnl (u.tdiv v).natAbs ≤ nq) (hgv : ∀ j, j < jnl v.natAbs → gv j = jn (jlb (v.natAbs * jfa v.natAbs) j)) (hgy : ∀ j, j < jnl u.natAbs → gy j = jn (jlb u.natAbs j)) :
    mj_Ok (D + 2) 31 [.ref 0, .ref 2, .ref 4] (jH6 nd m nq (jnl v.natAbs) (jsg v) (jfa v.natAbs) (jnl u.natAbs) (jsg u) sz0 g0 gv gy gq)
      (fun r => ∃ gy' gq' : Nat → Int32, (∀ j, j < jnl (u.tmod v).natAbs → gy' j = jn (jlb (u.tmod v).natAbs j)) ∧ (∀ j, j < jnl (u.tdiv v).natAbs → gq' j = jn (jlb (u.tdiv v).natAbs j)) ∧ r = (.inl none, jH6 nd m nq (jnl v.natAbs) (jsg v) (jfa v.natAbs) (jnl (u.tmod v).natAbs) (jsg (u.tmod v)) (jnl (u.tdiv v).natAbs) (jn (jsg (u.tdiv v))) gv gy' gq')) := by
  have hsu := jsg_range u
  have hsv := jsg_range v
  have hsp : -1 ≤ jsg u * jsg v ∧ jsg u * jsg v ≤ 1 := by
    rcases (show jsg u = -1 ∨ jsg u = 0 ∨ jsg u = 1 by omega) with h | h | h <;> rw [h] <;> omega
  have hfa := jfa_pos v.natAbs
  refine mj_Ok.of (M := mj_m31) rfl rfl rfl ?_
  iterate 4 refine mj_T.pl rfl rfl rfl rfl ?_
  refine mj_T.imul rfl ?_
  iterate 3 refine mj_T.pl rfl rfl rfl rfl ?_
  refine mj_T.call (ins := .invokevirtual 37) rfl rfl (Nat.le_of_ble_eq_true rfl) (Nat.le_of_ble_eq_true rfl) rfl rfl (jat_Q (jw_setLong (D := D) (v := 0) (n := nq) (s0 := jn sz0) (g0 := g0) (g := gq) ⟨by decide, by decide⟩ (by omega)) (fun r h => by obtain ⟨_, _, _, h⟩ := h; rw [h]; rfl)) (fun v' h' hq' => ?_) (fun i h' hq' => by obtain ⟨_, _, ⟨_, _, _, h1⟩, h2⟩ := hq'; cases h1; cases h2)
  obtain ⟨r0, K', ⟨g1, z1, z2, h1⟩, h2⟩ := hq'
  cases h1
  cases h2
  have emin : min nq (jnl (0 : Int).natAbs) = 0 := by rw [show (0 : Int).natAbs = 0 from rfl, jnl_zero]; omega
  refine mj_T.eq (st2 := []) (h2 := jH6 nd m nq (jnl v.natAbs) (jsg v) (jfa v.natAbs) (jnl u.natAbs) (jsg u) 0 (jn 0) gv gy g1) ?_ rfl rfl rfl (by rw [emin]; rfl)
  iterate 1 refine mj_T.pl rfl rfl rfl rfl ?_
  refine mj_T.if0 rfl ⟨by omega, by omega⟩ (fun hc16 => ?_) (fun hc16 => ?_)
  rotate_left
  · simp only [jc, Bool.not_eq_false', decide_eq_true_eq] at hc16
    have h0 : u = 0 ∨ v = 0 := by
      rcases Int.lt_trichotomy u 0 with h1 | h1 | h1
      · rcases Int.lt_trichotomy v 0 with h2 | h2 | h2
        · rw [jsg_neg h1, jsg_neg h2] at hc16; omega
        · exact Or.inr h2
        · rw [jsg_neg h1, jsg_pos h2] at hc16; omega
      · exact Or.inl h1
      · rcases Int.lt_trichotomy v 0 with h2 | h2 | h2
        · rw [jsg_pos h1, jsg_neg h2] at hc16; omega
        · exact Or.inr h2
        · rw [jsg_pos h1, jsg_pos h2] at hc16; omega
    have e1 : u.tdiv v = 0 := by rcases h0 with h | h <;> rw [h] <;> simp
    have e2 : u.tmod v = u := by rcases h0 with h | h <;> rw [h] <;> simp
    rw [e1, e2]
    refine mj_T.ret rfl rfl rfl ⟨gy, g1, hgy, fun j hj => ?_, ?_⟩
    · rw [show (0 : Int).natAbs = 0 from rfl, jnl_zero] at hj; omega
    · rw [show (0 : Int).natAbs = 0 from rfl, jnl_zero]
      rfl
  · simp only [jc, Bool.not_eq_true', decide_eq_false_iff_not] at hc16
    have hu : u ≠ 0 := fun h => hc16 (by rw [h]; simp [jsg])
    have hv : v ≠ 0 := fun h => hc16 (by rw [h]; simp [jsg])
    have hv0 : 0 < v.natAbs := by omega
    have hVnl := jfa_nl (x := v.natAbs)
    have hnorm := jfa_norm hv0
    have eq1 : u.natAbs * jfa v.natAbs / (v.natAbs * jfa v.natAbs) = (u.tdiv v).natAbs := by rw [Nat.mul_div_mul_right _ _ hfa.1]; exact (Int.natAbs_tdiv u v).symm
    have eq2 : u.natAbs * jfa v.natAbs % (v.natAbs * jfa v.natAbs) = (u.tmod v).natAbs * jfa v.natAbs := by rw [Nat.mul_mod_mul_right, Int.natAbs_tmod]
    iterate 3 refine mj_T.pl rfl rfl rfl rfl ?_
    refine mj_T.call (ins := .invokevirtual 41) rfl rfl (Nat.le_of_ble_eq_true rfl) (Nat.le_of_ble_eq_true rfl) rfl rfl (jat_W (jw_scale (D := D) (x := u.natAbs) (f := jfa v.natAbs) (g0 := jn (jsg u)) (g := gy) (by omega) hfa.1 hfa.2 hX hgy) (fun r h => by obtain ⟨_, _, h⟩ := h; rw [h]; rfl)) (fun v' h' hq' => ?_) (fun i h' hq' => by obtain ⟨_, _, ⟨_, _, h1⟩, h2⟩ := hq'; cases h1; cases h2)
    obtain ⟨r0, K', ⟨g2, hg2, h1⟩, h2⟩ := hq'
    cases h1
    cases h2
    refine mj_T.eq (st2 := []) (h2 := jH6 nd m nq (jnl v.natAbs) (jsg v) (jfa v.natAbs) (jnl (u.natAbs * jfa v.natAbs)) (jsg u) 0 (jn 0) gv g2 g1) ?_ rfl rfl rfl rfl
    have fin : ∀ (gy' gq' : Nat → Int32) (w : Int) (l5 : Option Value), (∀ j, j < jnl (u.natAbs * jfa v.natAbs) → gy' j = jn (jlb (u.natAbs * jfa v.natAbs % (v.natAbs * jfa v.natAbs)) j)) → (∀ j, j < jnl (u.natAbs * jfa v.natAbs / (v.natAbs * jfa v.natAbs)) → gq' j = jn (jlb (u.natAbs * jfa v.natAbs / (v.natAbs * jfa v.natAbs)) j)) →
        mj_T (D + 1) mj_m31 98 [some (.ref 0), some (.ref 2), some (.ref 4), some (.int (jn (jsg u * jsg v))), some (.int (jn w)), l5, none] [] (jH6 nd m nq (jnl v.natAbs) (jsg v) (jfa v.natAbs) (jnl (u.natAbs * jfa v.natAbs)) (jsg u) (jnl (u.natAbs * jfa v.natAbs / (v.natAbs * jfa v.natAbs))) (jn 0) gv gy' gq')
          (fun r => ∃ gy' gq' : Nat → Int32, (∀ j, j < jnl (u.tmod v).natAbs → gy' j = jn (jlb (u.tmod v).natAbs j)) ∧ (∀ j, j < jnl (u.tdiv v).natAbs → gq' j = jn (jlb (u.tdiv v).natAbs j)) ∧ r = (.inl none, jH6 nd m nq (jnl v.natAbs) (jsg v) (jfa v.natAbs) (jnl (u.tmod v).natAbs) (jsg (u.tmod v)) (jnl (u.tdiv v).natAbs) (jn (jsg (u.tdiv v))) gv gy' gq')) := by
      intro gy' gq' w l5 hy hq
      rw [eq1] at hq ⊢
      have k : ∀ z : Int, z = jsg (u.tdiv v) → mj_T (D + 1) mj_m31 111 [some (.ref 0), some (.ref 2), some (.ref 4), some (.int (jn (jsg u * jsg v))), some (.int (jn w)), l5, none] [.int (jn z), .ref 4] (jH6 nd m nq (jnl v.natAbs) (jsg v) (jfa v.natAbs) (jnl (u.natAbs * jfa v.natAbs)) (jsg u) (jnl (u.tdiv v).natAbs) (jn 0) gv gy' gq')
          (fun r => ∃ gy' gq' : Nat → Int32, (∀ j, j < jnl (u.tmod v).natAbs → gy' j = jn (jlb (u.tmod v).natAbs j)) ∧ (∀ j, j < jnl (u.tdiv v).natAbs → gq' j = jn (jlb (u.tdiv v).natAbs j)) ∧ r = (.inl none, jH6 nd m nq (jnl v.natAbs) (jsg v) (jfa v.natAbs) (jnl (u.tmod v).natAbs) (jsg (u.tmod v)) (jnl (u.tdiv v).natAbs) (jn (jsg (u.tdiv v))) gv gy' gq')) := by
        intro z hz
        subst hz
        iterate 4 refine mj_T.pl rfl rfl rfl rfl ?_
        have hXm : jnl (u.natAbs * jfa v.natAbs % (v.natAbs * jfa v.natAbs)) ≤ jnl (u.natAbs * jfa v.natAbs) := jnl_mono (Nat.mod_le _ _)
        refine mj_T.call (ins := .invokevirtual 60) rfl rfl (Nat.le_of_ble_eq_true rfl) (Nat.le_of_ble_eq_true rfl) rfl rfl (jat_W (sz := (jnl (u.tdiv v).natAbs : Nat)) (g0 := jn (jsg (u.tdiv v))) (jw_cutS (D := D) (z := jnl (u.natAbs * jfa v.natAbs)) (x := u.natAbs * jfa v.natAbs % (v.natAbs * jfa v.natAbs)) (f := jfa v.natAbs) (s := jsg u) (g := gy') (by omega) hXm hfa.1 hfa.2 hX hy) (fun r h => by obtain ⟨_, _, h⟩ := h; rw [h]; rfl)) (fun v' h' hq' => ?_) (fun i h' hq' => by obtain ⟨_, _, ⟨_, _, h1⟩, h2⟩ := hq'; cases h1; cases h2)
        obtain ⟨r0, K', ⟨g3, hg3, h1⟩, h2⟩ := hq'
        cases h1
        cases h2
        have ex : u.natAbs * jfa v.natAbs % (v.natAbs * jfa v.natAbs) / jfa v.natAbs = (u.tmod v).natAbs := by rw [eq2, Nat.mul_div_cancel _ hfa.1]
        have es : (if u.natAbs * jfa v.natAbs % (v.natAbs * jfa v.natAbs) / jfa v.natAbs = 0 then 0 else jsg u) = jsg (u.tmod v) := by rw [ex, jsg_tmod, Int.natAbs_tmod]
        refine mj_T.ret rfl rfl rfl ⟨g3, gq', fun j hj => ?_, hq, ?_⟩
        · rw [← ex]
          refine hg3 j ?_
          rw [← ex] at hj
          exact Nat.lt_of_lt_of_le hj (Nat.le_trans (jnl_mono (Nat.div_le_self _ _)) hXm)
        · rw [← es, ← ex]
          rfl
      iterate 3 refine mj_T.pl rfl rfl rfl rfl ?_
      have hq0 : (u.tdiv v).natAbs = u.natAbs / v.natAbs := Int.natAbs_tdiv u v
      refine mj_T.if0 rfl ⟨by omega, by omega⟩ (fun hc103 => ?_) (fun hc103 => ?_)
      · simp only [jc, Bool.not_eq_true', decide_eq_false_iff_not] at hc103
        iterate 1 refine mj_T.pl rfl rfl rfl rfl ?_
        exact k _ (by rw [jsg_tdiv, if_neg (fun h => hc103 (by rw [hq0, h]; exact congrArg Int.ofNat jnl_zero))])
      · simp only [jc, Bool.not_eq_false', decide_eq_true_eq] at hc103
        iterate 2 refine mj_T.pl rfl rfl rfl rfl ?_
        exact k 0 (by rw [jsg_tdiv, if_pos (by rw [← hq0]; exact jnl_eq0.mp (by omega))])
    iterate 4 refine mj_T.pl rfl rfl rfl rfl ?_
    refine mj_T.isub rfl ?_
    refine mj_T.pl rfl rfl rfl rfl ?_
    generalize hXX : u.natAbs * jfa v.natAbs = X at *
    generalize hVV : v.natAbs * jfa v.natAbs = V at *
    rcases Nat.lt_or_ge (jnl X) (jnl v.natAbs) with hs | hs
    · have hlt : X < V := jlt_nl (by omega)
      refine mj_T.pl rfl rfl rfl rfl ?_
      refine mj_T.if0 rfl ⟨by omega, by omega⟩ (fun hc41 => ?_) (fun hc41 => ?_)
      · have t := fin g2 g1 ((jnl X : Int) - (jnl v.natAbs : Nat)) none (fun j hj => by rw [Nat.mod_eq_of_lt hlt]; exact hg2 j hj) (fun j hj => by rw [Nat.div_eq_of_lt hlt, jnl_zero] at hj; omega)
        refine mj_T.eq t rfl rfl rfl ?_
        rw [Nat.div_eq_of_lt hlt, jnl_zero]
        rfl
      · simp only [jc, decide_eq_false_iff_not] at hc41; omega
    · have hVlow : jB ^ (jnl v.natAbs - 1) ≤ V := by
        apply Decidable.byContradiction
        intro h
        have := jnl_of (Nat.not_le.mp h)
        have hn0 : jnl v.natAbs ≠ 0 := fun q => by have := jnl_eq0.mp q; omega
        omega
      have hV0 : 0 < V := Nat.lt_of_lt_of_le (jB_pow _) hVlow
      have hXk : X / jB ^ (jnl X - jnl v.natAbs + 1) < V := by
        refine Nat.lt_of_lt_of_le ?_ hVlow
        rw [Nat.div_lt_iff_lt_mul (jB_pow _), ← Nat.pow_add]
        have hn0 : jnl v.natAbs ≠ 0 := fun q => by have := jnl_eq0.mp q; omega
        rw [show jnl v.natAbs - 1 + (jnl X - jnl v.natAbs + 1) = jnl X by omega]
        exact jnl_le_lt.mp (Nat.le_refl _)
      have hyk : jyk X V (jnl X - jnl v.natAbs + 1) = X := by
        unfold jyk
        rw [Nat.mod_eq_of_lt hXk, Nat.mul_comm]
        exact Nat.div_add_mod _ _
      have hzk : jnl (X / V) ≤ jnl X - jnl v.natAbs + 1 := by
        refine jnl_of ?_
        rw [Nat.div_lt_iff_lt_mul hV0, Nat.mul_comm]
        exact (Nat.div_lt_iff_lt_mul (jB_pow _)).mp hXk
      rw [← hVnl] at hgv hVn fin hnorm hs ⊢
      refine mj_T.eq (jw_split_loop (X := X) (V := V) (S := jnl X) (sv := jsg v) (fac := jfa v.natAbs) (s2 := jsg u) (g0 := jn 0) (sg := jsg u * jsg v) hnd hm hnq hV0 hnorm hVn hX (Nat.le_refl _) (by rw [eq1]; exact hcap) hgv (fun gy' gq' w l5 h1 h2 => fin gy' gq' w l5 h1 h2) (jnl X - jnl V + 1) ((jnl X : Int) - (jnl V : Nat)) g2 g1 none (by omega) (by omega) (fun j hj => by rw [hVnl, hyk]; exact hg2 j hj) (fun j hj1 hj2 => by rw [hVnl] at hj1; omega)) rfl rfl rfl ?_
      rw [show jup (X / V) (jnl X - jnl V + 1) = 0 by unfold jup; rw [hVnl, if_neg (by omega)]]
      rfl
/-! The reference: one object, seven arrays; its numbers lie in slots of 702 places of the array 'big'. -/
abbrev jMo (t : Nat → Value) : List Value := [.ref 1, .ref 2, t 2, t 3, .ref 3, .ref 4, .ref 5, t 7, .ref 6, t 9, t 10, t 11, t 12, t 13, .ref 7, t 15]
abbrev jHM (t : Nat → Value) (nw bf : Nat → Int64) (bg ov db tx wr : Nat → Int32) : mj_H := [.inr (10, jMo t), .inl (1, 91, fun j => .long (nw j)), .inl (1, 728, fun j => .long (bf j)), .inl (0, 466830, fun j => .int (bg j)), .inl (0, 1404, fun j => .int (ov j)), .inl (0, 702, fun j => .int (db j)), .inl (0, 200, fun j => .int (tx j)), .inl (0, 600, fun j => .int (wr j))]
/-- slot s holds v -/
def jrs (bg : Nat → Int32) (s : Nat) (v : Int) : Prop := bg (s * 702) = jn (jsg v) ∧ bg (s * 702 + 1) = jn (jnl v.natAbs) ∧ (∀ j, j < jnl v.natAbs → bg (s * 702 + 2 + j) = jn (jlb v.natAbs j)) ∧ jnl v.natAbs ≤ 700
/-- but for slot s all is as it was -/
def jrf (bg bg' : Nat → Int32) (s : Nat) : Prop := ∀ j, (j < s * 702 ∨ s * 702 + 702 ≤ j) → bg' j = bg j
theorem jrs_keep {bg bg' : Nat → Int32} {s s' : Nat} {v : Int} (h : jrs bg s' v) (hf : jrf bg bg' s) (hs : s' ≠ s) : jrs bg' s' v := by
  obtain ⟨h1, h2, h3, h4⟩ := h
  have hlt : s' < s ∨ s < s' := by omega
  refine ⟨(hf _ (by omega)).trans h1, (hf _ (by omega)).trans h2, fun j hj => (hf _ (by omega)).trans (h3 j hj), h4⟩
section MJR
variable {D : Nat} {t : Nat → Value} {nw bf : Nat → Int64} {bg ov db tx wr : Nat → Int32}
theorem jr_sign {s : Nat} {v : Int} (hs : s < 665) (h : jrs bg s v) : mj_Ok (D + 1) 178 [.ref 0, .int (jn s)] (jHM t nw bf bg ov db tx wr) (fun r => r = (.inl (some (.int (jn (jsg v)))), jHM t nw bf bg ov db tx wr)) := by
  refine mj_Ok.of (M := mj_m178) rfl rfl rfl ?_
  iterate 4 refine mj_T.pl rfl rfl rfl rfl ?_
  refine mj_T.imul (b := 702) rfl ?_
  rw [show (s : Int) * 702 = ((s * 702 : Nat) : Int) by omega]
  refine mj_T.ialv rfl rfl ⟨by omega, by omega⟩ ⟨by omega, by omega⟩ h.1 ?_
  exact mj_T.ret rfl rfl rfl rfl
theorem jr_length {s : Nat} {v : Int} (hs : s < 665) (h : jrs bg s v) : mj_Ok (D + 1) 179 [.ref 0, .int (jn s)] (jHM t nw bf bg ov db tx wr) (fun r => r = (.inl (some (.int (jn (jnl v.natAbs)))), jHM t nw bf bg ov db tx wr)) := by
  refine mj_Ok.of (M := mj_m179) rfl rfl rfl ?_
  iterate 4 refine mj_T.pl rfl rfl rfl rfl ?_
  refine mj_T.imul (b := 702) rfl ?_
  refine mj_T.pl rfl rfl rfl rfl ?_
  refine mj_T.iadd (b := 1) rfl ?_
  rw [show (s : Int) * 702 + 1 = ((s * 702 + 1 : Nat) : Int) by omega]
  refine mj_T.ialv rfl rfl ⟨by omega, by omega⟩ ⟨by omega, by omega⟩ h.2.1 ?_
  exact mj_T.ret rfl rfl rfl rfl
end MJR
/-! The reference: sets. -/
theorem jr_sets_loop {D s x : Nat} {v : Int} {t : Nat → Value} {nw bf : Nat → Int64} {bg0 ov db tx wr : Nat → Int32} (hs : s < 665) (hx : x < 1000000000000000000000000000) (hx2 : x ≤ 9223372036854775808) {Q : mj_R → Prop}
    (hend : ∀ bg : Nat → Int32, bg (s * 702) = bg0 (s * 702) → bg (s * 702 + 1) = jn (jnl x) → (∀ j, j < jnl x → bg (s * 702 + 2 + j) = jn (jlb x j)) → (∀ j, (j < s * 702 ∨ s * 702 + 702 ≤ j) → bg j = bg0 j) → Q (.inl none, jHM t nw bf bg ov db tx wr)) :
    ∀ (d i : Nat) (bg : Nat → Int32), i + d = jnl x → bg (s * 702) = bg0 (s * 702) → (∀ j, j < i → bg (s * 702 + 2 + j) = jn (jlb x j)) → (∀ j, (j < s * 702 ∨ s * 702 + 702 ≤ j) → bg j = bg0 j) →
      mj_T D mj_m181 52 [some (.ref 0), some (.int (jn s)), some (.long (jl v)), none, some (.int (jn (s * 702 : Nat))), some (.int (jn i)), some (.long (jl (-(x / jB ^ i : Nat)))), none] [] (jHM t nw bf bg ov db tx wr) Q := by
  have hnl : jnl x ≤ 3 := jnl_le_lt.mpr (by rw [show jB ^ 3 = 1000000000000000000000000000 from rfl]; exact hx)
  intro d
  induction d with
  | zero =>
    intro i bg hid h1 h2 h3
    have ei : i = jnl x := by omega
    subst ei
    have e0 := jnl_le.mp (Nat.le_refl (jnl x))
    iterate 2 refine mj_T.pl rfl rfl rfl rfl ?_
    refine mj_T.lif (b := 0) rfl rfl ⟨by omega, by omega⟩ ⟨by omega, by omega⟩ (fun hc => ?_) (fun hc => ?_)
    · iterate 3 refine mj_T.pl rfl rfl rfl rfl ?_
      refine mj_T.pl rfl rfl rfl rfl ?_
      refine mj_T.iadd (b := 1) rfl ?_
      rw [show ((s * 702 : Nat) : Int) + 1 = ((s * 702 + 1 : Nat) : Int) by omega]
      refine mj_T.pl rfl rfl rfl rfl ?_
      refine mj_T.iast rfl rfl ⟨by omega, by omega⟩ ⟨by omega, by omega⟩ ?_
      refine mj_T.ret rfl rfl rfl (hend (upd bg (s * 702 + 1) (jn (jnl x))) ?_ ?_ (fun j hj => ?_) (fun j hj => ?_))
      · unfold upd; rw [if_neg (by omega)]; exact h1
      · unfold upd; rw [if_pos rfl]
      · unfold upd; rw [if_neg (by omega)]; exact h2 j hj
      · unfold upd; rw [if_neg (by omega)]; exact h3 j hj
    · simp only [jc, decide_eq_false_iff_not] at hc; omega
  | succ d ih =>
    intro i bg hid h1 h2 h3
    have hne := jnl_lt.mp (show i < jnl x by omega)
    have hle := Nat.div_le_self x (jB ^ i)
    have hlt := jlb_lt x i
    have hlim : x / jB ^ i % 1000000000 = jlb x i := rfl
    have hdiv : x / jB ^ i / 1000000000 = x / jB ^ (i + 1) := by rw [Nat.div_div_eq_div_mul, Nat.pow_succ]
    generalize hy : x / jB ^ i = y at *
    iterate 2 refine mj_T.pl rfl rfl rfl rfl ?_
    refine mj_T.lif (b := 0) rfl rfl ⟨by omega, by omega⟩ ⟨by omega, by omega⟩ (fun hc => ?_) (fun hc => ?_)
    · simp only [jc, decide_eq_true_eq] at hc; omega
    · iterate 4 refine mj_T.pl rfl rfl rfl rfl ?_
      refine mj_T.iadd (b := 2) rfl ?_
      refine mj_T.pl rfl rfl rfl rfl ?_
      refine mj_T.iadd rfl ?_
      rw [show ((s * 702 : Nat) : Int) + 2 + (i : Int) = ((s * 702 + 2 + i : Nat) : Int) by omega]
      iterate 2 refine mj_T.pl rfl rfl rfl rfl ?_
      refine mj_T.lrem (b := 1000000000) rfl ⟨by omega, by omega⟩ ⟨by omega, by omega⟩ (by omega) ?_
      refine mj_T.lneg rfl ?_
      rw [show -(-((y : Nat) : Int)).tmod 1000000000 = ((jlb x i : Nat) : Int) by rw [Int.neg_tmod, Int.neg_neg, ← hlim]; rfl]
      refine mj_T.l2i rfl ?_
      refine mj_T.iast rfl rfl ⟨by omega, by omega⟩ ⟨by omega, by omega⟩ ?_
      refine mj_T.iinc (a := i) rfl rfl ?_
      iterate 2 refine mj_T.pl rfl rfl rfl rfl ?_
      refine mj_T.ldiv (b := 1000000000) rfl ⟨by omega, by omega⟩ ⟨by omega, by omega⟩ (by omega) ?_
      rw [show (-((y : Nat) : Int)).tdiv 1000000000 = -((x / jB ^ (i + 1) : Nat) : Int) by rw [Int.neg_tdiv, ← hdiv]; rfl]
      iterate 2 refine mj_T.pl rfl rfl rfl rfl ?_
      refine ih (i + 1) (upd bg (s * 702 + 2 + i) (jn (jlb x i))) (by omega) ?_ (fun j hj => ?_) (fun j hj => ?_)
      · unfold upd; rw [if_neg (by omega)]; exact h1
      · unfold upd
        by_cases h : j = i
        · subst h; rw [if_pos rfl]
        · rw [if_neg (by omega)]; exact h2 j (by omega)
      · unfold upd; rw [if_neg (by omega)]; exact h3 j hj
theorem jr_sets {D s : Nat} {v : Int} {t : Nat → Value} {nw bf : Nat → Int64} {bg ov db tx wr : Nat → Int32} (hs : s < 665) (hv : jR v) :
    mj_Ok (D + 1) 181 [.ref 0, .int (jn s), .long (jl v)] (jHM t nw bf bg ov db tx wr) (fun r => ∃ bg' : Nat → Int32, jrs bg' s v ∧ jrf bg bg' s ∧ r = (.inl none, jHM t nw bf bg' ov db tx wr)) := by
  have hx2 : v.natAbs ≤ 9223372036854775808 := by have := hv.1; have := hv.2; omega
  have hnl : jnl v.natAbs ≤ 3 := jnl_le_lt.mpr (by rw [show jB ^ 3 = 1000000000000000000000000000 from rfl]; omega)
  refine mj_Ok.of (M := mj_m181) rfl rfl rfl ?_
  iterate 2 refine mj_T.pl rfl rfl rfl rfl ?_
  refine mj_T.imul (b := 702) rfl ?_
  rw [show (s : Int) * 702 = ((s * 702 : Nat) : Int) by omega]
  have k50 : ∀ (w : Int) (bg1 : Nat → Int32), w = -((v.natAbs : Nat) : Int) → bg1 = upd bg (s * 702) (jn (jsg v)) → mj_T D mj_m181 50 [some (.ref 0), some (.int (jn s)), some (.long (jl v)), none, some (.int (jn (s * 702 : Nat))), some (.int (jn 0)), none, none] [.long (jl w)] (jHM t nw bf bg1 ov db tx wr)
      (fun r => ∃ bg' : Nat → Int32, jrs bg' s v ∧ jrf bg bg' s ∧ r = (.inl none, jHM t nw bf bg' ov db tx wr)) := by
    intro w bg1 hw hb
    subst hw
    subst hb
    refine mj_T.pl rfl rfl rfl rfl ?_
    refine mj_T.eq (jr_sets_loop (x := v.natAbs) (v := v) (bg0 := upd bg (s * 702) (jn (jsg v))) hs (by omega) hx2 (fun bg' h1 h2 h3 h4 => ⟨bg', ⟨?_, h2, h3, by omega⟩, fun j hj => ?_, rfl⟩) (jnl v.natAbs) 0 _ (by omega) rfl (fun j hj => by omega) (fun j _ => rfl)) rfl ?_ rfl rfl
    · rw [Nat.pow_zero, Nat.div_one]; rfl
    · rw [h1]; exact if_pos rfl
    · rw [h4 j hj]; exact if_neg (by omega)
  have k34 : ∀ z : Int, z = jsg v → mj_T D mj_m181 34 [some (.ref 0), some (.int (jn s)), some (.long (jl v)), none, some (.int (jn (s * 702 : Nat))), none, none, none] [.int (jn z), .int (jn (s * 702 : Nat)), .ref 3] (jHM t nw bf bg ov db tx wr)
      (fun r => ∃ bg' : Nat → Int32, jrs bg' s v ∧ jrf bg bg' s ∧ r = (.inl none, jHM t nw bf bg' ov db tx wr)) := by
    intro z hz
    subst hz
    refine mj_T.iast rfl rfl ⟨by omega, by omega⟩ ⟨by omega, by omega⟩ ?_
    iterate 4 refine mj_T.pl rfl rfl rfl rfl ?_
    refine mj_T.lif (b := 0) rfl rfl hv ⟨by omega, by omega⟩ (fun hc => ?_) (fun hc => ?_)
    · simp only [jc, decide_eq_true_eq] at hc
      refine mj_T.pl rfl rfl rfl rfl ?_
      exact k50 v _ (by omega) rfl
    · simp only [jc, decide_eq_false_iff_not] at hc
      refine mj_T.pl rfl rfl rfl rfl ?_
      refine mj_T.lneg rfl ?_
      refine mj_T.pl rfl rfl rfl rfl ?_
      exact k50 (-v) _ (by omega) rfl
  iterate 6 refine mj_T.pl rfl rfl rfl rfl ?_
  refine mj_T.lif (b := 0) rfl rfl hv ⟨by omega, by omega⟩ (fun hc => ?_) (fun hc => ?_)
  · simp only [jc, decide_eq_true_eq] at hc
    iterate 2 refine mj_T.pl rfl rfl rfl rfl ?_
    refine mj_T.lif (b := 0) rfl rfl hv ⟨by omega, by omega⟩ (fun hc2 => ?_) (fun hc2 => ?_)
    · simp only [jc, decide_eq_true_eq] at hc2
      refine mj_T.pl rfl rfl rfl rfl ?_
      exact k34 0 (by unfold jsg; rw [if_neg (by omega), if_neg (by omega)])
    · simp only [jc, decide_eq_false_iff_not] at hc2
      iterate 2 refine mj_T.pl rfl rfl rfl rfl ?_
      exact k34 (-1) (jsg_neg (by omega)).symm
  · simp only [jc, decide_eq_false_iff_not] at hc
    iterate 2 refine mj_T.pl rfl rfl rfl rfl ?_
    exact k34 1 (jsg_pos (by omega)).symm
/-! The reference: limb, trims. -/
section MJR2
variable {D : Nat} {t : Nat → Value} {nw bf : Nat → Int64} {bg ov db tx wr : Nat → Int32}
theorem jr_limb {s k : Nat} {v : Int} (hs : s < 665) (hk : k ≤ 700) (h : jrs bg s v) : mj_Ok (D + 2) 180 [.ref 0, .int (jn s), .int (jn k)] (jHM t nw bf bg ov db tx wr) (fun r => r = (.inl (some (.int (jn (jlb v.natAbs k)))), jHM t nw bf bg ov db tx wr)) := by
  have h4 := h.2.2.2
  refine mj_Ok.of (M := mj_m180) rfl rfl rfl ?_
  iterate 3 refine mj_T.pl rfl rfl rfl rfl ?_
  refine mj_T.call (ins := .invokevirtual 52) rfl rfl (Nat.le_of_ble_eq_true rfl) (Nat.le_of_ble_eq_true rfl) rfl rfl (jr_length (D := D) hs h) (fun v' h' hq' => ?_) (fun i h' hq' => by cases hq')
  cases hq'
  refine mj_T.icmp rfl ⟨by omega, by omega⟩ ⟨by omega, by omega⟩ (fun hc => ?_) (fun hc => ?_)
  · simp only [jc, decide_eq_true_eq] at hc
    refine mj_T.pl rfl rfl rfl rfl ?_
    refine mj_T.ret rfl rfl rfl ?_
    rw [jlb_high (show jnl v.natAbs ≤ k by omega)]
    rfl
  · simp only [jc, decide_eq_false_iff_not] at hc
    iterate 4 refine mj_T.pl rfl rfl rfl rfl ?_
    refine mj_T.imul (b := 702) rfl ?_
    refine mj_T.pl rfl rfl rfl rfl ?_
    refine mj_T.iadd (b := 2) rfl ?_
    refine mj_T.pl rfl rfl rfl rfl ?_
    refine mj_T.iadd rfl ?_
    rw [show (s : Int) * 702 + 2 + (k : Int) = ((s * 702 + 2 + k : Nat) : Int) by omega]
    refine mj_T.ialv rfl rfl ⟨by omega, by omega⟩ ⟨by omega, by omega⟩ (h.2.2.1 k (by omega)) ?_
    refine mj_T.pl rfl rfl rfl rfl ?_
    exact mj_T.ret rfl rfl rfl rfl
theorem jr_trims_loop {s n x : Nat} {g0 : Int} (hs : s < 665) (hn : n ≤ 700) (hx : jnl x ≤ n) (hsg : bg (s * 702) = jn g0) (hl : ∀ j, j < n → bg (s * 702 + 2 + j) = jn (jlb x j)) {Q : mj_R → Prop}
    (hend : ∀ bg' : Nat → Int32, bg' (s * 702) = jn (if x = 0 then 0 else g0) → bg' (s * 702 + 1) = jn (jnl x) → (∀ j, j < n → bg' (s * 702 + 2 + j) = jn (jlb x j)) → jrf bg bg' s → Q (.inl none, jHM t nw bf bg' ov db tx wr)) :
    ∀ (d k : Nat), k = jnl x + d → k ≤ n →
      mj_T D mj_m183 2 [some (.ref 0), some (.int (jn s)), some (.int (jn n)), some (.int (jn k))] [] (jHM t nw bf bg ov db tx wr) Q := by
  have fin : mj_T D mj_m183 29 [some (.ref 0), some (.int (jn s)), some (.int (jn n)), some (.int (jn (jnl x)))] [] (jHM t nw bf bg ov db tx wr) Q := by
    iterate 4 refine mj_T.pl rfl rfl rfl rfl ?_
    refine mj_T.imul (b := 702) rfl ?_
    refine mj_T.pl rfl rfl rfl rfl ?_
    refine mj_T.iadd (b := 1) rfl ?_
    rw [show (s : Int) * 702 + 1 = ((s * 702 + 1 : Nat) : Int) by omega]
    refine mj_T.pl rfl rfl rfl rfl ?_
    refine mj_T.iast rfl rfl ⟨by omega, by omega⟩ ⟨by omega, by omega⟩ ?_
    refine mj_T.pl rfl rfl rfl rfl ?_
    refine mj_T.if0 rfl ⟨by omega, by omega⟩ (fun hc => ?_) (fun hc => ?_)
    · simp only [jc, Bool.not_eq_true', decide_eq_false_iff_not] at hc
      have h0 : x ≠ 0 := fun q => hc (by rw [q]; exact congrArg Int.ofNat jnl_zero)
      rw [if_neg h0] at hend
      refine mj_T.ret rfl rfl rfl (hend (upd bg (s * 702 + 1) (jn (jnl x))) ?_ ?_ (fun j hj => ?_) (fun j hj => ?_))
      · unfold upd; rw [if_neg (by omega)]; exact hsg
      · unfold upd; exact if_pos rfl
      · unfold upd; rw [if_neg (by omega)]; exact hl j hj
      · unfold upd; exact if_neg (by omega)
    · simp only [jc, Bool.not_eq_false', decide_eq_true_eq] at hc
      have h0 : x = 0 := jnl_eq0.mp (by omega)
      rw [if_pos h0] at hend
      iterate 4 refine mj_T.pl rfl rfl rfl rfl ?_
      refine mj_T.imul (b := 702) rfl ?_
      rw [show (s : Int) * 702 = ((s * 702 : Nat) : Int) by omega]
      refine mj_T.pl rfl rfl rfl rfl ?_
      refine mj_T.iast rfl rfl ⟨by omega, by omega⟩ ⟨by omega, by omega⟩ ?_
      refine mj_T.ret rfl rfl rfl (hend (upd (upd bg (s * 702 + 1) (jn (jnl x))) (s * 702) (jn 0)) ?_ ?_ (fun j hj => ?_) (fun j hj => ?_))
      · unfold upd; exact if_pos rfl
      · unfold upd; rw [if_neg (by omega)]; exact if_pos rfl
      · unfold upd; rw [if_neg (by omega), if_neg (by omega)]; exact hl j hj
      · unfold upd; rw [if_neg (by omega)]; exact if_neg (by omega)
  intro d
  induction d with
  | zero =>
    intro k hk hkn
    have ek : k = jnl x := by omega
    subst ek
    refine mj_T.pl rfl rfl rfl rfl ?_
    refine mj_T.if0 rfl ⟨by omega, by omega⟩ (fun hc => fin) (fun hc => ?_)
    simp only [jc, decide_eq_false_iff_not] at hc
    obtain ⟨p, hp⟩ : ∃ p, jnl x = p + 1 := ⟨jnl x - 1, by omega⟩
    have htop := jlb_top hp.symm
    have hlt := jlb_lt x p
    iterate 4 refine mj_T.pl rfl rfl rfl rfl ?_
    refine mj_T.imul (b := 702) rfl ?_
    refine mj_T.pl rfl rfl rfl rfl ?_
    refine mj_T.iadd (b := 1) rfl ?_
    refine mj_T.pl rfl rfl rfl rfl ?_
    refine mj_T.iadd rfl ?_
    rw [show (s : Int) * 702 + 1 + ((jnl x : Nat) : Int) = ((s * 702 + 2 + p : Nat) : Int) by omega]
    refine mj_T.ialv rfl rfl ⟨by omega, by omega⟩ ⟨by omega, by omega⟩ (hl p (by omega)) ?_
    refine mj_T.if0 rfl ⟨by omega, by omega⟩ (fun hc2 => fin) (fun hc2 => ?_)
    simp only [jc, Bool.not_eq_false', decide_eq_true_eq] at hc2
    omega
  | succ d ih =>
    intro k hk hkn
    have hz : jlb x (k - 1) = 0 := jlb_high (by omega)
    refine mj_T.pl rfl rfl rfl rfl ?_
    refine mj_T.if0 rfl ⟨by omega, by omega⟩ (fun hc => ?_) (fun hc => ?_)
    · simp only [jc, decide_eq_true_eq] at hc; omega
    iterate 4 refine mj_T.pl rfl rfl rfl rfl ?_
    refine mj_T.imul (b := 702) rfl ?_
    refine mj_T.pl rfl rfl rfl rfl ?_
    refine mj_T.iadd (b := 1) rfl ?_
    refine mj_T.pl rfl rfl rfl rfl ?_
    refine mj_T.iadd rfl ?_
    rw [show (s : Int) * 702 + 1 + (k : Int) = ((s * 702 + 2 + (k - 1) : Nat) : Int) by omega]
    refine mj_T.ialv rfl rfl ⟨by omega, by omega⟩ ⟨by omega, by omega⟩ (hl (k - 1) (by omega)) ?_
    refine mj_T.if0 rfl ⟨by omega, by omega⟩ (fun hc2 => ?_) (fun hc2 => ?_)
    · simp only [jc, Bool.not_eq_true', decide_eq_false_iff_not] at hc2
      omega
    · refine mj_T.iinc (a := k) rfl rfl ?_
      refine mj_T.pl rfl rfl rfl rfl ?_
      rw [show (k : Int) + -1 = ((k - 1 : Nat) : Int) by omega]
      exact ih (k - 1) (by omega) (by omega)
theorem jr_trims {s n x : Nat} {g0 : Int} (hs : s < 665) (hn : n ≤ 700) (hx : jnl x ≤ n) (hsg : bg (s * 702) = jn g0) (hl : ∀ j, j < n → bg (s * 702 + 2 + j) = jn (jlb x j)) :
    mj_Ok (D + 1) 183 [.ref 0, .int (jn s), .int (jn n)] (jHM t nw bf bg ov db tx wr) (fun r => ∃ bg' : Nat → Int32, bg' (s * 702) = jn (if x = 0 then 0 else g0) ∧ bg' (s * 702 + 1) = jn (jnl x) ∧ (∀ j, j < n → bg' (s * 702 + 2 + j) = jn (jlb x j)) ∧ jrf bg bg' s ∧ r = (.inl none, jHM t nw bf bg' ov db tx wr)) := by
  refine mj_Ok.of (M := mj_m183) rfl rfl rfl ?_
  iterate 2 refine mj_T.pl rfl rfl rfl rfl ?_
  exact jr_trims_loop (x := x) (g0 := g0) hs hn hx hsg hl (fun bg' h1 h2 h3 h4 => ⟨bg', h1, h2, h3, h4, rfl⟩) (n - jnl x) n (by omega) (Nat.le_refl n)
end MJR2
/-! The reference: addsSizes. -/
section MJR3
variable {D : Nat} {t : Nat → Value} {nw bf : Nat → Int64} {ov db tx wr : Nat → Int32}
theorem jr_adds_loop {to a b x y : Nat} {bg0 : Nat → Int32} {sg : Int} (hto : to < 665) (ha : a < 665) (hb : b < 665) (hx : jnl x ≤ 699) (hy : jnl y ≤ 699) (h1 : ∀ j, j < jnl x → bg0 (a * 702 + 2 + j) = jn (jlb x j)) (h2 : ∀ j, j < jnl y → bg0 (b * 702 + 2 + j) = jn (jlb y j)) {Q : mj_R → Prop}
    (hend : ∀ (bg : Nat → Int32) (l10 : Option Value), (∀ j, j < max (jnl x) (jnl y) → bg (to * 702 + 2 + j) = jn (jlb (x + y) j)) → (∀ q, (∀ j, j < max (jnl x) (jnl y) → q ≠ to * 702 + 2 + j) → bg q = bg0 q) → mj_T D mj_m186 143 [some (.ref 0), some (.int (jn to)), some (.int (jn a)), some (.int (jn b)), some (.int (jn sg)), some (.int (jn (max (jnl x) (jnl y) : Nat))), some (.int (jn (jcy x y (max (jnl x) (jnl y))))), some (.int (jn (jnl x))), some (.int (jn (jnl y))), some (.int (jn (max (jnl x) (jnl y) : Nat))), l10] [] (jHM t nw bf bg ov db tx wr) Q) :
    ∀ (d k : Nat) (bg : Nat → Int32) (l10 : Option Value), k + d = max (jnl x) (jnl y) → (∀ j, j < k → bg (to * 702 + 2 + j) = jn (jlb (x + y) j)) → (∀ q, (∀ j, j < k → q ≠ to * 702 + 2 + j) → bg q = bg0 q) →
      mj_T D mj_m186 35 [some (.ref 0), some (.int (jn to)), some (.int (jn a)), some (.int (jn b)), some (.int (jn sg)), some (.int (jn (max (jnl x) (jnl y) : Nat))), some (.int (jn (jcy x y k))), some (.int (jn (jnl x))), some (.int (jn (jnl y))), some (.int (jn k)), l10] [] (jHM t nw bf bg ov db tx wr) Q := by
  intro d
  induction d with
  | zero =>
    intro k bg l10 hk g1 g2
    have ek : k = max (jnl x) (jnl y) := by omega
    subst ek
    iterate 2 refine mj_T.pl rfl rfl rfl rfl ?_
    refine mj_T.icmp rfl ⟨by omega, by omega⟩ ⟨by omega, by omega⟩ (fun hc => ?_) (fun hc => ?_)
    · exact hend bg l10 g1 g2
    · simp only [jc, decide_eq_false_iff_not] at hc; omega
  | succ d ih =>
    intro k bg l10 hk g1 g2
    have hcx := jcy_le x y k
    have hcx2 := jcy_le x y (k + 1)
    have hu1 := jlb_lt x k
    have hv1 := jlb_lt y k
    have hz1 := jlb_lt (x + y) k
    have hlim : jlb (x + y) k = (jlb x k + jlb y k + jcy x y k) % 1000000000 := jcy_limb x y k
    have hnx : jcy x y (k + 1) = (jlb x k + jlb y k + jcy x y k) / 1000000000 := jcy_next x y k
    iterate 2 refine mj_T.pl rfl rfl rfl rfl ?_
    refine mj_T.icmp rfl ⟨by omega, by omega⟩ ⟨by omega, by omega⟩ (fun hc => ?_) (fun hc => ?_)
    · simp only [jc, decide_eq_true_eq] at hc; omega
    clear hc
    have k112 : ∀ z s : Int, z = (jcy x y (k + 1) : Nat) → s = (jlb x k + jlb y k + jcy x y k : Nat) → mj_T D mj_m186 112 [some (.ref 0), some (.int (jn to)), some (.int (jn a)), some (.int (jn b)), some (.int (jn sg)), some (.int (jn (max (jnl x) (jnl y) : Nat))), some (.int (jn (jcy x y k))), some (.int (jn (jnl x))), some (.int (jn (jnl y))), some (.int (jn k)), some (.int (jn s))] [.int (jn z)] (jHM t nw bf bg ov db tx wr) Q := by
      intro z s hz hs
      subst hz
      iterate 5 refine mj_T.pl rfl rfl rfl rfl ?_
      refine mj_T.imul (b := 702) rfl ?_
      refine mj_T.pl rfl rfl rfl rfl ?_
      refine mj_T.iadd (b := 2) rfl ?_
      refine mj_T.pl rfl rfl rfl rfl ?_
      refine mj_T.iadd rfl ?_
      rw [show (to : Int) * 702 + 2 + (k : Int) = ((to * 702 + 2 + k : Nat) : Int) by omega]
      iterate 3 refine mj_T.pl rfl rfl rfl rfl ?_
      refine mj_T.imul (b := 1000000000) rfl ?_
      refine mj_T.isub rfl ?_
      rw [show s - ((jcy x y (k + 1) : Nat) : Int) * 1000000000 = ((jlb (x + y) k : Nat) : Int) by omega]
      refine mj_T.iast rfl rfl ⟨by omega, by omega⟩ ⟨by omega, by omega⟩ ?_
      refine mj_T.iinc (a := k) rfl rfl ?_
      refine mj_T.pl rfl rfl rfl rfl ?_
      refine ih (k + 1) (upd bg (to * 702 + 2 + k) (jn (jlb (x + y) k))) _ (by omega) (fun j hj => ?_) (fun q hq => ?_)
      · unfold upd
        by_cases h : j = k
        · subst h; rw [if_pos rfl]
        · rw [if_neg (by omega)]; exact g1 j (by omega)
      · unfold upd
        rw [if_neg (hq k (by omega))]
        exact g2 q (fun j hj => hq j (by omega))
    have k94 : ∀ u w : Int, u = (jlb x k : Nat) → w = (jlb y k : Nat) → mj_T D mj_m186 94 [some (.ref 0), some (.int (jn to)), some (.int (jn a)), some (.int (jn b)), some (.int (jn sg)), some (.int (jn (max (jnl x) (jnl y) : Nat))), some (.int (jn (jcy x y k))), some (.int (jn (jnl x))), some (.int (jn (jnl y))), some (.int (jn k)), l10] [.int (jn w), .int (jn u)] (jHM t nw bf bg ov db tx wr) Q := by
      intro u w hu hw
      refine mj_T.iadd rfl ?_
      refine mj_T.pl rfl rfl rfl rfl ?_
      refine mj_T.iadd rfl ?_
      iterate 3 refine mj_T.pl rfl rfl rfl rfl ?_
      refine mj_T.icmp (b := 1000000000) rfl ⟨by omega, by omega⟩ ⟨by omega, by omega⟩ (fun hc => ?_) (fun hc => ?_)
      · simp only [jc, decide_eq_true_eq] at hc
        refine mj_T.pl rfl rfl rfl rfl ?_
        exact k112 0 _ (by omega) (by omega)
      · simp only [jc, decide_eq_false_iff_not] at hc
        iterate 2 refine mj_T.pl rfl rfl rfl rfl ?_
        exact k112 1 _ (by omega) (by omega)
    have k68 : ∀ u : Int, u = (jlb x k : Nat) → mj_T D mj_m186 68 [some (.ref 0), some (.int (jn to)), some (.int (jn a)), some (.int (jn b)), some (.int (jn sg)), some (.int (jn (max (jnl x) (jnl y) : Nat))), some (.int (jn (jcy x y k))), some (.int (jn (jnl x))), some (.int (jn (jnl y))), some (.int (jn k)), l10] [.int (jn u)] (jHM t nw bf bg ov db tx wr) Q := by
      intro u hu
      iterate 2 refine mj_T.pl rfl rfl rfl rfl ?_
      refine mj_T.icmp rfl ⟨by omega, by omega⟩ ⟨by omega, by omega⟩ (fun hc => ?_) (fun hc => ?_)
      · simp only [jc, decide_eq_true_eq] at hc
        refine mj_T.pl rfl rfl rfl rfl ?_
        exact k94 u 0 hu (by rw [jlb_high (show jnl y ≤ k by omega)]; rfl)
      · simp only [jc, decide_eq_false_iff_not] at hc
        iterate 4 refine mj_T.pl rfl rfl rfl rfl ?_
        refine mj_T.imul (b := 702) rfl ?_
        refine mj_T.pl rfl rfl rfl rfl ?_
        refine mj_T.iadd (b := 2) rfl ?_
        refine mj_T.pl rfl rfl rfl rfl ?_
        refine mj_T.iadd rfl ?_
        rw [show (b : Int) * 702 + 2 + (k : Int) = ((b * 702 + 2 + k : Nat) : Int) by omega]
        refine mj_T.ialv rfl rfl ⟨by omega, by omega⟩ ⟨by omega, by omega⟩ ((g2 (b * 702 + 2 + k) (fun j hj => by omega)).trans (h2 k (by omega))) ?_
        refine mj_T.pl rfl rfl rfl rfl ?_
        exact k94 u _ hu rfl
    iterate 2 refine mj_T.pl rfl rfl rfl rfl ?_
    refine mj_T.icmp rfl ⟨by omega, by omega⟩ ⟨by omega, by omega⟩ (fun hc => ?_) (fun hc => ?_)
    · simp only [jc, decide_eq_true_eq] at hc
      refine mj_T.pl rfl rfl rfl rfl ?_
      exact k68 0 (by rw [jlb_high (show jnl x ≤ k by omega)]; rfl)
    · simp only [jc, decide_eq_false_iff_not] at hc
      iterate 4 refine mj_T.pl rfl rfl rfl rfl ?_
      refine mj_T.imul (b := 702) rfl ?_
      refine mj_T.pl rfl rfl rfl rfl ?_
      refine mj_T.iadd (b := 2) rfl ?_
      refine mj_T.pl rfl rfl rfl rfl ?_
      refine mj_T.iadd rfl ?_
      rw [show (a : Int) * 702 + 2 + (k : Int) = ((a * 702 + 2 + k : Nat) : Int) by omega]
      refine mj_T.ialv rfl rfl ⟨by omega, by omega⟩ ⟨by omega, by omega⟩ ((g2 (a * 702 + 2 + k) (fun j hj => by omega)).trans (h1 k (by omega))) ?_
      refine mj_T.pl rfl rfl rfl rfl ?_
      exact k68 _ rfl
end MJR3
/-! The reference: addsSizes, the whole of it. -/
theorem jcy_top {x y n : Nat} (hx : jnl x ≤ n) (hy : jnl y ≤ n) : jlb (x + y) n = jcy x y n ∧ jnl (x + y) ≤ n + jcy x y n := by
  have hc := jcy_le x y n
  have h1 := jcy_div x y n
  rw [jnl_le.mp hx, jnl_le.mp hy, Nat.zero_add] at h1
  constructor
  · unfold jlb
    rw [h1]
    exact Nat.mod_eq_of_lt (by show _ < 1000000000; omega)
  · rcases (show jcy x y n = 0 ∨ jcy x y n = 1 by omega) with h | h
    · rw [h] at h1 ⊢
      exact jnl_le.mpr h1
    · rw [h] at h1 ⊢
      rw [jnl_le, Nat.pow_succ, ← Nat.div_div_eq_div_mul, h1]
      rfl
theorem jr_addsSizes {D to a b : Nat} {u v : Int} {sg : Int} {t : Nat → Value} {nw bf : Nat → Int64} {bg ov db tx wr : Nat → Int32} (hto : to < 665) (ha : a < 665) (hb : b < 665) (hu : jrs bg a u) (hv : jrs bg b v) (hx : jnl u.natAbs ≤ 698) (hy : jnl v.natAbs ≤ 698) :
    mj_Ok (D + 2) 186 [.ref 0, .int (jn to), .int (jn a), .int (jn b), .int (jn sg)] (jHM t nw bf bg ov db tx wr) (fun r => ∃ bg' : Nat → Int32, bg' (to * 702) = jn (if u.natAbs + v.natAbs = 0 then 0 else sg) ∧ bg' (to * 702 + 1) = jn (jnl (u.natAbs + v.natAbs)) ∧ (∀ j, j < jnl (u.natAbs + v.natAbs) → bg' (to * 702 + 2 + j) = jn (jlb (u.natAbs + v.natAbs) j)) ∧ jrf bg bg' to ∧ r = (.inl none, jHM t nw bf bg' ov db tx wr)) := by
  refine mj_Ok.of (M := mj_m186) rfl rfl rfl ?_
  iterate 2 refine mj_T.pl rfl rfl rfl rfl ?_
  refine mj_T.call (ins := .invokevirtual 52) rfl rfl (Nat.le_of_ble_eq_true rfl) (Nat.le_of_ble_eq_true rfl) rfl rfl (jr_length (D := D) ha hu) (fun v' h' hq' => ?_) (fun i h' hq' => by cases hq')
  cases hq'
  iterate 2 refine mj_T.pl rfl rfl rfl rfl ?_
  refine mj_T.call (ins := .invokevirtual 52) rfl rfl (Nat.le_of_ble_eq_true rfl) (Nat.le_of_ble_eq_true rfl) rfl rfl (jr_length (D := D) hb hv) (fun v' h' hq' => ?_) (fun i h' hq' => by cases hq')
  cases hq'
  refine mj_T.imax (a := (jnl u.natAbs : Nat)) (b := (jnl v.natAbs : Nat)) rfl rfl (Nat.le_of_ble_eq_true rfl) ⟨by omega, by omega⟩ ⟨by omega, by omega⟩ ?_
  rw [show max ((jnl u.natAbs : Nat) : Int) ((jnl v.natAbs : Nat) : Int) = ((max (jnl u.natAbs) (jnl v.natAbs) : Nat) : Int) by omega]
  iterate 5 refine mj_T.pl rfl rfl rfl rfl ?_
  refine mj_T.call (ins := .invokevirtual 52) rfl rfl (Nat.le_of_ble_eq_true rfl) (Nat.le_of_ble_eq_true rfl) rfl rfl (jr_length (D := D) ha hu) (fun v' h' hq' => ?_) (fun i h' hq' => by cases hq')
  cases hq'
  iterate 3 refine mj_T.pl rfl rfl rfl rfl ?_
  refine mj_T.call (ins := .invokevirtual 52) rfl rfl (Nat.le_of_ble_eq_true rfl) (Nat.le_of_ble_eq_true rfl) rfl rfl (jr_length (D := D) hb hv) (fun v' h' hq' => ?_) (fun i h' hq' => by cases hq')
  cases hq'
  iterate 3 refine mj_T.pl rfl rfl rfl rfl ?_
  refine mj_T.eq (jr_adds_loop (x := u.natAbs) (y := v.natAbs) (sg := sg) hto ha hb (by omega) (by omega) hu.2.2.1 hv.2.2.1 (fun bg1 l10 g1 g2 => ?_) (max (jnl u.natAbs) (jnl v.natAbs)) 0 bg none (by omega) (fun j hj => by omega) (fun q _ => rfl)) rfl ?_ rfl rfl
  rotate_left
  · rw [jcy_zero]; rfl
  have htop := jcy_top (x := u.natAbs) (y := v.natAbs) (n := max (jnl u.natAbs) (jnl v.natAbs)) (by omega) (by omega)
  have hc := jcy_le u.natAbs v.natAbs (max (jnl u.natAbs) (jnl v.natAbs))
  have hN : max (jnl u.natAbs) (jnl v.natAbs) ≤ 698 := by omega
  generalize max (jnl u.natAbs) (jnl v.natAbs) = N at *
  iterate 4 refine mj_T.pl rfl rfl rfl rfl ?_
  refine mj_T.imul (b := 702) rfl ?_
  refine mj_T.pl rfl rfl rfl rfl ?_
  refine mj_T.iadd (b := 2) rfl ?_
  refine mj_T.pl rfl rfl rfl rfl ?_
  refine mj_T.iadd rfl ?_
  rw [show (to : Int) * 702 + 2 + (N : Int) = ((to * 702 + 2 + N : Nat) : Int) by omega]
  refine mj_T.pl rfl rfl rfl rfl ?_
  refine mj_T.iast rfl rfl ⟨by omega, by omega⟩ ⟨by omega, by omega⟩ ?_
  iterate 4 refine mj_T.pl rfl rfl rfl rfl ?_
  refine mj_T.imul (b := 702) rfl ?_
  rw [show (to : Int) * 702 = ((to * 702 : Nat) : Int) by omega]
  refine mj_T.pl rfl rfl rfl rfl ?_
  refine mj_T.iast rfl rfl ⟨by omega, by omega⟩ ⟨by omega, by omega⟩ ?_
  iterate 4 refine mj_T.pl rfl rfl rfl rfl ?_
  refine mj_T.iadd rfl ?_
  rw [show (N : Int) + ((jcy u.natAbs v.natAbs N : Nat) : Int) = ((N + jcy u.natAbs v.natAbs N : Nat) : Int) by omega]
  refine mj_T.call (ins := .invokevirtual 80) rfl rfl (Nat.le_of_ble_eq_true rfl) (Nat.le_of_ble_eq_true rfl) rfl rfl (jr_trims (D := D) (bg := upd (upd bg1 (to * 702 + 2 + N) (jn (jcy u.natAbs v.natAbs N))) (to * 702) (jn sg)) (x := u.natAbs + v.natAbs) (g0 := sg) (n := N + jcy u.natAbs v.natAbs N) hto (by omega) htop.2 (if_pos rfl) (fun j hj => ?_)) (fun v' h' hq' => ?_) (fun i h' hq' => by obtain ⟨_, _, _, _, _, h⟩ := hq'; cases h)
  · unfold upd
    rw [if_neg (by omega)]
    by_cases h : j = N
    · subst h; rw [if_pos rfl, htop.1]
    · rw [if_neg (by omega)]; exact g1 j (by omega)
  · obtain ⟨bg', e1, e2, e3, e4, h⟩ := hq'
    cases h
    refine mj_T.ret rfl rfl rfl ⟨bg', e1, e2, fun j hj => e3 j (Nat.lt_of_lt_of_le hj htop.2), fun q hq => ?_, rfl⟩
    rw [e4 q hq]
    unfold upd
    rw [if_neg (by omega), if_neg (by omega)]
    exact g2 q (fun j hj => by omega)
