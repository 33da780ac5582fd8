/-! Adding by limbs. -/
def jcy (x y i : Nat) : Nat := (x % jB ^ i + y % jB ^ i) / jB ^ i
theorem jcy_le (x y i : Nat) : jcy x y i ≤ 1 := by
  unfold jcy
  have h := jB_pow i
  have h1 := Nat.mod_lt x h
  have h2 := Nat.mod_lt y h
  have : (x % jB ^ i + y % jB ^ i) / jB ^ i < 2 := by rw [Nat.div_lt_iff_lt_mul h]; omega
  omega
theorem jcy_zero (x y : Nat) : jcy x y 0 = 0 := by simp [jcy, Nat.mod_one]
theorem jcy_div (x y i : Nat) : (x + y) / jB ^ i = x / jB ^ i + y / jB ^ i + jcy x y i := by
  unfold jcy
  have h := jB_pow i
  have e : x + y = (x % jB ^ i + y % jB ^ i) + jB ^ i * (x / jB ^ i + y / jB ^ i) := by
    have h1 := Nat.div_add_mod x (jB ^ i)
    have h2 := Nat.div_add_mod y (jB ^ i)
    rw [Nat.mul_add]
    omega
  conv => lhs; rw [e]
  rw [Nat.add_mul_div_left _ _ h, Nat.add_comm]
theorem jcy_limb (x y i : Nat) : jlb (x + y) i = (jlb x i + jlb y i + jcy x y i) % jB := by
  unfold jlb
  rw [jcy_div, Nat.add_mod, Nat.add_mod (x / jB ^ i), Nat.add_mod (x / jB ^ i % jB + y / jB ^ i % jB)]
theorem jcy_next (x y i : Nat) : jcy x y (i + 1) = (jlb x i + jlb y i + jcy x y i) / jB := by
  unfold jcy
  have h := jB_pow i
  rw [jmod, jmod, Nat.pow_succ, ← Nat.div_div_eq_div_mul]
  congr 1
  rw [show jlb x i * jB ^ i + x % jB ^ i + (jlb y i * jB ^ i + y % jB ^ i) = (x % jB ^ i + y % jB ^ i) + jB ^ i * (jlb x i + jlb y i) by rw [Nat.mul_add, Nat.mul_comm (jB ^ i), Nat.mul_comm (jB ^ i)]; omega]
  rw [Nat.add_mul_div_left _ _ h]
  omega
theorem jcy_grow {x y i : Nat} (h : i < jnl x ∨ i < jnl y ∨ 0 < jcy x y i) : i < jnl (x + y) := by
  rw [jnl_lt, jcy_div]
  rcases h with h | h | h
  · exact Nat.ne_of_gt (Nat.lt_of_lt_of_le (Nat.pos_of_ne_zero (jnl_lt.mp h)) (by rw [Nat.add_assoc]; exact Nat.le_add_right _ _))
  · exact Nat.ne_of_gt (Nat.lt_of_lt_of_le (Nat.pos_of_ne_zero (jnl_lt.mp h)) (by rw [Nat.add_comm (x / _), Nat.add_assoc]; exact Nat.le_add_right _ _))
  · exact Nat.ne_of_gt (Nat.lt_of_lt_of_le h (Nat.le_add_left _ _))
theorem jcy_end {x y i : Nat} (h1 : jnl x ≤ i) (h2 : jnl y ≤ i) (h3 : jcy x y i = 0) : jnl (x + y) ≤ i := by
  rw [jnl_le, jcy_div, jnl_le.mp h1, jnl_le.mp h2, h3]
/-- an array's value at a place, known -/
theorem mj_T.ialv {D pc : Nat} {M : mj_M} {loc : mj_L} {st : List Value} {h : mj_H} {Q : mj_R → Prop} {r1 r2 r3 r4 r5 : Nat} {a n : Nat} {g : Nat → Int32} {i z : Int} (hc : M.2.2.2.2.1 pc = some (.iaload, r1, r2, r3, r4, r5)) (ha : h[a]? = some (.inl (0, n, fun j => .int (g j)))) (hi : jr i) (h0 : 0 ≤ i ∧ i < n) (hv : g i.toNat = jn z) (k : mj_T D M (pc + 1) loc (.int (jn z) :: st) h Q) : mj_T D M pc loc (.int (jn i) :: .ref a :: st) h Q := mj_T.iald hc ha hi h0 (by rw [hv]; exact k)
theorem jw_gather_loop {D n m x y : Nat} {g0 : Int32} {sg : Int} {g q : Nat → Int32} (hn : n < 2147483648) (hm : m < 2147483648) (hcap : jnl (x + y) ≤ n) (hy : jnl y ≤ m) (hg : ∀ j, j < jnl x → g j = jn (jlb x j)) (hq : ∀ j, j < jnl y → q j = jn (jlb y j)) {Q : mj_R → Prop}
    (hend : ∀ (gi : Nat → Int32) (sz : Int), (jnl (x + y) = 0 ∨ sz = jnl (x + y)) → (∀ j, j < jnl (x + y) → gi j = jn (jlb (x + y) j)) → Q (.inl none, [.inr (8, [.ref 1, .int (jn sz), .int g0]), .inl (0, n, fun j => .int (gi j)), .inr (8, [.ref 3, .int (jn (jnl y)), .int (jn sg)]), .inl (0, m, fun j => .int (q j))])) :
    ∀ (d i : Nat) (gi : Nat → Int32) (sz : Int) (l6 : Option Value), i + d = n → i ≤ jnl (x + y) → (i = 0 ∨ sz = i) → (∀ j, j < i → gi j = jn (jlb (x + y) j)) → (∀ j, i ≤ j → gi j = g j) →
      mj_T D mj_m93 24 [some (.ref 0), some (.ref 2), some (.int (jn (jnl x))), some (.int (jn (jnl y))), some (.int (jn (jcy x y i))), some (.int (jn i)), l6] [] [.inr (8, [.ref 1, .int (jn sz), .int g0]), .inl (0, n, fun j => .int (gi j)), .inr (8, [.ref 3, .int (jn (jnl y)), .int (jn sg)]), .inl (0, m, fun j => .int (q j))] Q := by
  intro d
  induction d with
  | zero =>
    intro i gi sz l6 hid hil hsz hg1 hg2
    iterate 3 refine mj_T.pl rfl rfl rfl rfl ?_
    refine mj_T.alen rfl rfl ?_
    refine mj_T.icmp rfl ⟨by omega, by omega⟩ ⟨by omega, by omega⟩ (fun hc31 => ?_) (fun hc31 => ?_)
    · have e : i = jnl (x + y) := by omega
      subst e
      exact mj_T.ret rfl rfl rfl (hend gi sz (by omega) hg1)
    · simp only [jc, decide_eq_false_iff_not] at hc31; omega
  | succ d ih =>
    intro i gi sz l6 hid hil hsz hg1 hg2
    have hcx := jcy_le x y i
    have hxn : jnl x ≤ n := Nat.le_trans (jnl_mono (Nat.le_add_right x y)) hcap
    iterate 3 refine mj_T.pl rfl rfl rfl rfl ?_
    refine mj_T.alen rfl rfl ?_
    refine mj_T.icmp rfl ⟨by omega, by omega⟩ ⟨by omega, by omega⟩ (fun hc31 => ?_) (fun hc31 => ?_)
    · simp only [jc, decide_eq_true_eq] at hc31; omega
    clear hc31
    have key : (i < jnl x ∨ i < jnl y ∨ 0 < jcy x y i) → mj_T D mj_m93 51 [some (.ref 0), some (.ref 2), some (.int (jn (jnl x))), some (.int (jn (jnl y))), some (.int (jn (jcy x y i))), some (.int (jn i)), l6] [] [.inr (8, [.ref 1, .int (jn sz), .int g0]), .inl (0, n, fun j => .int (gi j)), .inr (8, [.ref 3, .int (jn (jnl y)), .int (jn sg)]), .inl (0, m, fun j => .int (q j))] Q := by
      intro hgo
      have hl := jcy_limb x y i
      have hnx := jcy_next x y i
      have hx1 := jlb_lt x i
      have hy1 := jlb_lt y i
      have hnl := jcy_grow hgo
      have t5 : ∀ (z s : Int), s = (jlb x i + jlb y i + jcy x y i : Nat) → z = (jcy x y (i + 1) : Nat) → mj_T D mj_m93 103 [some (.ref 0), some (.ref 2), some (.int (jn (jnl x))), some (.int (jn (jnl y))), some (.int (jn (jcy x y i))), some (.int (jn i)), some (.int (jn s))] [.int (jn z)] [.inr (8, [.ref 1, .int (jn sz), .int g0]), .inl (0, n, fun j => .int (gi j)), .inr (8, [.ref 3, .int (jn (jnl y)), .int (jn sg)]), .inl (0, m, fun j => .int (q j))] Q := by
        intro z s hs hz
        iterate 7 refine mj_T.pl rfl rfl rfl rfl ?_
        refine mj_T.imul (b := 1000000000) rfl ?_
        refine mj_T.isub rfl ?_
        refine mj_T.iast rfl rfl ⟨by omega, by omega⟩ ⟨by omega, by omega⟩ ?_
        iterate 3 refine mj_T.pl rfl rfl rfl rfl ?_
        refine mj_T.iadd (b := 1) rfl ?_
        refine mj_T.pl rfl rfl rfl rfl ?_
        refine mj_T.iinc (a := i) rfl rfl ?_
        refine mj_T.pl rfl rfl rfl rfl ?_
        subst hz
        refine ih (i + 1) (upd gi i (jn (s - (jcy x y (i + 1) : Nat) * 1000000000))) (i + 1) (some (.int (jn s))) (by omega) (by omega) (Or.inr (by omega)) (fun j hj => ?_) (fun j hj => ?_)
        · unfold upd
          split
          · rename_i h
            subst h
            congr 1
            rw [hl, hs, hnx]
            have := Nat.div_add_mod (jlb x j + jlb y j + jcy x y j) 1000000000
            show _ = (((jlb x j + jlb y j + jcy x y j) % 1000000000 : Nat) : Int)
            have e2 : ((jlb x j + jlb y j + jcy x y j) / jB : Nat) = (jlb x j + jlb y j + jcy x y j) / 1000000000 := rfl
            rw [e2]
            omega
          · exact hg1 j (by omega)
        · unfold upd
          rw [if_neg (by omega)]
          exact hg2 j (by omega)
      have t4 : ∀ (z : Int) (s : Int), s = (jlb x i + jcy x y i : Nat) → z = (jlb y i : Nat) → mj_T D mj_m93 88 [some (.ref 0), some (.ref 2), some (.int (jn (jnl x))), some (.int (jn (jnl y))), some (.int (jn (jcy x y i))), some (.int (jn i)), l6] [.int (jn z), .int (jn s)] [.inr (8, [.ref 1, .int (jn sz), .int g0]), .inl (0, n, fun j => .int (gi j)), .inr (8, [.ref 3, .int (jn (jnl y)), .int (jn sg)]), .inl (0, m, fun j => .int (q j))] Q := by
        intro z s hs hz
        refine mj_T.iadd rfl ?_
        iterate 3 refine mj_T.pl rfl rfl rfl rfl ?_
        have e2 : ((jlb x i + jlb y i + jcy x y i) / jB : Nat) = (jlb x i + jlb y i + jcy x y i) / 1000000000 := rfl
        refine mj_T.icmp (b := 1000000000) rfl ⟨by omega, by omega⟩ ⟨by omega, by omega⟩ (fun hc95 => ?_) (fun hc95 => ?_)
        · simp only [jc, decide_eq_true_eq] at hc95
          refine mj_T.pl rfl rfl rfl rfl ?_
          exact t5 0 (s + z) (by omega) (by omega)
        · simp only [jc, decide_eq_false_iff_not] at hc95
          iterate 2 refine mj_T.pl rfl rfl rfl rfl ?_
          exact t5 1 (s + z) (by omega) (by omega)
      have t3 : ∀ (z : Int), z = (jlb x i : Nat) → mj_T D mj_m93 70 [some (.ref 0), some (.ref 2), some (.int (jn (jnl x))), some (.int (jn (jnl y))), some (.int (jn (jcy x y i))), some (.int (jn i)), l6] [.int (jn z), .int (jn (jcy x y i))] [.inr (8, [.ref 1, .int (jn sz), .int g0]), .inl (0, n, fun j => .int (gi j)), .inr (8, [.ref 3, .int (jn (jnl y)), .int (jn sg)]), .inl (0, m, fun j => .int (q j))] Q := by
        intro z hz
        refine mj_T.iadd rfl ?_
        iterate 2 refine mj_T.pl rfl rfl rfl rfl ?_
        refine mj_T.icmp rfl ⟨by omega, by omega⟩ ⟨by omega, by omega⟩ (fun hc74 => ?_) (fun hc74 => ?_)
        · simp only [jc, decide_eq_true_eq] at hc74
          refine mj_T.pl rfl rfl rfl rfl ?_
          exact t4 0 _ (by omega) (by have := jlb_high (x := y) (j := i) (by omega); omega)
        · simp only [jc, decide_eq_false_iff_not] at hc74
          iterate 3 refine mj_T.pl rfl rfl rfl rfl ?_
          refine mj_T.ialv rfl rfl ⟨by omega, by omega⟩ ⟨by omega, by omega⟩ (hq i (by omega)) ?_
          refine mj_T.pl rfl rfl rfl rfl ?_
          exact t4 _ _ (by omega) rfl
      iterate 3 refine mj_T.pl rfl rfl rfl rfl ?_
      refine mj_T.icmp rfl ⟨by omega, by omega⟩ ⟨by omega, by omega⟩ (fun hc56 => ?_) (fun hc56 => ?_)
      · simp only [jc, decide_eq_true_eq] at hc56
        refine mj_T.pl rfl rfl rfl rfl ?_
        exact t3 0 (by have := jlb_high (x := x) (j := i) (by omega); omega)
      · simp only [jc, decide_eq_false_iff_not] at hc56
        iterate 3 refine mj_T.pl rfl rfl rfl rfl ?_
        refine mj_T.ialv rfl rfl ⟨by omega, by omega⟩ ⟨by omega, by omega⟩ ((hg2 i (Nat.le_refl i)).trans (hg i (by omega))) ?_
        refine mj_T.pl rfl rfl rfl rfl ?_
        exact t3 _ rfl
    iterate 2 refine mj_T.pl rfl rfl rfl rfl ?_
    refine mj_T.icmp rfl ⟨by omega, by omega⟩ ⟨by omega, by omega⟩ (fun hc37 => ?_) (fun hc37 => ?_)
    · simp only [jc, decide_eq_true_eq] at hc37
      exact key (by omega)
    · simp only [jc, decide_eq_false_iff_not] at hc37
      iterate 2 refine mj_T.pl rfl rfl rfl rfl ?_
      refine mj_T.icmp rfl ⟨by omega, by omega⟩ ⟨by omega, by omega⟩ (fun hc43 => ?_) (fun hc43 => ?_)
      · simp only [jc, decide_eq_true_eq] at hc43
        exact key (by omega)
      · simp only [jc, decide_eq_false_iff_not] at hc43
        refine mj_T.pl rfl rfl rfl rfl ?_
        refine mj_T.if0 rfl ⟨by omega, by omega⟩ (fun hc48 => ?_) (fun hc48 => ?_)
        · simp only [jc, decide_eq_true_eq] at hc48
          have e : i = jnl (x + y) := by have := jcy_end (x := x) (y := y) (i := i) (by omega) (by omega) (by omega); omega
          subst e
          exact mj_T.ret rfl rfl rfl (hend gi sz (by omega) hg1)
        · simp only [jc, decide_eq_false_iff_not] at hc48
          exact key (by omega)
theorem jw_gather {D n m x y : Nat} {sg : Int} {g0 : Int32} {g q : Nat → Int32} (hn : n < 2147483648) (hm : m < 2147483648) (hcap : jnl (x + y) ≤ n) (hy : jnl y ≤ m) (hg : ∀ j, j < jnl x → g j = jn (jlb x j)) (hq : ∀ j, j < jnl y → q j = jn (jlb y j)) (h0 : 0 < x) :
    mj_Ok (D + 1) 93 [.ref 0, .ref 2] [.inr (8, [.ref 1, .int (jn (jnl x)), .int g0]), .inl (0, n, fun j => .int (g j)), .inr (8, [.ref 3, .int (jn (jnl y)), .int (jn sg)]), .inl (0, m, fun j => .int (q j))]
      (fun r => ∃ g' : Nat → Int32, (∀ j, j < jnl (x + y) → g' j = jn (jlb (x + y) j)) ∧ r = (.inl none, [.inr (8, [.ref 1, .int (jn (jnl (x + y))), .int g0]), .inl (0, n, fun j => .int (g' j)), .inr (8, [.ref 3, .int (jn (jnl y)), .int (jn sg)]), .inl (0, m, fun j => .int (q j))])) := by
  have hxn : jnl x ≤ n := Nat.le_trans (jnl_mono (Nat.le_add_right x y)) hcap
  refine mj_Ok.of (M := mj_m93) rfl rfl rfl ?_
  iterate 7 refine mj_T.pl rfl rfl rfl rfl ?_
  refine mj_T.alen rfl rfl ?_
  refine mj_T.imin rfl rfl (Nat.le_of_ble_eq_true rfl) ⟨by omega, by omega⟩ ⟨by omega, by omega⟩ ?_
  rw [show min (jnl y : Int) (m : Int) = (jnl y : Nat) by omega]
  iterate 5 refine mj_T.pl rfl rfl rfl rfl ?_
  refine mj_T.eq (jw_gather_loop (x := x) (y := y) (g := g) (q := q) hn hm hcap hy hg hq (fun gi sz hsz hgi => ?_) n 0 g (jnl x) none (by omega) (Nat.zero_le _) (Or.inl rfl) (fun j hj => by omega) (fun j _ => rfl)) rfl ?_ rfl rfl
  · rcases hsz with h | h
    · have := jnl_eq0.mp h; omega
    · subst h; exact ⟨gi, hgi, rfl⟩
  · rw [jcy_zero]; rfl
