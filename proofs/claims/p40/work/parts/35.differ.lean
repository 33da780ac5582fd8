/-! Taking away by limbs. -/
theorem jnl_mod_top {z i : Nat} (h : jlb z i ≠ 0) : jnl (z % jB ^ (i + 1)) = i + 1 := by
  have h1 : jnl (z % jB ^ (i + 1)) ≤ i + 1 := jnl_of (Nat.mod_lt _ (jB_pow _))
  have h2 : ¬ jnl (z % jB ^ (i + 1)) ≤ i := by
    rw [jnl_le_lt, jmod]
    have h3 := Nat.mul_le_mul_right (jB ^ i) (Nat.pos_of_ne_zero h)
    intro h4
    exact absurd (Nat.lt_of_le_of_lt (Nat.le_trans h3 (Nat.le_add_right _ _)) h4) (by simp)
  omega
theorem jnl_mod_same {z i : Nat} (h : jlb z i = 0) : jnl (z % jB ^ (i + 1)) = jnl (z % jB ^ i) := by
  rw [jmod, h, Nat.zero_mul, Nat.zero_add]
theorem jnl_mod_le (z i : Nat) : jnl (z % jB ^ i) ≤ i := jnl_of (Nat.mod_lt _ (jB_pow _))
/-- the heap of two Wides -/
abbrev jH2 (n m : Nat) (s1 s2 : Int) (g0 : Int32) (sg : Int) (g q : Nat → Int32) : mj_H := [.inr (8, [.ref 1, .int (jn s1), .int g0]), .inl (0, n, fun j => .int (g j)), .inr (8, [.ref 3, .int (jn s2), .int (jn sg)]), .inl (0, m, fun j => .int (q j))]
theorem jw_differA_loop {D n m x y z : Nat} {g0 : Int32} {sg : Int} {g q : Nat → Int32} (hn : n < 2147483648) (hm : m < 2147483648) (hxz : x = z + y) (hx : jnl x ≤ n) (hxm : jnl x ≤ m) (hy : jnl y ≤ n) (hg : ∀ j, j < jnl y → g j = jn (jlb y j)) (hq : ∀ j, j < jnl x → q j = jn (jlb x j)) {Q : mj_R → Prop}
    (hend : ∀ (gi : Nat → Int32), (∀ j, j < jnl z → gi j = jn (jlb z j)) → Q (.inl none, jH2 n m (jnl z) (jnl x) g0 sg gi q)) :
    ∀ (d i : Nat) (gi : Nat → Int32) (l8 : Option Value), i + d = jnl x → (∀ j, j < i → gi j = jn (jlb z j)) → (∀ j, i ≤ j → gi j = g j) →
      mj_T D mj_m94 44 [some (.ref 0), some (.ref 2), some (.ref 0), some (.int (jn (jnl x))), some (.int (jn (jnl y))), some (.int (jn (jnl (z % jB ^ i)))), some (.int (jn (jcy z y i))), some (.int (jn i)), l8] [] (jH2 n m (jnl y) (jnl x) g0 sg gi q) Q := by
  intro d
  have hzx : jnl z ≤ jnl x := jnl_mono (by omega)
  have hyx : jnl y ≤ jnl x := jnl_mono (by omega)
  induction d with
  | zero =>
    intro i gi l8 hid hg1 hg2
    iterate 2 refine mj_T.pl rfl rfl rfl rfl ?_
    refine mj_T.icmp rfl ⟨by omega, by omega⟩ ⟨by omega, by omega⟩ (fun hc47 => ?_) (fun hc47 => ?_)
    · iterate 3 refine mj_T.pl rfl rfl rfl rfl ?_
      rw [jmod_full (show jnl z ≤ i by omega)]
      exact mj_T.ret rfl rfl rfl (hend gi (fun j hj => hg1 j (by omega)))
    · simp only [jc, decide_eq_false_iff_not] at hc47; omega
  | succ d ih =>
    intro i gi l8 hid hg1 hg2
    have hcx := jcy_le z y i
    have hcx2 := jcy_le z y (i + 1)
    have hl := jcy_limb z y i
    have hnx := jcy_next z y i
    rw [← hxz] at hl
    have hz1 := jlb_lt z i
    have hy1 := jlb_lt y i
    have hx1 := jlb_lt x i
    have hu := jnl_mod_le z i
    have hdm := Nat.div_add_mod (jlb z i + jlb y i + jcy z y i) 1000000000
    have hl2 : jlb x i = (jlb z i + jlb y i + jcy z y i) % 1000000000 := hl
    have hnx2 : jcy z y (i + 1) = (jlb z i + jlb y i + jcy z y i) / 1000000000 := hnx
    iterate 2 refine mj_T.pl rfl rfl rfl rfl ?_
    refine mj_T.icmp rfl ⟨by omega, by omega⟩ ⟨by omega, by omega⟩ (fun hc47 => ?_) (fun hc47 => ?_)
    · simp only [jc, decide_eq_true_eq] at hc47; omega
    clear hc47
    have t4 : ∀ (gi' : Nat → Int32) (v l8 : Value), v = .int (jn (jnl (z % jB ^ (i + 1)))) → gi' = upd gi i (jn (jlb z i)) → mj_T D mj_m94 127 [some (.ref 0), some (.ref 2), some (.ref 0), some (.int (jn (jnl x))), some (.int (jn (jnl y))), some (.int (jn (jnl (z % jB ^ i)))), some (.int (jn (jcy z y (i + 1)))), some (.int (jn i)), some l8] [v] (jH2 n m (jnl y) (jnl x) g0 sg gi' q) Q := by
      intro gi' v l8 hv hgi
      subst hv
      subst hgi
      refine mj_T.pl rfl rfl rfl rfl ?_
      refine mj_T.iinc (a := i) rfl rfl ?_
      refine mj_T.pl rfl rfl rfl rfl ?_
      refine ih (i + 1) (upd gi i (jn (jlb z i))) (some l8) (by omega) (fun j hj => ?_) (fun j hj => ?_)
      · unfold upd
        split
        · rename_i h; rw [h]
        · exact hg1 j (by omega)
      · unfold upd
        rw [if_neg (by omega)]
        exact hg2 j (by omega)
    have t3 : ∀ (s b : Int), s = (jlb z i : Int) - (jcy z y (i + 1) : Nat) * 1000000000 → b = (jcy z y (i + 1) : Nat) → mj_T D mj_m94 91 [some (.ref 0), some (.ref 2), some (.ref 0), some (.int (jn (jnl x))), some (.int (jn (jnl y))), some (.int (jn (jnl (z % jB ^ i)))), some (.int (jn (jcy z y i))), some (.int (jn i)), some (.int (jn s))] [.int (jn b)] (jH2 n m (jnl y) (jnl x) g0 sg gi q) Q := by
      intro s b hs hb
      subst hb
      iterate 7 refine mj_T.pl rfl rfl rfl rfl ?_
      refine mj_T.imul (b := 1000000000) rfl ?_
      refine mj_T.iadd rfl ?_
      rw [show s + ((jcy z y (i + 1) : Nat) : Int) * 1000000000 = ((jlb z i : Nat) : Int) by omega]
      refine mj_T.iast rfl rfl ⟨by omega, by omega⟩ ⟨by omega, by omega⟩ ?_
      iterate 3 refine mj_T.pl rfl rfl rfl rfl ?_
      refine mj_T.ialv (z := (jlb z i : Nat)) rfl rfl ⟨by omega, by omega⟩ ⟨by omega, by omega⟩ (if_pos rfl) ?_
      refine mj_T.if0 rfl ⟨by omega, by omega⟩ (fun hc115 => ?_) (fun hc115 => ?_)
      · simp only [jc, decide_eq_true_eq] at hc115
        refine mj_T.pl rfl rfl rfl rfl ?_
        exact t4 _ _ _ (by rw [jnl_mod_same (by omega)]) rfl
      · simp only [jc, decide_eq_false_iff_not] at hc115
        iterate 2 refine mj_T.pl rfl rfl rfl rfl ?_
        refine mj_T.iadd (b := 1) rfl ?_
        refine mj_T.pl rfl rfl rfl rfl ?_
        exact t4 _ _ _ (by rw [jnl_mod_top (by omega)]; rfl) rfl
    have t2 : ∀ (w : Int), w = (jlb y i : Nat) → mj_T D mj_m94 78 [some (.ref 0), some (.ref 2), some (.ref 0), some (.int (jn (jnl x))), some (.int (jn (jnl y))), some (.int (jn (jnl (z % jB ^ i)))), some (.int (jn (jcy z y i))), some (.int (jn i)), l8] [.int (jn w), .int (jn ((jlb x i : Nat) - (jcy z y i : Nat)))] (jH2 n m (jnl y) (jnl x) g0 sg gi q) Q := by
      intro w hw
      refine mj_T.isub rfl ?_
      iterate 2 refine mj_T.pl rfl rfl rfl rfl ?_
      refine mj_T.if0 rfl ⟨by omega, by omega⟩ (fun hc83 => ?_) (fun hc83 => ?_)
      · simp only [jc, decide_eq_true_eq] at hc83
        refine mj_T.pl rfl rfl rfl rfl ?_
        exact t3 _ 0 (by omega) (by omega)
      · simp only [jc, decide_eq_false_iff_not] at hc83
        iterate 2 refine mj_T.pl rfl rfl rfl rfl ?_
        exact t3 _ 1 (by omega) (by omega)
    iterate 3 refine mj_T.pl rfl rfl rfl rfl ?_
    refine mj_T.ialv rfl rfl ⟨by omega, by omega⟩ ⟨by omega, by omega⟩ (hq i (by omega)) ?_
    refine mj_T.pl rfl rfl rfl rfl ?_
    refine mj_T.isub rfl ?_
    iterate 2 refine mj_T.pl rfl rfl rfl rfl ?_
    refine mj_T.icmp rfl ⟨by omega, by omega⟩ ⟨by omega, by omega⟩ (fun hc64 => ?_) (fun hc64 => ?_)
    · simp only [jc, decide_eq_true_eq] at hc64
      refine mj_T.pl rfl rfl rfl rfl ?_
      exact t2 0 (by have := jlb_high (x := y) (j := i) (by omega); omega)
    · simp only [jc, decide_eq_false_iff_not] at hc64
      iterate 3 refine mj_T.pl rfl rfl rfl rfl ?_
      refine mj_T.ialv rfl rfl ⟨by omega, by omega⟩ ⟨by omega, by omega⟩ ((hg2 i (Nat.le_refl i)).trans (hg i (by omega))) ?_
      refine mj_T.pl rfl rfl rfl rfl ?_
      exact t2 _ rfl
theorem jw_differA {D n m x y z : Nat} {sg : Int} {g0 : Int32} {g q : Nat → Int32} (hn : n < 2147483648) (hm : m < 2147483648) (hxz : x = z + y) (hx : jnl x ≤ n) (hxm : jnl x ≤ m) (hy : jnl y ≤ n) (hg : ∀ j, j < jnl y → g j = jn (jlb y j)) (hq : ∀ j, j < jnl x → q j = jn (jlb x j)) :
    mj_Ok (D + 1) 94 [.ref 0, .ref 2, .ref 0] (jH2 n m (jnl y) (jnl x) g0 sg g q)
      (fun r => ∃ g' : Nat → Int32, (∀ j, j < jnl z → g' j = jn (jlb z j)) ∧ r = (.inl none, jH2 n m (jnl z) (jnl x) g0 sg g' q)) := by
  refine mj_Ok.of (M := mj_m94) rfl rfl rfl ?_
  iterate 4 refine mj_T.pl rfl rfl rfl rfl ?_
  refine mj_T.alen rfl rfl ?_
  iterate 2 refine mj_T.pl rfl rfl rfl rfl ?_
  refine mj_T.alen rfl rfl ?_
  refine mj_T.imin rfl rfl (Nat.le_of_ble_eq_true rfl) ⟨by omega, by omega⟩ ⟨by omega, by omega⟩ ?_
  refine mj_T.imin rfl rfl (Nat.le_of_ble_eq_true rfl) ⟨by omega, by omega⟩ ⟨by omega, by omega⟩ ?_
  rw [show min (jnl x : Int) (min (n : Int) (m : Int)) = (jnl x : Nat) by omega]
  iterate 5 refine mj_T.pl rfl rfl rfl rfl ?_
  refine mj_T.alen rfl rfl ?_
  refine mj_T.imin rfl rfl (Nat.le_of_ble_eq_true rfl) ⟨by omega, by omega⟩ ⟨by omega, by omega⟩ ?_
  rw [show min (jnl y : Int) (n : Int) = (jnl y : Nat) by omega]
  iterate 7 refine mj_T.pl rfl rfl rfl rfl ?_
  refine mj_T.eq (jw_differA_loop (x := x) (y := y) (z := z) (g := g) (q := q) hn hm hxz hx hxm hy hg hq (fun gi hgi => ⟨gi, hgi, rfl⟩) (jnl x) 0 g none (by omega) (fun j hj => by omega) (fun j _ => rfl)) rfl ?_ rfl rfl
  rw [jcy_zero, show z % jB ^ 0 = 0 by simp [Nat.mod_one], jnl_zero]
  rfl
theorem jw_differB_loop {D n m x y z : Nat} {g0 : Int32} {sg : Int} {g q : Nat → Int32} (hn : n < 2147483648) (hm : m < 2147483648) (hxz : x = z + y) (hx : jnl x ≤ n) (hxm : jnl x ≤ n) (hy : jnl y ≤ m) (hg : ∀ j, j < jnl x → g j = jn (jlb x j)) (hq : ∀ j, j < jnl y → q j = jn (jlb y j)) {Q : mj_R → Prop}
    (hend : ∀ (gi : Nat → Int32), (∀ j, j < jnl z → gi j = jn (jlb z j)) → Q (.inl none, jH2 n m (jnl z) (jnl y) g0 sg gi q)) :
    ∀ (d i : Nat) (gi : Nat → Int32) (l8 : Option Value), i + d = jnl x → (∀ j, j < i → gi j = jn (jlb z j)) → (∀ j, i ≤ j → gi j = g j) →
      mj_T D mj_m94 44 [some (.ref 0), some (.ref 0), some (.ref 2), some (.int (jn (jnl x))), some (.int (jn (jnl y))), some (.int (jn (jnl (z % jB ^ i)))), some (.int (jn (jcy z y i))), some (.int (jn i)), l8] [] (jH2 n m (jnl x) (jnl y) g0 sg gi q) Q := by
  intro d
  have hzx : jnl z ≤ jnl x := jnl_mono (by omega)
  have hyx : jnl y ≤ jnl x := jnl_mono (by omega)
  induction d with
  | zero =>
    intro i gi l8 hid hg1 hg2
    iterate 2 refine mj_T.pl rfl rfl rfl rfl ?_
    refine mj_T.icmp rfl ⟨by omega, by omega⟩ ⟨by omega, by omega⟩ (fun hc47 => ?_) (fun hc47 => ?_)
    · iterate 3 refine mj_T.pl rfl rfl rfl rfl ?_
      rw [jmod_full (show jnl z ≤ i by omega)]
      exact mj_T.ret rfl rfl rfl (hend gi (fun j hj => hg1 j (by omega)))
    · simp only [jc, decide_eq_false_iff_not] at hc47; omega
  | succ d ih =>
    intro i gi l8 hid hg1 hg2
    have hcx := jcy_le z y i
    have hcx2 := jcy_le z y (i + 1)
    have hl := jcy_limb z y i
    have hnx := jcy_next z y i
    rw [← hxz] at hl
    have hz1 := jlb_lt z i
    have hy1 := jlb_lt y i
    have hx1 := jlb_lt x i
    have hu := jnl_mod_le z i
    have hdm := Nat.div_add_mod (jlb z i + jlb y i + jcy z y i) 1000000000
    have hl2 : jlb x i = (jlb z i + jlb y i + jcy z y i) % 1000000000 := hl
    have hnx2 : jcy z y (i + 1) = (jlb z i + jlb y i + jcy z y i) / 1000000000 := hnx
    iterate 2 refine mj_T.pl rfl rfl rfl rfl ?_
    refine mj_T.icmp rfl ⟨by omega, by omega⟩ ⟨by omega, by omega⟩ (fun hc47 => ?_) (fun hc47 => ?_)
    · simp only [jc, decide_eq_true_eq] at hc47; omega
    clear hc47
    have t4 : ∀ (gi' : Nat → Int32) (v l8 : Value), v = .int (jn (jnl (z % jB ^ (i + 1)))) → gi' = upd gi i (jn (jlb z i)) → mj_T D mj_m94 127 [some (.ref 0), some (.ref 0), some (.ref 2), some (.int (jn (jnl x))), some (.int (jn (jnl y))), some (.int (jn (jnl (z % jB ^ i)))), some (.int (jn (jcy z y (i + 1)))), some (.int (jn i)), some l8] [v] (jH2 n m (jnl x) (jnl y) g0 sg gi' q) Q := by
      intro gi' v l8 hv hgi
      subst hv
      subst hgi
      refine mj_T.pl rfl rfl rfl rfl ?_
      refine mj_T.iinc (a := i) rfl rfl ?_
      refine mj_T.pl rfl rfl rfl rfl ?_
      refine ih (i + 1) (upd gi i (jn (jlb z i))) (some l8) (by omega) (fun j hj => ?_) (fun j hj => ?_)
      · unfold upd
        split
        · rename_i h; rw [h]
        · exact hg1 j (by omega)
      · unfold upd
        rw [if_neg (by omega)]
        exact hg2 j (by omega)
    have t3 : ∀ (s b : Int), s = (jlb z i : Int) - (jcy z y (i + 1) : Nat) * 1000000000 → b = (jcy z y (i + 1) : Nat) → mj_T D mj_m94 91 [some (.ref 0), some (.ref 0), some (.ref 2), some (.int (jn (jnl x))), some (.int (jn (jnl y))), some (.int (jn (jnl (z % jB ^ i)))), some (.int (jn (jcy z y i))), some (.int (jn i)), some (.int (jn s))] [.int (jn b)] (jH2 n m (jnl x) (jnl y) g0 sg gi q) Q := by
      intro s b hs hb
      subst hb
      iterate 7 refine mj_T.pl rfl rfl rfl rfl ?_
      refine mj_T.imul (b := 1000000000) rfl ?_
      refine mj_T.iadd rfl ?_
      rw [show s + ((jcy z y (i + 1) : Nat) : Int) * 1000000000 = ((jlb z i : Nat) : Int) by omega]
      refine mj_T.iast rfl rfl ⟨by omega, by omega⟩ ⟨by omega, by omega⟩ ?_
      iterate 3 refine mj_T.pl rfl rfl rfl rfl ?_
      refine mj_T.ialv (z := (jlb z i : Nat)) rfl rfl ⟨by omega, by omega⟩ ⟨by omega, by omega⟩ (if_pos rfl) ?_
      refine mj_T.if0 rfl ⟨by omega, by omega⟩ (fun hc115 => ?_) (fun hc115 => ?_)
      · simp only [jc, decide_eq_true_eq] at hc115
        refine mj_T.pl rfl rfl rfl rfl ?_
        exact t4 _ _ _ (by rw [jnl_mod_same (by omega)]) rfl
      · simp only [jc, decide_eq_false_iff_not] at hc115
        iterate 2 refine mj_T.pl rfl rfl rfl rfl ?_
        refine mj_T.iadd (b := 1) rfl ?_
        refine mj_T.pl rfl rfl rfl rfl ?_
        exact t4 _ _ _ (by rw [jnl_mod_top (by omega)]; rfl) rfl
    have t2 : ∀ (w : Int), w = (jlb y i : Nat) → mj_T D mj_m94 78 [some (.ref 0), some (.ref 0), some (.ref 2), some (.int (jn (jnl x))), some (.int (jn (jnl y))), some (.int (jn (jnl (z % jB ^ i)))), some (.int (jn (jcy z y i))), some (.int (jn i)), l8] [.int (jn w), .int (jn ((jlb x i : Nat) - (jcy z y i : Nat)))] (jH2 n m (jnl x) (jnl y) g0 sg gi q) Q := by
      intro w hw
      refine mj_T.isub rfl ?_
      iterate 2 refine mj_T.pl rfl rfl rfl rfl ?_
      refine mj_T.if0 rfl ⟨by omega, by omega⟩ (fun hc83 => ?_) (fun hc83 => ?_)
      · simp only [jc, decide_eq_true_eq] at hc83
        refine mj_T.pl rfl rfl rfl rfl ?_
        exact t3 _ 0 (by omega) (by omega)
      · simp only [jc, decide_eq_false_iff_not] at hc83
        iterate 2 refine mj_T.pl rfl rfl rfl rfl ?_
        exact t3 _ 1 (by omega) (by omega)
    iterate 3 refine mj_T.pl rfl rfl rfl rfl ?_
    refine mj_T.ialv rfl rfl ⟨by omega, by omega⟩ ⟨by omega, by omega⟩ ((hg2 i (Nat.le_refl i)).trans (hg i (by omega))) ?_
    refine mj_T.pl rfl rfl rfl rfl ?_
    refine mj_T.isub rfl ?_
    iterate 2 refine mj_T.pl rfl rfl rfl rfl ?_
    refine mj_T.icmp rfl ⟨by omega, by omega⟩ ⟨by omega, by omega⟩ (fun hc64 => ?_) (fun hc64 => ?_)
    · simp only [jc, decide_eq_true_eq] at hc64
      refine mj_T.pl rfl rfl rfl rfl ?_
      exact t2 0 (by have := jlb_high (x := y) (j := i) (by omega); omega)
    · simp only [jc, decide_eq_false_iff_not] at hc64
      iterate 3 refine mj_T.pl rfl rfl rfl rfl ?_
      refine mj_T.ialv rfl rfl ⟨by omega, by omega⟩ ⟨by omega, by omega⟩ (hq i (by omega)) ?_
      refine mj_T.pl rfl rfl rfl rfl ?_
      exact t2 _ rfl
theorem jw_differB {D n m x y z : Nat} {sg : Int} {g0 : Int32} {g q : Nat → Int32} (hn : n < 2147483648) (hm : m < 2147483648) (hxz : x = z + y) (hx : jnl x ≤ n) (hxm : jnl x ≤ n) (hy : jnl y ≤ m) (hg : ∀ j, j < jnl x → g j = jn (jlb x j)) (hq : ∀ j, j < jnl y → q j = jn (jlb y j)) :
    mj_Ok (D + 1) 94 [.ref 0, .ref 0, .ref 2] (jH2 n m (jnl x) (jnl y) g0 sg g q)
      (fun r => ∃ g' : Nat → Int32, (∀ j, j < jnl z → g' j = jn (jlb z j)) ∧ r = (.inl none, jH2 n m (jnl z) (jnl y) g0 sg g' q)) := by
  refine mj_Ok.of (M := mj_m94) rfl rfl rfl ?_
  iterate 4 refine mj_T.pl rfl rfl rfl rfl ?_
  refine mj_T.alen rfl rfl ?_
  iterate 2 refine mj_T.pl rfl rfl rfl rfl ?_
  refine mj_T.alen rfl rfl ?_
  refine mj_T.imin rfl rfl (Nat.le_of_ble_eq_true rfl) ⟨by omega, by omega⟩ ⟨by omega, by omega⟩ ?_
  refine mj_T.imin rfl rfl (Nat.le_of_ble_eq_true rfl) ⟨by omega, by omega⟩ ⟨by omega, by omega⟩ ?_
  rw [show min (jnl x : Int) (min (n : Int) (n : Int)) = (jnl x : Nat) by omega]
  iterate 5 refine mj_T.pl rfl rfl rfl rfl ?_
  refine mj_T.alen rfl rfl ?_
  refine mj_T.imin rfl rfl (Nat.le_of_ble_eq_true rfl) ⟨by omega, by omega⟩ ⟨by omega, by omega⟩ ?_
  rw [show min (jnl y : Int) (m : Int) = (jnl y : Nat) by omega]
  iterate 7 refine mj_T.pl rfl rfl rfl rfl ?_
  refine mj_T.eq (jw_differB_loop (x := x) (y := y) (z := z) (g := g) (q := q) hn hm hxz hx hxm hy hg hq (fun gi hgi => ⟨gi, hgi, rfl⟩) (jnl x) 0 g none (by omega) (fun j hj => by omega) (fun j _ => rfl)) rfl ?_ rfl rfl
  rw [jcy_zero, show z % jB ^ 0 = 0 by simp [Nat.mod_one], jnl_zero]
  rfl
