/-! Of the reference and of numbers (as in p1, part 78n). -/
def jcm (x y : Nat) : Int := if x < y then -1 else if y < x then 1 else 0
theorem jcm_range (x y : Nat) : -1 ≤ jcm x y ∧ jcm x y ≤ 1 := by unfold jcm; (repeat' split) <;> omega
theorem jcm_lt {x y : Nat} (h : x < y) : jcm x y = -1 := by unfold jcm; rw [if_pos h]
theorem jcm_gt {x y : Nat} (h : y < x) : jcm x y = 1 := by unfold jcm; rw [if_neg (by omega), if_pos h]
theorem jcm_eq {x y : Nat} (h : x = y) : jcm x y = 0 := by unfold jcm; rw [if_neg (by omega), if_neg (by omega)]
section JX3
variable {D : Nat} {hp : mj_H} {q0 q1 : Nat} {fs : List Value} {bg : Nat → Int32}
/-- the copy of a row's piece within the row -/
theorem jX_cpy (C : jC hp q0 q1 fs) {s d n : Nat} (h1 : s + n ≤ 466830) (h2 : d + n ≤ 466830) : mj_prim 4 [.int (jn (n : Nat)), .int (jn (d : Nat)), .ref q1, .int (jn (s : Nat)), .ref q1] (jX hp q1 bg) = some ([], jX hp q1 (va_cpy bg bg s d n)) := by
  have hs : jr (s : Int) := ⟨by omega, by omega⟩
  have hd : jr (d : Int) := ⟨by omega, by omega⟩
  have hn : jr (n : Int) := ⟨by omega, by omega⟩
  have z : jr 0 := ⟨by omega, by omega⟩
  have e1 : (jn (s : Nat)).toNatClampNeg = s := by rw [jn_nat (by omega) hs]; rfl
  have e2 : (jn (d : Nat)).toNatClampNeg = d := by rw [jn_nat (by omega) hd]; rfl
  have e3 : (jn (n : Nat)).toNatClampNeg = n := by rw [jn_nat (by omega) hn]; rfl
  have g : ∀ k : Nat, jr (k : Int) → (0 : Int32) ≤ jn (k : Nat) := fun k hk => by
    rw [show (0 : Int32) = jn 0 from rfl, jn_le z hk]; omega
  simp only [mj_prim, jX_b C, e1, e2, e3]
  rw [if_pos ⟨Nat.le_of_ble_eq_true rfl, trivial, Or.inl trivial, g s hs, g d hd, g n hn, h1, h2, by simp [mj_cpok, mj_isint]⟩]
  have e : va_cpy (fun j => Value.int (bg j)) (fun j => Value.int (bg j)) s d n = fun j => .int (va_cpy bg bg s d n j) := by
    funext j
    unfold va_cpy
    split <;> rfl
  rw [e, jX_set]
theorem jq_copies (C : jC hp q0 q1 fs) {to s : Nat} {v : Int} (hto : to < 665) (hs : s < 665) (hv : jrs bg s v) :
    mj_Ok (D + 2) 182 [.ref q0, .int (jn to), .int (jn s)] (jX hp q1 bg) (fun r => ∃ bg' : Nat → Int32, jrs bg' to v ∧ jrf bg bg' to ∧ r = (.inl none, jX hp q1 bg')) := by
  have h4 := hv.2.2.2
  refine mj_Ok.of (M := mj_m182) rfl rfl rfl ?_
  iterate 4 (first | refine mj_T.gb C rfl ?_ | refine mj_T.pl rfl rfl rfl rfl ?_)
  refine mj_T.imul (b := 702) rfl ?_
  rw [show (s : Int) * 702 = ((s * 702 : Nat) : Int) by omega]
  iterate 4 (first | refine mj_T.gb C rfl ?_ | refine mj_T.pl rfl rfl rfl rfl ?_)
  refine mj_T.imul (b := 702) rfl ?_
  rw [show (to : Int) * 702 = ((to * 702 : Nat) : Int) by omega]
  iterate 2 (first | refine mj_T.gb C rfl ?_ | refine mj_T.pl rfl rfl rfl rfl ?_)
  refine mj_T.call (ins := .invokevirtual 52) rfl rfl (Nat.le_of_ble_eq_true rfl) (Nat.le_of_ble_eq_true rfl) (by simp [mj_recv, jX_a C]) rfl (jq_length (D := D) (jX_a C) C.2.1 (jX_b C) hs hv) (fun v' h' hq' => ?_) (fun i h' hq' => by cases hq')
  cases hq'
  refine mj_T.pl rfl rfl rfl rfl ?_
  refine mj_T.iadd (b := 2) rfl ?_
  rw [show ((jnl v.natAbs : Nat) : Int) + 2 = ((jnl v.natAbs + 2 : Nat) : Int) by omega]
  refine mj_T.prim rfl rfl (jX_cpy C (by omega) (by omega)) ?_
  refine mj_T.ret rfl rfl rfl ⟨_, ⟨?_, ?_, fun j hj => ?_, h4⟩, fun j hj => ?_, rfl⟩
  · unfold va_cpy
    rw [if_pos (by omega), show s * 702 + (to * 702 - to * 702) = s * 702 by omega]
    exact hv.1
  · unfold va_cpy
    rw [if_pos (by omega), show s * 702 + (to * 702 + 1 - to * 702) = s * 702 + 1 by omega]
    exact hv.2.1
  · unfold va_cpy
    rw [if_pos (by omega), show s * 702 + (to * 702 + 2 + j - to * 702) = s * 702 + 2 + j by omega]
    exact hv.2.2.1 j hj
  · unfold va_cpy
    rw [if_neg (by omega)]
theorem jq_cmp_loop (C : jC hp q0 q1 fs) {s1 s2 : Nat} {u v : Int} (hs1 : s1 < 665) (hs2 : s2 < 665) (hu : jrs bg s1 u) (hv : jrs bg s2 v) {Q : mj_R → Prop} (hend : Q (.inl (some (.int (jn (jcm u.natAbs v.natAbs)))), jX hp q1 bg)) :
    ∀ k : Nat, k ≤ 700 → u.natAbs / jB ^ k = v.natAbs / jB ^ k → mj_T (D + 2) mj_m184 40 [some (.ref q0), some (.int (jn s1)), some (.int (jn s2)), some (.int (jn ((k : Int) - 1)))] [] (jX hp q1 bg) Q := by
  intro k
  induction k with
  | zero =>
    intro hk he
    refine mj_T.pl rfl rfl rfl rfl ?_
    refine mj_T.if0 rfl ⟨by omega, by omega⟩ (fun hc => ?_) (fun hc => ?_)
    · rw [Nat.pow_zero, Nat.div_one, Nat.div_one] at he
      rw [jcm_eq he] at hend
      refine mj_T.pl rfl rfl rfl rfl ?_
      exact mj_T.ret rfl rfl rfl hend
    · simp only [jc, decide_eq_false_iff_not] at hc; omega
  | succ k ih =>
    intro hk he
    have hx1 := jlb_lt u.natAbs k
    have hy1 := jlb_lt v.natAbs k
    rw [show ((k + 1 : Nat) : Int) - 1 = (k : Int) by omega]
    refine mj_T.pl rfl rfl rfl rfl ?_
    refine mj_T.if0 rfl ⟨by omega, by omega⟩ (fun hc => ?_) (fun hc => ?_)
    · simp only [jc, decide_eq_true_eq] at hc; omega
    clear hc
    iterate 3 refine mj_T.pl rfl rfl rfl rfl ?_
    refine mj_T.call (ins := .invokevirtual 64) rfl rfl (Nat.le_of_ble_eq_true rfl) (Nat.le_of_ble_eq_true rfl) (by simp [mj_recv, jX_a C]) rfl (jq_limb (D := D) (jX_a C) C.2.1 (jX_b C) hs1 (show k ≤ 700 by omega) hu) (fun v' h' hq' => ?_) (fun i h' hq' => by cases hq')
    cases hq'
    iterate 3 refine mj_T.pl rfl rfl rfl rfl ?_
    refine mj_T.call (ins := .invokevirtual 64) rfl rfl (Nat.le_of_ble_eq_true rfl) (Nat.le_of_ble_eq_true rfl) (by simp [mj_recv, jX_a C]) rfl (jq_limb (D := D) (jX_a C) C.2.1 (jX_b C) hs2 (show k ≤ 700 by omega) hv) (fun v' h' hq' => ?_) (fun i h' hq' => by cases hq')
    cases hq'
    refine mj_T.icmp rfl ⟨by omega, by omega⟩ ⟨by omega, by omega⟩ (fun hc => ?_) (fun hc => ?_)
    · simp only [jc, decide_eq_true_eq] at hc
      refine mj_T.iinc (a := k) rfl rfl ?_
      refine mj_T.pl rfl rfl rfl rfl ?_
      exact ih (by omega) (jeq_of he (by omega))
    · simp only [jc, decide_eq_false_iff_not] at hc
      iterate 3 refine mj_T.pl rfl rfl rfl rfl ?_
      refine mj_T.call (ins := .invokevirtual 64) rfl rfl (Nat.le_of_ble_eq_true rfl) (Nat.le_of_ble_eq_true rfl) (by simp [mj_recv, jX_a C]) rfl (jq_limb (D := D) (jX_a C) C.2.1 (jX_b C) hs1 (show k ≤ 700 by omega) hu) (fun v' h' hq' => ?_) (fun i h' hq' => by cases hq')
      cases hq'
      iterate 3 refine mj_T.pl rfl rfl rfl rfl ?_
      refine mj_T.call (ins := .invokevirtual 64) rfl rfl (Nat.le_of_ble_eq_true rfl) (Nat.le_of_ble_eq_true rfl) (by simp [mj_recv, jX_a C]) rfl (jq_limb (D := D) (jX_a C) C.2.1 (jX_b C) hs2 (show k ≤ 700 by omega) hv) (fun v' h' hq' => ?_) (fun i h' hq' => by cases hq')
      cases hq'
      refine mj_T.icmp rfl ⟨by omega, by omega⟩ ⟨by omega, by omega⟩ (fun hc2 => ?_) (fun hc2 => ?_)
      · simp only [jc, decide_eq_true_eq] at hc2
        rw [jcm_gt (jlt_of he.symm (show jlb v.natAbs k < jlb u.natAbs k by omega))] at hend
        refine mj_T.pl rfl rfl rfl rfl ?_
        exact mj_T.ret rfl rfl rfl hend
      · simp only [jc, decide_eq_false_iff_not] at hc2
        rw [jcm_lt (jlt_of he (show jlb u.natAbs k < jlb v.natAbs k by omega))] at hend
        iterate 2 refine mj_T.pl rfl rfl rfl rfl ?_
        exact mj_T.ret rfl rfl rfl hend
theorem jq_cmp (C : jC hp q0 q1 fs) {s1 s2 : Nat} {u v : Int} (hs1 : s1 < 665) (hs2 : s2 < 665) (hu : jrs bg s1 u) (hv : jrs bg s2 v) :
    mj_Ok (D + 3) 184 [.ref q0, .int (jn s1), .int (jn s2)] (jX hp q1 bg) (fun r => r = (.inl (some (.int (jn (jcm u.natAbs v.natAbs)))), jX hp q1 bg)) := by
  have k1 := hu.2.2.2
  have k2 := hv.2.2.2
  refine mj_Ok.of (M := mj_m184) rfl rfl rfl ?_
  iterate 2 refine mj_T.pl rfl rfl rfl rfl ?_
  refine mj_T.call (ins := .invokevirtual 52) rfl rfl (Nat.le_of_ble_eq_true rfl) (Nat.le_of_ble_eq_true rfl) (by simp [mj_recv, jX_a C]) rfl (jq_length (D := D + 1) (jX_a C) C.2.1 (jX_b C) hs1 hu) (fun v' h' hq' => ?_) (fun i h' hq' => by cases hq')
  cases hq'
  iterate 2 refine mj_T.pl rfl rfl rfl rfl ?_
  refine mj_T.call (ins := .invokevirtual 52) rfl rfl (Nat.le_of_ble_eq_true rfl) (Nat.le_of_ble_eq_true rfl) (by simp [mj_recv, jX_a C]) rfl (jq_length (D := D + 1) (jX_a C) C.2.1 (jX_b C) hs2 hv) (fun v' h' hq' => ?_) (fun i h' hq' => by cases hq')
  cases hq'
  refine mj_T.icmp rfl ⟨by omega, by omega⟩ ⟨by omega, by omega⟩ (fun hc => ?_) (fun hc => ?_)
  · simp only [jc, decide_eq_true_eq] at hc
    iterate 2 refine mj_T.pl rfl rfl rfl rfl ?_
    refine mj_T.call (ins := .invokevirtual 52) rfl rfl (Nat.le_of_ble_eq_true rfl) (Nat.le_of_ble_eq_true rfl) (by simp [mj_recv, jX_a C]) rfl (jq_length (D := D + 1) (jX_a C) C.2.1 (jX_b C) hs1 hu) (fun v' h' hq' => ?_) (fun i h' hq' => by cases hq')
    cases hq'
    refine mj_T.pl rfl rfl rfl rfl ?_
    refine mj_T.isub (b := 1) rfl ?_
    refine mj_T.pl rfl rfl rfl rfl ?_
    have e1 := jnl_le.mp (Nat.le_refl (jnl u.natAbs))
    have e2 := jnl_le.mp (show jnl v.natAbs ≤ jnl u.natAbs by omega)
    exact jq_cmp_loop (Q := fun r => r = (.inl (some (.int (jn (jcm u.natAbs v.natAbs)))), jX hp q1 bg)) C hs1 hs2 hu hv rfl (jnl u.natAbs) k1 (by rw [e1, e2])
  · simp only [jc, decide_eq_false_iff_not] at hc
    iterate 2 refine mj_T.pl rfl rfl rfl rfl ?_
    refine mj_T.call (ins := .invokevirtual 52) rfl rfl (Nat.le_of_ble_eq_true rfl) (Nat.le_of_ble_eq_true rfl) (by simp [mj_recv, jX_a C]) rfl (jq_length (D := D + 1) (jX_a C) C.2.1 (jX_b C) hs1 hu) (fun v' h' hq' => ?_) (fun i h' hq' => by cases hq')
    cases hq'
    iterate 2 refine mj_T.pl rfl rfl rfl rfl ?_
    refine mj_T.call (ins := .invokevirtual 52) rfl rfl (Nat.le_of_ble_eq_true rfl) (Nat.le_of_ble_eq_true rfl) (by simp [mj_recv, jX_a C]) rfl (jq_length (D := D + 1) (jX_a C) C.2.1 (jX_b C) hs2 hv) (fun v' h' hq' => ?_) (fun i h' hq' => by cases hq')
    cases hq'
    refine mj_T.icmp rfl ⟨by omega, by omega⟩ ⟨by omega, by omega⟩ (fun hc2 => ?_) (fun hc2 => ?_)
    · simp only [jc, decide_eq_true_eq] at hc2
      rw [jcm_gt (jlt_nl (show jnl v.natAbs < jnl u.natAbs by omega))]
      refine mj_T.pl rfl rfl rfl rfl ?_
      exact mj_T.ret rfl rfl rfl rfl
    · simp only [jc, decide_eq_false_iff_not] at hc2
      rw [jcm_lt (jlt_nl (show jnl u.natAbs < jnl v.natAbs by omega))]
      iterate 2 refine mj_T.pl rfl rfl rfl rfl ?_
      exact mj_T.ret rfl rfl rfl rfl
theorem jq_takes_loop (C : jC hp q0 q1 fs) {to a b x y z : Nat} {bg0 : Nat → Int32} {sg : Int} (hto : to < 665) (ha : a < 665) (hb : b < 665) (hxz : x = z + y) (hx : jnl x ≤ 700) (h1 : ∀ j, j < jnl x → bg0 (a * 702 + 2 + j) = jn (jlb x j)) (h2 : ∀ j, j < jnl y → bg0 (b * 702 + 2 + j) = jn (jlb y j)) {Q : mj_R → Prop}
    (hend : ∀ (bg : Nat → Int32) (l7 l9 : Option Value), (∀ j, j < jnl x → bg (to * 702 + 2 + j) = jn (jlb z j)) → (∀ q, (∀ j, j < jnl x → q ≠ to * 702 + 2 + j) → bg q = bg0 q) → mj_T D mj_m187 115 [some (.ref q0), some (.int (jn to)), some (.int (jn a)), some (.int (jn b)), some (.int (jn sg)), some (.int (jn (jnl x))), some (.int (jn (jnl y))), l7, some (.int (jn (jnl x))), l9] [] (jX hp q1 bg) Q) :
    ∀ (d k : Nat) (bg : Nat → Int32) (l9 : Option Value), k + d = jnl x → (∀ j, j < k → bg (to * 702 + 2 + j) = jn (jlb z j)) → (∀ q, (∀ j, j < k → q ≠ to * 702 + 2 + j) → bg q = bg0 q) →
      mj_T D mj_m187 20 [some (.ref q0), some (.int (jn to)), some (.int (jn a)), some (.int (jn b)), some (.int (jn sg)), some (.int (jn (jnl x))), some (.int (jn (jnl y))), some (.int (jn (jcy z y k))), some (.int (jn k)), l9] [] (jX hp q1 bg) Q := by
  have hyx : jnl y ≤ jnl x := jnl_mono (by omega)
  intro d
  induction d with
  | zero =>
    intro k bg l9 hk g1 g2
    have ek : k = jnl x := by omega
    subst ek
    iterate 2 refine mj_T.pl rfl rfl rfl rfl ?_
    refine mj_T.icmp rfl ⟨by omega, by omega⟩ ⟨by omega, by omega⟩ (fun hc => ?_) (fun hc => ?_)
    · exact hend bg _ l9 g1 g2
    · simp only [jc, decide_eq_false_iff_not] at hc; omega
  | succ d ih =>
    intro k bg l9 hk g1 g2
    have hcx := jcy_le z y k
    have hcx2 := jcy_le z y (k + 1)
    have hu1 := jlb_lt x k
    have hv1 := jlb_lt y k
    have hz1 := jlb_lt z k
    have hlim : jlb (z + y) k = (jlb z k + jlb y k + jcy z y k) % 1000000000 := jcy_limb z y k
    have hnx : jcy z y (k + 1) = (jlb z k + jlb y k + jcy z y k) / 1000000000 := jcy_next z y k
    rw [← hxz] at hlim
    have hdm := Nat.div_add_mod (jlb z k + jlb y k + jcy z y k) 1000000000
    iterate 2 refine mj_T.pl rfl rfl rfl rfl ?_
    refine mj_T.icmp rfl ⟨by omega, by omega⟩ ⟨by omega, by omega⟩ (fun hc => ?_) (fun hc => ?_)
    · simp only [jc, decide_eq_true_eq] at hc; omega
    clear hc
    have k84 : ∀ w s : Int, w = (jcy z y (k + 1) : Nat) → s = (jlb z k : Int) - (jcy z y (k + 1) : Nat) * 1000000000 → mj_T D mj_m187 84 [some (.ref q0), some (.int (jn to)), some (.int (jn a)), some (.int (jn b)), some (.int (jn sg)), some (.int (jn (jnl x))), some (.int (jn (jnl y))), some (.int (jn (jcy z y k))), some (.int (jn k)), some (.int (jn s))] [.int (jn w)] (jX hp q1 bg) Q := by
      intro w s hw hs
      subst hw
      iterate 5 (first | refine mj_T.gb C rfl ?_ | refine mj_T.pl rfl rfl rfl rfl ?_)
      refine mj_T.imul (b := 702) rfl ?_
      refine mj_T.pl rfl rfl rfl rfl ?_
      refine mj_T.iadd (b := 2) rfl ?_
      refine mj_T.pl rfl rfl rfl rfl ?_
      refine mj_T.iadd rfl ?_
      rw [show (to : Int) * 702 + 2 + (k : Int) = ((to * 702 + 2 + k : Nat) : Int) by omega]
      iterate 3 refine mj_T.pl rfl rfl rfl rfl ?_
      refine mj_T.imul (b := 1000000000) rfl ?_
      refine mj_T.iadd rfl ?_
      rw [show s + ((jcy z y (k + 1) : Nat) : Int) * 1000000000 = ((jlb z k : Nat) : Int) by omega]
      refine mj_T.xst C rfl ⟨by omega, by omega⟩ ⟨by omega, by omega⟩ ?_
      refine mj_T.iinc (a := k) rfl rfl ?_
      refine mj_T.pl rfl rfl rfl rfl ?_
      refine ih (k + 1) (upd bg (to * 702 + 2 + k) (jn (jlb z k))) _ (by omega) (fun j hj => ?_) (fun q hq => ?_)
      · unfold upd
        by_cases h : j = k
        · subst h; rw [if_pos rfl]
        · rw [if_neg (by omega)]; exact g1 j (by omega)
      · unfold upd
        rw [if_neg (hq k (by omega))]
        exact g2 q (fun j hj => hq j (by omega))
    have k68 : ∀ w : Int, w = (jlb y k : Nat) → mj_T D mj_m187 68 [some (.ref q0), some (.int (jn to)), some (.int (jn a)), some (.int (jn b)), some (.int (jn sg)), some (.int (jn (jnl x))), some (.int (jn (jnl y))), some (.int (jn (jcy z y k))), some (.int (jn k)), l9] [.int (jn w), .int (jn (jlb x k : Nat))] (jX hp q1 bg) Q := by
      intro w hw
      refine mj_T.isub rfl ?_
      refine mj_T.pl rfl rfl rfl rfl ?_
      refine mj_T.isub rfl ?_
      iterate 2 refine mj_T.pl rfl rfl rfl rfl ?_
      refine mj_T.if0 rfl ⟨by omega, by omega⟩ (fun hc => ?_) (fun hc => ?_)
      · simp only [jc, decide_eq_true_eq] at hc
        refine mj_T.pl rfl rfl rfl rfl ?_
        exact k84 0 _ (by omega) (by omega)
      · simp only [jc, decide_eq_false_iff_not] at hc
        iterate 2 refine mj_T.pl rfl rfl rfl rfl ?_
        exact k84 1 _ (by omega) (by omega)
    iterate 4 (first | refine mj_T.gb C rfl ?_ | refine mj_T.pl rfl rfl rfl rfl ?_)
    refine mj_T.imul (b := 702) rfl ?_
    refine mj_T.pl rfl rfl rfl rfl ?_
    refine mj_T.iadd (b := 2) rfl ?_
    refine mj_T.pl rfl rfl rfl rfl ?_
    refine mj_T.iadd rfl ?_
    rw [show (a : Int) * 702 + 2 + (k : Int) = ((a * 702 + 2 + k : Nat) : Int) by omega]
    refine mj_T.xld C rfl ⟨by omega, by omega⟩ ⟨by omega, by omega⟩ ((g2 (a * 702 + 2 + k) (fun j hj => by omega)).trans (h1 k (by omega))) ?_
    iterate 2 refine mj_T.pl rfl rfl rfl rfl ?_
    refine mj_T.icmp rfl ⟨by omega, by omega⟩ ⟨by omega, by omega⟩ (fun hc => ?_) (fun hc => ?_)
    · simp only [jc, decide_eq_true_eq] at hc
      refine mj_T.pl rfl rfl rfl rfl ?_
      exact k68 0 (by rw [jlb_high (show jnl y ≤ k by omega)]; rfl)
    · simp only [jc, decide_eq_false_iff_not] at hc
      iterate 4 (first | refine mj_T.gb C rfl ?_ | refine mj_T.pl rfl rfl rfl rfl ?_)
      refine mj_T.imul (b := 702) rfl ?_
      refine mj_T.pl rfl rfl rfl rfl ?_
      refine mj_T.iadd (b := 2) rfl ?_
      refine mj_T.pl rfl rfl rfl rfl ?_
      refine mj_T.iadd rfl ?_
      rw [show (b : Int) * 702 + 2 + (k : Int) = ((b * 702 + 2 + k : Nat) : Int) by omega]
      refine mj_T.xld C rfl ⟨by omega, by omega⟩ ⟨by omega, by omega⟩ ((g2 (b * 702 + 2 + k) (fun j hj => by omega)).trans (h2 k (by omega))) ?_
      refine mj_T.pl rfl rfl rfl rfl ?_
      exact k68 _ rfl
theorem jq_takes (C : jC hp q0 q1 fs) {to a b : Nat} {u v sg : Int} (hto : to < 665) (ha : a < 665) (hb : b < 665) (hu : jrs bg a u) (hv : jrs bg b v) (hle : v.natAbs ≤ u.natAbs) :
    mj_Ok (D + 2) 187 [.ref q0, .int (jn to), .int (jn a), .int (jn b), .int (jn sg)] (jX hp q1 bg) (fun r => ∃ bg' : Nat → Int32, bg' (to * 702) = jn (if u.natAbs - v.natAbs = 0 then 0 else sg) ∧ bg' (to * 702 + 1) = jn (jnl (u.natAbs - v.natAbs)) ∧ (∀ j, j < jnl (u.natAbs - v.natAbs) → bg' (to * 702 + 2 + j) = jn (jlb (u.natAbs - v.natAbs) j)) ∧ jrf bg bg' to ∧ r = (.inl none, jX hp q1 bg')) := by
  have k1 := hu.2.2.2
  refine mj_Ok.of (M := mj_m187) rfl rfl rfl ?_
  iterate 2 refine mj_T.pl rfl rfl rfl rfl ?_
  refine mj_T.call (ins := .invokevirtual 52) rfl rfl (Nat.le_of_ble_eq_true rfl) (Nat.le_of_ble_eq_true rfl) (by simp [mj_recv, jX_a C]) rfl (jq_length (D := D) (jX_a C) C.2.1 (jX_b C) ha hu) (fun v' h' hq' => ?_) (fun i h' hq' => by cases hq')
  cases hq'
  iterate 3 refine mj_T.pl rfl rfl rfl rfl ?_
  refine mj_T.call (ins := .invokevirtual 52) rfl rfl (Nat.le_of_ble_eq_true rfl) (Nat.le_of_ble_eq_true rfl) (by simp [mj_recv, jX_a C]) rfl (jq_length (D := D) (jX_a C) C.2.1 (jX_b C) hb hv) (fun v' h' hq' => ?_) (fun i h' hq' => by cases hq')
  cases hq'
  iterate 5 refine mj_T.pl rfl rfl rfl rfl ?_
  have hzx : jnl (u.natAbs - v.natAbs) ≤ jnl u.natAbs := jnl_mono (Nat.sub_le _ _)
  refine mj_T.eq (jq_takes_loop C (x := u.natAbs) (y := v.natAbs) (z := u.natAbs - v.natAbs) (sg := sg) hto ha hb (by omega) k1 hu.2.2.1 hv.2.2.1 (fun bg1 l7 l9 g1 g2 => ?_) (jnl u.natAbs) 0 bg none (by omega) (fun j hj => by omega) (fun q _ => rfl)) rfl ?_ rfl rfl
  rotate_left
  · rw [jcy_zero]; rfl
  generalize u.natAbs - v.natAbs = z at *
  iterate 4 (first | refine mj_T.gb C rfl ?_ | refine mj_T.pl rfl rfl rfl rfl ?_)
  refine mj_T.imul (b := 702) rfl ?_
  rw [show (to : Int) * 702 = ((to * 702 : Nat) : Int) by omega]
  refine mj_T.pl rfl rfl rfl rfl ?_
  refine mj_T.xst C rfl ⟨by omega, by omega⟩ ⟨by omega, by omega⟩ ?_
  iterate 3 refine mj_T.pl rfl rfl rfl rfl ?_
  refine mj_T.call (ins := .invokevirtual 80) rfl rfl (Nat.le_of_ble_eq_true rfl) (Nat.le_of_ble_eq_true rfl) (by simp [mj_recv, jX_a C]) rfl (jq_trims (D := D) C (bg := upd bg1 (to * 702) (jn sg)) (x := z) (g0 := sg) (n := jnl u.natAbs) hto k1 hzx (if_pos rfl) (fun j hj => ?_)) (fun v' h' hq' => ?_) (fun i h' hq' => by obtain ⟨_, _, _, _, _, h⟩ := hq'; cases h)
  · unfold upd
    rw [if_neg (by omega)]
    exact g1 j hj
  · obtain ⟨bg', e1, e2, e3, e4, h⟩ := hq'
    cases h
    refine mj_T.ret rfl rfl rfl ⟨bg', e1, e2, fun j hj => e3 j (Nat.lt_of_lt_of_le hj hzx), fun q hq => ?_, rfl⟩
    rw [e4 q hq]
    unfold upd
    rw [if_neg (by omega)]
    exact g2 q (fun j hj => by omega)
end JX3

