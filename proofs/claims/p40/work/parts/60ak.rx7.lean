/-! Of the reference and of numbers (as in p1, part 78r). -/
theorem jsg_mul2 (u v : Int) : jsg u * jsg v = jsg (u * v) := by
  rcases Int.lt_trichotomy u 0 with h1 | h1 | h1
  · rcases Int.lt_trichotomy v 0 with h2 | h2 | h2
    · rw [jsg_neg h1, jsg_neg h2, jsg_pos (Int.mul_pos_of_neg_of_neg h1 h2)]; rfl
    · rw [h2, Int.mul_zero, jsg_zero, Int.mul_zero]
    · rw [jsg_neg h1, jsg_pos h2, jsg_neg (Int.mul_neg_of_neg_of_pos h1 h2)]; rfl
  · rw [h1, Int.zero_mul, jsg_zero, Int.zero_mul]
  · rcases Int.lt_trichotomy v 0 with h2 | h2 | h2
    · rw [jsg_pos h1, jsg_neg h2, jsg_neg (Int.mul_neg_of_pos_of_neg h1 h2)]; rfl
    · rw [h2, Int.mul_zero, jsg_zero, Int.mul_zero]
    · rw [jsg_pos h1, jsg_pos h2, jsg_pos (Int.mul_pos h1 h2)]; rfl
theorem jmp_zero (A X y i : Nat) : jmp A X y i 0 = A := by
  unfold jmp
  rw [Nat.pow_zero, Nat.mod_one, Nat.mul_zero, Nat.zero_mul, Nat.add_zero]
theorem jmp_full {x y i lb : Nat} (h : jnl y ≤ lb) : jmp (x % jB ^ i * y) (jlb x i) y i lb = x % jB ^ (i + 1) * y := by
  unfold jmp
  rw [jmod_full h, jmod x i, Nat.add_mul]
  have e : jlb x i * y * jB ^ i = jlb x i * jB ^ i * y := by simp only [Nat.mul_comm, Nat.mul_left_comm, Nat.mul_assoc]
  rw [e, Nat.add_comm]
theorem jml_lt {x y i lb : Nat} (h : jnl y ≤ lb) : x % jB ^ i * y < jB ^ (i + lb) := by
  rw [Nat.pow_add]
  exact Nat.mul_lt_mul'' (Nat.mod_lt _ (jB_pow i)) (jnl_le_lt.mp h)
theorem jmc_full {x y i lb : Nat} (h : jnl y ≤ lb) : jmc (x % jB ^ i * y) (jlb x i) y i lb = jlb (x % jB ^ (i + 1) * y) (i + lb) := by
  have h1 : jmc (x % jB ^ i * y) (jlb x i) y i lb = x % jB ^ (i + 1) * y / jB ^ (i + lb) := by
    rw [← jmp_full (x := x) (i := i) h]
    unfold jmc jmp
    rw [Nat.mod_eq_of_lt (jml_lt (x := x) (i := i) h)]
  have h2 : x % jB ^ (i + 1) * y / jB ^ (i + lb) < jB := by
    rw [Nat.div_lt_iff_lt_mul (jB_pow _), Nat.mul_comm jB, ← Nat.pow_succ, show (i + lb).succ = i + 1 + lb by omega]
    exact jml_lt h
  unfold jlb
  rw [Nat.mod_eq_of_lt h2]
  exact h1
section JX8
variable {D : Nat} {hp : mj_H} {q0 q1 q2 : Nat} {fs : List Value} {bg : Nat → Int32}
theorem jq_mul_out (E : jE hp q0 q1 q2 fs) {to a b la lb x y : Nat} (ha : a < 665) (hb : b < 665) (hl : la + lb ≤ 700) (hla : la = jnl x) (hlb : lb = jnl y) (hx : ∀ j, j < jnl x → bg (a * 702 + 2 + j) = jn (jlb x j)) (hy : ∀ j, j < jnl y → bg (b * 702 + 2 + j) = jn (jlb y j)) {Q : mj_R → Prop}
    (hend : ∀ (ov : Nat → Value) (l7 l9 l11 l12 : Option Value), (∀ j, j ≤ la + lb → ov j = .int (jn (jlb (x * y) j : Nat))) → mj_T D mj_m189 168 [some (.ref q0), some (.int (jn to)), some (.int (jn a)), some (.int (jn b)), some (.int (jn la)), some (.int (jn lb)), some (.int (jn la)), l7, none, l9, none, l11, l12, none] [] (jY hp q1 q2 bg ov) Q) :
    ∀ (d i : Nat) (ov : Nat → Value) (l7 l9 l11 l12 : Option Value), i + d = la → (∀ j, j ≤ la + lb → ov j = .int (jn (jlb (x % jB ^ i * y) j : Nat))) →
      mj_T D mj_m189 44 [some (.ref q0), some (.int (jn to)), some (.int (jn a)), some (.int (jn b)), some (.int (jn la)), some (.int (jn lb)), some (.int (jn i)), l7, none, l9, none, l11, l12, none] [] (jY hp q1 q2 bg ov) Q := by
  intro d
  induction d with
  | zero =>
    intro i ov l7 l9 l11 l12 hi h1
    have ei : i = la := by omega
    subst ei
    iterate 2 refine mj_T.pl rfl rfl rfl rfl ?_
    refine mj_T.icmp rfl ⟨by omega, by omega⟩ ⟨by omega, by omega⟩ (fun hc => ?_) (fun hc => ?_)
    · refine hend ov l7 l9 l11 l12 (fun j hj => ?_)
      rw [h1 j hj, jmod_full (show jnl x ≤ i by omega)]
    · simp only [jc, decide_eq_false_iff_not] at hc; omega
  | succ d ih =>
    intro i ov l7 l9 l11 l12 hi h1
    have x1 := jlb_lt x i
    iterate 2 refine mj_T.pl rfl rfl rfl rfl ?_
    refine mj_T.icmp rfl ⟨by omega, by omega⟩ ⟨by omega, by omega⟩ (fun hc => ?_) (fun hc => ?_)
    · simp only [jc, decide_eq_true_eq] at hc; omega
    clear hc
    iterate 3 refine mj_T.pl rfl rfl rfl rfl ?_
    refine mj_T.gb (jE_c E _) rfl ?_
    iterate 2 refine mj_T.pl rfl rfl rfl rfl ?_
    refine mj_T.imul (b := 702) rfl ?_
    refine mj_T.pl rfl rfl rfl rfl ?_
    refine mj_T.iadd (b := 2) rfl ?_
    refine mj_T.pl rfl rfl rfl rfl ?_
    refine mj_T.iadd rfl ?_
    rw [show (a : Int) * 702 + 2 + (i : Int) = ((a * 702 + 2 + i : Nat) : Int) by omega]
    refine mj_T.xld (jE_c E _) rfl ⟨by omega, by omega⟩ ⟨by omega, by omega⟩ (hx i (by omega)) ?_
    refine mj_T.i2l rfl ⟨by omega, by omega⟩ ?_
    iterate 3 refine mj_T.pl rfl rfl rfl rfl ?_
    refine mj_T.eq (jq_mul_in E (A := x % jB ^ i * y) (X := jlb x i) (y := y) (la := la) (lb := lb) (i := i) (to := to) (a := a) hb (by omega) (by omega) x1 hlb hy (fun ov' m11 m12 k1 k2 => ?_) lb 0 ov l12 (by omega) (fun j hj => ?_) (fun j _ hj => h1 j hj)) rfl ?_ rfl rfl
    · refine mj_T.pl rfl rfl rfl rfl ?_
      refine mj_T.gov E rfl ?_
      iterate 2 refine mj_T.pl rfl rfl rfl rfl ?_
      refine mj_T.iadd rfl ?_
      rw [show (i : Int) + (lb : Int) = ((i + lb : Nat) : Int) by omega]
      refine mj_T.pl rfl rfl rfl rfl ?_
      refine mj_T.l2i rfl ?_
      refine mj_T.ost E rfl ⟨by omega, by omega⟩ ⟨by omega, by omega⟩ ?_
      refine mj_T.iinc (a := i) rfl rfl ?_
      refine mj_T.pl rfl rfl rfl rfl ?_
      refine ih (i + 1) _ _ _ _ _ (by omega) (fun j hj => ?_)
      have hy0 : jnl y ≤ lb := by omega
      unfold updV
      rcases Nat.lt_trichotomy j (i + lb) with c | c | c
      · rw [if_neg (by omega), k1 j c, jmp_full hy0]
      · rw [if_pos (by omega), jmc_full hy0, c]
      · rw [if_neg (by omega), k2 j (by omega) hj]
        have g1 : jnl (x % jB ^ i * y) ≤ j := Nat.le_trans (jnl_of (jml_lt hy0)) (by omega)
        have g2 : jnl (x % jB ^ (i + 1) * y) ≤ j := Nat.le_trans (jnl_of (jml_lt hy0)) (by omega)
        rw [jlb_high g1, jlb_high g2]
    · rw [jmp_zero]
      exact h1 j (by omega)
    · rw [jmc_zero]
      rfl
theorem jq_mul_cp (E : jE hp q0 q1 q2 fs) {to a b la lb z : Nat} {sg : Int} {bg0 : Nat → Int32} {ov : Nat → Value} {l9 l11 l12 : Option Value} (hto : to < 665) (hl : la + lb ≤ 700) (hov : ∀ j, j < la + lb → ov j = .int (jn (jlb z j : Nat))) {Q : mj_R → Prop}
    (hend : ∀ bg : Nat → Int32, (∀ j, j < la + lb → bg (to * 702 + 2 + j) = jn (jlb z j : Nat)) → jrf bg0 bg to → mj_T D mj_m189 222 [some (.ref q0), some (.int (jn to)), some (.int (jn a)), some (.int (jn b)), some (.int (jn la)), some (.int (jn lb)), some (.int (jn sg)), some (.int (jn (la + lb : Nat))), none, l9, none, l11, l12, none] [] (jY hp q1 q2 bg ov) Q) :
    ∀ (d k : Nat) (bg : Nat → Int32), k + d = la + lb → (∀ j, j < k → bg (to * 702 + 2 + j) = jn (jlb z j : Nat)) → jrf bg0 bg to →
      mj_T D mj_m189 184 [some (.ref q0), some (.int (jn to)), some (.int (jn a)), some (.int (jn b)), some (.int (jn la)), some (.int (jn lb)), some (.int (jn sg)), some (.int (jn k)), none, l9, none, l11, l12, none] [] (jY hp q1 q2 bg ov) Q := by
  intro d
  induction d with
  | zero =>
    intro k bg hk h1 h2
    have ek : k = la + lb := by omega
    subst ek
    iterate 3 refine mj_T.pl rfl rfl rfl rfl ?_
    refine mj_T.iadd rfl ?_
    refine mj_T.icmp rfl ⟨by omega, by omega⟩ ⟨by omega, by omega⟩ (fun hc => ?_) (fun hc => ?_)
    · exact hend bg h1 h2
    · simp only [jc, decide_eq_false_iff_not] at hc; omega
  | succ d ih =>
    intro k bg hk h1 h2
    have z1 := jlb_lt z k
    iterate 3 refine mj_T.pl rfl rfl rfl rfl ?_
    refine mj_T.iadd rfl ?_
    refine mj_T.icmp rfl ⟨by omega, by omega⟩ ⟨by omega, by omega⟩ (fun hc => ?_) (fun hc => ?_)
    · simp only [jc, decide_eq_true_eq] at hc; omega
    clear hc
    refine mj_T.pl rfl rfl rfl rfl ?_
    refine mj_T.gb (jE_c E _) rfl ?_
    iterate 2 refine mj_T.pl rfl rfl rfl rfl ?_
    refine mj_T.imul (b := 702) rfl ?_
    refine mj_T.pl rfl rfl rfl rfl ?_
    refine mj_T.iadd (b := 2) rfl ?_
    refine mj_T.pl rfl rfl rfl rfl ?_
    refine mj_T.iadd rfl ?_
    rw [show (to : Int) * 702 + 2 + (k : Int) = ((to * 702 + 2 + k : Nat) : Int) by omega]
    refine mj_T.pl rfl rfl rfl rfl ?_
    refine mj_T.gov E rfl ?_
    refine mj_T.pl rfl rfl rfl rfl ?_
    refine mj_T.old E rfl ⟨by omega, by omega⟩ ⟨by omega, by omega⟩ (hov k (by omega)) ?_
    refine mj_T.xst (jE_c E _) rfl ⟨by omega, by omega⟩ ⟨by omega, by omega⟩ ?_
    refine mj_T.iinc (a := k) rfl rfl ?_
    refine mj_T.pl rfl rfl rfl rfl ?_
    refine ih (k + 1) _ (by omega) (fun j hj => ?_) (fun j hj => ?_)
    · unfold upd
      by_cases h : j = k
      · subst h; exact if_pos rfl
      · rw [if_neg (by omega)]; exact h1 j (by omega)
    · unfold upd
      rw [if_neg (by omega)]
      exact h2 j hj
theorem jq_mul (E : jE hp q0 q1 q2 fs) {to a b : Nat} {u v : Int} {ov : Nat → Value} (hto : to < 665) (ha : a < 665) (hb : b < 665) (hu : jrs bg a u) (hv : jrs bg b v) (hz : jnl (u * v).natAbs ≤ 698) :
    mj_Ok (D + 2) 189 [.ref q0, .int (jn to), .int (jn a), .int (jn b)] (jY hp q1 q2 bg ov) (fun r => ∃ (bg' : Nat → Int32) (ov' : Nat → Value), jrs bg' to (u * v) ∧ jrf bg bg' to ∧ r = (.inl none, jY hp q1 q2 bg' ov')) := by
  have ku := hu.2.2.2
  have kv := hv.2.2.2
  have hab : (u * v).natAbs = u.natAbs * v.natAbs := Int.natAbs_mul u v
  rw [hab] at hz
  have hl : jnl u.natAbs + jnl v.natAbs ≤ 700 := by
    by_cases h1 : u.natAbs = 0
    · rw [h1, jnl_zero]; omega
    · by_cases h2 : v.natAbs = 0
      · rw [h2, jnl_zero]; omega
      · have := jnl_mul_ge h1 h2
        omega
  have hnz := jnl_mul_up u.natAbs v.natAbs
  have hsu := jsg_range u
  have hsv := jsg_range v
  refine mj_Ok.of (M := mj_m189) rfl rfl rfl ?_
  iterate 2 refine mj_T.pl rfl rfl rfl rfl ?_
  refine mj_T.call (ins := .invokevirtual 52) rfl rfl (Nat.le_of_ble_eq_true rfl) (Nat.le_of_ble_eq_true rfl) (by simp [mj_recv, jX_a (jE_c E _)]) rfl (jq_length (D := D) (jX_a (jE_c E _)) E.1.2.1 (jX_b (jE_c E _)) ha hu) (fun v' h' hq' => ?_) (fun i h' hq' => by cases hq')
  cases hq'
  iterate 3 refine mj_T.pl rfl rfl rfl rfl ?_
  refine mj_T.call (ins := .invokevirtual 52) rfl rfl (Nat.le_of_ble_eq_true rfl) (Nat.le_of_ble_eq_true rfl) (by simp [mj_recv, jX_a (jE_c E _)]) rfl (jq_length (D := D) (jX_a (jE_c E _)) E.1.2.1 (jX_b (jE_c E _)) hb hv) (fun v' h' hq' => ?_) (fun i h' hq' => by cases hq')
  cases hq'
  iterate 3 refine mj_T.pl rfl rfl rfl rfl ?_
  refine jq_mul_zero E (to := to) (a := a) (b := b) (la := jnl u.natAbs) (lb := jnl v.natAbs) (by omega) (fun ov1 k1 => ?_) (jnl u.natAbs + jnl v.natAbs + 1) 0 ov (by omega) (fun j hj => by omega)
  iterate 2 refine mj_T.pl rfl rfl rfl rfl ?_
  refine jq_mul_out E (to := to) (a := a) (b := b) (la := jnl u.natAbs) (lb := jnl v.natAbs) (x := u.natAbs) (y := v.natAbs) ha hb (by omega) rfl rfl hu.2.2.1 hv.2.2.1 (fun ov2 l7 l9 l11 l12 k2 => ?_) (jnl u.natAbs) 0 ov1 none none none none (by omega) (fun j hj => ?_)
  · iterate 2 refine mj_T.pl rfl rfl rfl rfl ?_
    refine mj_T.call (ins := .invokevirtual 68) rfl rfl (Nat.le_of_ble_eq_true rfl) (Nat.le_of_ble_eq_true rfl) (by simp [mj_recv, jX_a (jE_c E _)]) rfl (jq_sign (D := D) (jX_a (jE_c E _)) E.1.2.1 (jX_b (jE_c E _)) ha hu) (fun v' h' hq' => ?_) (fun i h' hq' => by cases hq')
    cases hq'
    iterate 2 refine mj_T.pl rfl rfl rfl rfl ?_
    refine mj_T.call (ins := .invokevirtual 68) rfl rfl (Nat.le_of_ble_eq_true rfl) (Nat.le_of_ble_eq_true rfl) (by simp [mj_recv, jX_a (jE_c E _)]) rfl (jq_sign (D := D) (jX_a (jE_c E _)) E.1.2.1 (jX_b (jE_c E _)) hb hv) (fun v' h' hq' => ?_) (fun i h' hq' => by cases hq')
    cases hq'
    refine mj_T.imul rfl ?_
    rw [jsg_mul2]
    iterate 3 refine mj_T.pl rfl rfl rfl rfl ?_
    refine jq_mul_cp E (to := to) (a := a) (b := b) (la := jnl u.natAbs) (lb := jnl v.natAbs) (z := u.natAbs * v.natAbs) (sg := jsg (u * v)) (bg0 := bg) hto hl (fun j hj => k2 j (by omega)) (fun bg1 k3 k4 => ?_) (jnl u.natAbs + jnl v.natAbs) 0 bg (by omega) (fun j hj => by omega) (fun j _ => rfl)
    refine mj_T.pl rfl rfl rfl rfl ?_
    refine mj_T.gb (jE_c E _) rfl ?_
    iterate 2 refine mj_T.pl rfl rfl rfl rfl ?_
    refine mj_T.imul (b := 702) rfl ?_
    rw [show (to : Int) * 702 = ((to * 702 : Nat) : Int) by omega]
    refine mj_T.pl rfl rfl rfl rfl ?_
    refine mj_T.xst (jE_c E _) rfl ⟨by omega, by omega⟩ ⟨by omega, by omega⟩ ?_
    iterate 4 refine mj_T.pl rfl rfl rfl rfl ?_
    refine mj_T.iadd rfl ?_
    rw [show ((jnl u.natAbs : Nat) : Int) + ((jnl v.natAbs : Nat) : Int) = ((jnl u.natAbs + jnl v.natAbs : Nat) : Int) by omega]
    refine mj_T.call (ins := .invokevirtual 80) rfl rfl (Nat.le_of_ble_eq_true rfl) (Nat.le_of_ble_eq_true rfl) (by simp [mj_recv, jX_a (jE_c E _)]) rfl (jq_trims (D := D) (jE_c E _) (bg := upd bg1 (to * 702) (jn (jsg (u * v)))) (x := u.natAbs * v.natAbs) (g0 := jsg (u * v)) (n := jnl u.natAbs + jnl v.natAbs) hto hl hnz (if_pos rfl) (fun j hj => ?_)) (fun v' h' hq' => ?_) (fun i h' hq' => by obtain ⟨_, _, _, _, _, h⟩ := hq'; cases h)
    · unfold upd
      rw [if_neg (by omega)]
      exact k3 j hj
    · obtain ⟨bg', e1, e2, e3, e4, h⟩ := hq'
      cases h
      refine mj_T.ret rfl rfl rfl ⟨bg', ov2, jrs_of hab e1 e2 (fun j hj => e3 j (Nat.lt_of_lt_of_le hj hnz)) (fun _ => rfl) (by omega), fun q hq => ?_, rfl⟩
      rw [e4 q hq]
      unfold upd
      rw [if_neg (by omega)]
      exact k4 q hq
  · rw [Nat.pow_zero, Nat.mod_one, Nat.zero_mul, k1 j hj]
    unfold jlb
    rw [Nat.zero_div, Nat.zero_mod]
    rfl
end JX8

