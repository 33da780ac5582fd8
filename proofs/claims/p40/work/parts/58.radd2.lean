/-! The reference: addsSizes, the whole of it. -/
theorem jcy_top {x y n : Nat} (hx : jnl x ≤ n) (hy : jnl y ≤ n) : jlb (x + y) n = jcy x y n ∧ jnl (x + y) ≤ n + jcy x y n := by
  have hc := jcy_le x y n
  have h1 := jcy_div x y n
  rw [jnl_le.mp hx, jnl_le.mp hy, Nat.zero_add] at h1
  constructor
  · unfold jlb
    rw [h1]
    exact Nat.mod_eq_of_lt (by show _ < 1000000000; omega)
  · rcases (show jcy x y n = 0 ∨ jcy x y n = 1 by omega) with h | h
    · rw [h] at h1 ⊢
      exact jnl_le.mpr h1
    · rw [h] at h1 ⊢
      rw [jnl_le, Nat.pow_succ, ← Nat.div_div_eq_div_mul, h1]
      rfl
theorem jr_addsSizes {D to a b : Nat} {u v : Int} {sg : Int} {t : Nat → Value} {nw bf : Nat → Int64} {bg ov db tx wr : Nat → Int32} (hto : to < 665) (ha : a < 665) (hb : b < 665) (hu : jrs bg a u) (hv : jrs bg b v) (hx : jnl u.natAbs ≤ 698) (hy : jnl v.natAbs ≤ 698) :
    mj_Ok (D + 2) 186 [.ref 0, .int (jn to), .int (jn a), .int (jn b), .int (jn sg)] (jHM t nw bf bg ov db tx wr) (fun r => ∃ bg' : Nat → Int32, bg' (to * 702) = jn (if u.natAbs + v.natAbs = 0 then 0 else sg) ∧ bg' (to * 702 + 1) = jn (jnl (u.natAbs + v.natAbs)) ∧ (∀ j, j < jnl (u.natAbs + v.natAbs) → bg' (to * 702 + 2 + j) = jn (jlb (u.natAbs + v.natAbs) j)) ∧ jrf bg bg' to ∧ r = (.inl none, jHM t nw bf bg' ov db tx wr)) := by
  refine mj_Ok.of (M := mj_m186) rfl rfl rfl ?_
  iterate 2 refine mj_T.pl rfl rfl rfl rfl ?_
  refine mj_T.call (ins := .invokevirtual 52) rfl rfl (Nat.le_of_ble_eq_true rfl) (Nat.le_of_ble_eq_true rfl) rfl rfl (jr_length (D := D) ha hu) (fun v' h' hq' => ?_) (fun i h' hq' => by cases hq')
  cases hq'
  iterate 2 refine mj_T.pl rfl rfl rfl rfl ?_
  refine mj_T.call (ins := .invokevirtual 52) rfl rfl (Nat.le_of_ble_eq_true rfl) (Nat.le_of_ble_eq_true rfl) rfl rfl (jr_length (D := D) hb hv) (fun v' h' hq' => ?_) (fun i h' hq' => by cases hq')
  cases hq'
  refine mj_T.imax (a := (jnl u.natAbs : Nat)) (b := (jnl v.natAbs : Nat)) rfl rfl (Nat.le_of_ble_eq_true rfl) ⟨by omega, by omega⟩ ⟨by omega, by omega⟩ ?_
  rw [show max ((jnl u.natAbs : Nat) : Int) ((jnl v.natAbs : Nat) : Int) = ((max (jnl u.natAbs) (jnl v.natAbs) : Nat) : Int) by omega]
  iterate 5 refine mj_T.pl rfl rfl rfl rfl ?_
  refine mj_T.call (ins := .invokevirtual 52) rfl rfl (Nat.le_of_ble_eq_true rfl) (Nat.le_of_ble_eq_true rfl) rfl rfl (jr_length (D := D) ha hu) (fun v' h' hq' => ?_) (fun i h' hq' => by cases hq')
  cases hq'
  iterate 3 refine mj_T.pl rfl rfl rfl rfl ?_
  refine mj_T.call (ins := .invokevirtual 52) rfl rfl (Nat.le_of_ble_eq_true rfl) (Nat.le_of_ble_eq_true rfl) rfl rfl (jr_length (D := D) hb hv) (fun v' h' hq' => ?_) (fun i h' hq' => by cases hq')
  cases hq'
  iterate 3 refine mj_T.pl rfl rfl rfl rfl ?_
  refine mj_T.eq (jr_adds_loop (x := u.natAbs) (y := v.natAbs) (sg := sg) hto ha hb (by omega) (by omega) hu.2.2.1 hv.2.2.1 (fun bg1 l10 g1 g2 => ?_) (max (jnl u.natAbs) (jnl v.natAbs)) 0 bg none (by omega) (fun j hj => by omega) (fun q _ => rfl)) rfl ?_ rfl rfl
  rotate_left
  · rw [jcy_zero]; rfl
  have htop := jcy_top (x := u.natAbs) (y := v.natAbs) (n := max (jnl u.natAbs) (jnl v.natAbs)) (by omega) (by omega)
  have hc := jcy_le u.natAbs v.natAbs (max (jnl u.natAbs) (jnl v.natAbs))
  have hN : max (jnl u.natAbs) (jnl v.natAbs) ≤ 698 := by omega
  generalize max (jnl u.natAbs) (jnl v.natAbs) = N at *
  iterate 4 refine mj_T.pl rfl rfl rfl rfl ?_
  refine mj_T.imul (b := 702) rfl ?_
  refine mj_T.pl rfl rfl rfl rfl ?_
  refine mj_T.iadd (b := 2) rfl ?_
  refine mj_T.pl rfl rfl rfl rfl ?_
  refine mj_T.iadd rfl ?_
  rw [show (to : Int) * 702 + 2 + (N : Int) = ((to * 702 + 2 + N : Nat) : Int) by omega]
  refine mj_T.pl rfl rfl rfl rfl ?_
  refine mj_T.iast rfl rfl ⟨by omega, by omega⟩ ⟨by omega, by omega⟩ ?_
  iterate 4 refine mj_T.pl rfl rfl rfl rfl ?_
  refine mj_T.imul (b := 702) rfl ?_
  rw [show (to : Int) * 702 = ((to * 702 : Nat) : Int) by omega]
  refine mj_T.pl rfl rfl rfl rfl ?_
  refine mj_T.iast rfl rfl ⟨by omega, by omega⟩ ⟨by omega, by omega⟩ ?_
  iterate 4 refine mj_T.pl rfl rfl rfl rfl ?_
  refine mj_T.iadd rfl ?_
  rw [show (N : Int) + ((jcy u.natAbs v.natAbs N : Nat) : Int) = ((N + jcy u.natAbs v.natAbs N : Nat) : Int) by omega]
  refine mj_T.call (ins := .invokevirtual 80) rfl rfl (Nat.le_of_ble_eq_true rfl) (Nat.le_of_ble_eq_true rfl) rfl rfl (jr_trims (D := D) (bg := upd (upd bg1 (to * 702 + 2 + N) (jn (jcy u.natAbs v.natAbs N))) (to * 702) (jn sg)) (x := u.natAbs + v.natAbs) (g0 := sg) (n := N + jcy u.natAbs v.natAbs N) hto (by omega) htop.2 (if_pos rfl) (fun j hj => ?_)) (fun v' h' hq' => ?_) (fun i h' hq' => by obtain ⟨_, _, _, _, _, h⟩ := hq'; cases h)
  · unfold upd
    rw [if_neg (by omega)]
    by_cases h : j = N
    · subst h; rw [if_pos rfl, htop.1]
    · rw [if_neg (by omega)]; exact g1 j (by omega)
  · obtain ⟨bg', e1, e2, e3, e4, h⟩ := hq'
    cases h
    refine mj_T.ret rfl rfl rfl ⟨bg', e1, e2, fun j hj => e3 j (Nat.lt_of_lt_of_le hj htop.2), fun q hq => ?_, rfl⟩
    rw [e4 q hq]
    unfold upd
    rw [if_neg (by omega), if_neg (by omega)]
    exact g2 q (fun j hj => by omega)
