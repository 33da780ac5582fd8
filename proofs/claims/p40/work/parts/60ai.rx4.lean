/-! Of the reference and of numbers (as in p1, part 78o). -/
theorem jsg_ne {v : Int} (h : v ≠ 0) : jsg v = 1 ∨ jsg v = -1 := by unfold jsg; (repeat' split) <;> omega
theorem jsg_eq0 {v : Int} (h : jsg v = 0) : v = 0 := by unfold jsg at h; (repeat' split at h) <;> omega
theorem jrs_of {bg : Nat → Int32} {s : Nat} {v g : Int} {x : Nat} (hx : v.natAbs = x) (h1 : bg (s * 702) = jn (if x = 0 then 0 else g)) (h2 : bg (s * 702 + 1) = jn (jnl x)) (h3 : ∀ j, j < jnl x → bg (s * 702 + 2 + j) = jn (jlb x j)) (hg : v ≠ 0 → g = jsg v) (hl : jnl x ≤ 700) : jrs bg s v := by
  subst hx
  refine ⟨?_, h2, h3, hl⟩
  rw [h1]
  by_cases hv : v = 0
  · rw [if_pos (by omega), hv]; rfl
  · rw [if_neg (by omega), hg hv]
section JX4
variable {D : Nat} {hp : mj_H} {q0 q1 : Nat} {fs : List Value} {bg : Nat → Int32}
theorem jq_adds (C : jC hp q0 q1 fs) {to a b : Nat} {u v f : Int} (hto : to < 665) (ha : a < 665) (hb : b < 665) (hf : f = 1 ∨ f = -1) (hu : jrs bg a u) (hv : jrs bg b v) (hz : jnl (u + f * v).natAbs ≤ 698) :
    mj_Ok (D + 4) 188 [.ref q0, .int (jn to), .int (jn a), .int (jn b), .int (jn f)] (jX hp q1 bg) (fun r => ∃ bg' : Nat → Int32, jrs bg' to (u + f * v) ∧ jrf bg bg' to ∧ r = (.inl none, jX hp q1 bg')) := by
  have hsu := jsg_range u
  have hsv := jsg_range v
  have hfv : f * jsg v = jsg (f * v) := by
    rcases hf with rfl | rfl
    · rw [Int.one_mul, Int.one_mul]
    · unfold jsg
      (repeat' split) <;> omega
  have hfa : (f * v).natAbs = v.natAbs := by rcases hf with rfl | rfl <;> omega
  have hsw := jsg_range (f * v)
  refine mj_Ok.of (M := mj_m188) rfl rfl rfl ?_
  iterate 3 refine mj_T.pl rfl rfl rfl rfl ?_
  refine mj_T.call (ins := .invokevirtual 68) rfl rfl (Nat.le_of_ble_eq_true rfl) (Nat.le_of_ble_eq_true rfl) (by simp [mj_recv, jX_a C]) rfl (jq_sign (D := D + 2) (jX_a C) C.2.1 (jX_b C) hb hv) (fun v' h' hq' => ?_) (fun i h' hq' => by cases hq')
  cases hq'
  refine mj_T.imul rfl ?_
  rw [hfv]
  iterate 3 refine mj_T.pl rfl rfl rfl rfl ?_
  refine mj_T.call (ins := .invokevirtual 68) rfl rfl (Nat.le_of_ble_eq_true rfl) (Nat.le_of_ble_eq_true rfl) (by simp [mj_recv, jX_a C]) rfl (jq_sign (D := D + 2) (jX_a C) C.2.1 (jX_b C) ha hu) (fun v' h' hq' => ?_) (fun i h' hq' => by cases hq')
  cases hq'
  iterate 2 refine mj_T.pl rfl rfl rfl rfl ?_
  generalize hw : f * v = w at *
  refine mj_T.if0 rfl ⟨by omega, by omega⟩ (fun hc => ?_) (fun hc => ?_)
  · simp only [jc, Bool.not_eq_true', decide_eq_false_iff_not] at hc
    have hw0 : w ≠ 0 := fun q => hc (by rw [q]; rfl)
    refine mj_T.pl rfl rfl rfl rfl ?_
    refine mj_T.if0 rfl ⟨by omega, by omega⟩ (fun hc2 => ?_) (fun hc2 => ?_)
    · simp only [jc, Bool.not_eq_true', decide_eq_false_iff_not] at hc2
      have hu0 : u ≠ 0 := fun q => hc2 (by rw [q]; rfl)
      iterate 2 refine mj_T.pl rfl rfl rfl rfl ?_
      refine mj_T.icmp rfl ⟨by omega, by omega⟩ ⟨by omega, by omega⟩ (fun hc3 => ?_) (fun hc3 => ?_)
      · simp only [jc, Bool.not_eq_true', decide_eq_false_iff_not] at hc3
        have hopp : (0 < u ∧ w < 0) ∨ (u < 0 ∧ 0 < w) := by
          rcases Int.lt_trichotomy u 0 with h1 | h1 | h1
          · rcases Int.lt_trichotomy w 0 with h2 | h2 | h2
            · exact absurd ((jsg_neg h1).trans (jsg_neg h2).symm) hc3
            · exact absurd h2 hw0
            · exact Or.inr ⟨h1, h2⟩
          · exact absurd h1 hu0
          · rcases Int.lt_trichotomy w 0 with h2 | h2 | h2
            · exact Or.inl ⟨h1, h2⟩
            · exact absurd h2 hw0
            · exact absurd ((jsg_pos h1).trans (jsg_pos h2).symm) hc3
        iterate 3 refine mj_T.pl rfl rfl rfl rfl ?_
        refine mj_T.call (ins := .invokevirtual 71) rfl rfl (Nat.le_of_ble_eq_true rfl) (Nat.le_of_ble_eq_true rfl) (by simp [mj_recv, jX_a C]) rfl (jq_cmp (D := D) C ha hb hu hv) (fun v' h' hq' => ?_) (fun i h' hq' => by cases hq')
        cases hq'
        have hcr := jcm_range u.natAbs v.natAbs
        refine mj_T.if0 rfl ⟨by omega, by omega⟩ (fun hc4 => ?_) (fun hc4 => ?_)
        · simp only [jc, decide_eq_true_eq] at hc4
          have hlt : u.natAbs < v.natAbs := Decidable.byContradiction fun q => by
            rcases Nat.lt_or_ge v.natAbs u.natAbs with q2 | q2
            · rw [jcm_gt q2] at hc4; omega
            · rw [jcm_eq (by omega)] at hc4; omega
          iterate 5 refine mj_T.pl rfl rfl rfl rfl ?_
          refine mj_T.call (ins := .invokevirtual 91) rfl rfl (Nat.le_of_ble_eq_true rfl) (Nat.le_of_ble_eq_true rfl) (by simp [mj_recv, jX_a C]) rfl (jq_takes (D := D + 1) C (sg := jsg w) hto hb ha hv hu (by omega)) (fun v' h' hq' => ?_) (fun i h' hq' => by obtain ⟨_, _, _, _, _, h⟩ := hq'; cases h)
          obtain ⟨bg', e1, e2, e3, e4, h⟩ := hq'
          cases h
          refine mj_T.ret rfl rfl rfl ⟨bg', jrs_of (by omega) e1 e2 e3 (fun h0 => ?_) (by rw [show v.natAbs - u.natAbs = (u + w).natAbs by omega]; omega), e4, rfl⟩
          rcases hopp with ⟨p1, p2⟩ | ⟨p1, p2⟩
          · rw [jsg_neg p2, jsg_neg (by omega)]
          · rw [jsg_pos p2, jsg_pos (by omega)]
        · simp only [jc, decide_eq_false_iff_not] at hc4
          have hge : v.natAbs ≤ u.natAbs := Decidable.byContradiction fun q => by
            rw [jcm_lt (show u.natAbs < v.natAbs by omega)] at hc4
            omega
          iterate 5 refine mj_T.pl rfl rfl rfl rfl ?_
          refine mj_T.call (ins := .invokevirtual 91) rfl rfl (Nat.le_of_ble_eq_true rfl) (Nat.le_of_ble_eq_true rfl) (by simp [mj_recv, jX_a C]) rfl (jq_takes (D := D + 1) C (sg := jsg u) hto ha hb hu hv hge) (fun v' h' hq' => ?_) (fun i h' hq' => by obtain ⟨_, _, _, _, _, h⟩ := hq'; cases h)
          obtain ⟨bg', e1, e2, e3, e4, h⟩ := hq'
          cases h
          refine mj_T.pl rfl rfl rfl rfl ?_
          refine mj_T.ret rfl rfl rfl ⟨bg', jrs_of (by omega) e1 e2 e3 (fun h0 => ?_) (by rw [show u.natAbs - v.natAbs = (u + w).natAbs by omega]; omega), e4, rfl⟩
          rcases hopp with ⟨p1, p2⟩ | ⟨p1, p2⟩
          · rw [jsg_pos p1, jsg_pos (by omega)]
          · rw [jsg_neg p1, jsg_neg (by omega)]
      · simp only [jc, Bool.not_eq_false', decide_eq_true_eq] at hc3
        have hsame : (0 < u ∧ 0 < w) ∨ (u < 0 ∧ w < 0) := by
          rcases Int.lt_trichotomy u 0 with h1 | h1 | h1
          · rcases Int.lt_trichotomy w 0 with h2 | h2 | h2
            · exact Or.inr ⟨h1, h2⟩
            · exact absurd h2 hw0
            · rw [jsg_neg h1, jsg_pos h2] at hc3; omega
          · exact absurd h1 hu0
          · rcases Int.lt_trichotomy w 0 with h2 | h2 | h2
            · rw [jsg_pos h1, jsg_neg h2] at hc3; omega
            · exact absurd h2 hw0
            · exact Or.inl ⟨h1, h2⟩
        have e : (u + w).natAbs = u.natAbs + v.natAbs := by omega
        rw [e] at hz
        have m1 : jnl u.natAbs ≤ 698 := Nat.le_trans (jnl_mono (Nat.le_add_right _ _)) hz
        have m2 : jnl v.natAbs ≤ 698 := Nat.le_trans (jnl_mono (Nat.le_add_left _ _)) hz
        iterate 5 refine mj_T.pl rfl rfl rfl rfl ?_
        refine mj_T.call (ins := .invokevirtual 87) rfl rfl (Nat.le_of_ble_eq_true rfl) (Nat.le_of_ble_eq_true rfl) (by simp [mj_recv, jX_a C]) rfl (jq_addsSizes (D := D + 1) C (sg := jsg u) hto ha hb hu hv m1 m2) (fun v' h' hq' => ?_) (fun i h' hq' => by obtain ⟨_, _, _, _, _, h⟩ := hq'; cases h)
        obtain ⟨bg', e1, e2, e3, e4, h⟩ := hq'
        cases h
        refine mj_T.pl rfl rfl rfl rfl ?_
        refine mj_T.ret rfl rfl rfl ⟨bg', jrs_of e e1 e2 e3 (fun h0 => ?_) (by omega), e4, rfl⟩
        rcases hsame with ⟨p1, p2⟩ | ⟨p1, p2⟩
        · rw [jsg_pos p1, jsg_pos (by omega)]
        · rw [jsg_neg p1, jsg_neg (by omega)]
    · simp only [jc, Bool.not_eq_false', decide_eq_true_eq] at hc2
      have hu0 : u = 0 := jsg_eq0 hc2
      subst hu0
      iterate 3 refine mj_T.pl rfl rfl rfl rfl ?_
      refine mj_T.call (ins := .invokevirtual 84) rfl rfl (Nat.le_of_ble_eq_true rfl) (Nat.le_of_ble_eq_true rfl) (by simp [mj_recv, jX_a C]) rfl (jq_copies (D := D + 1) C hto hb hv) (fun v' h' hq' => ?_) (fun i h' hq' => by obtain ⟨_, _, _, h⟩ := hq'; cases h)
      obtain ⟨bg1, e1, e2, h⟩ := hq'
      cases h
      iterate 4 (first | refine mj_T.gb C rfl ?_ | refine mj_T.pl rfl rfl rfl rfl ?_)
      refine mj_T.imul (b := 702) rfl ?_
      rw [show (to : Int) * 702 = ((to * 702 : Nat) : Int) by omega]
      refine mj_T.pl rfl rfl rfl rfl ?_
      refine mj_T.xst C rfl ⟨by omega, by omega⟩ ⟨by omega, by omega⟩ ?_
      refine mj_T.pl rfl rfl rfl rfl ?_
      rw [Int.zero_add]
      have e5 : w.natAbs = v.natAbs := hfa
      refine mj_T.ret rfl rfl rfl ⟨upd bg1 (to * 702) (jn (jsg w)), ⟨if_pos rfl, ?_, fun j hj => ?_, by rw [e5]; exact e1.2.2.2⟩, fun j hj => ?_, rfl⟩
      · rw [e5]
        exact (if_neg (by omega)).trans e1.2.1
      · rw [e5] at hj ⊢
        exact (if_neg (by omega)).trans (e1.2.2.1 j hj)
      · exact (if_neg (by omega)).trans (e2 j hj)
  · simp only [jc, Bool.not_eq_false', decide_eq_true_eq] at hc
    have hw0 : w = 0 := jsg_eq0 hc
    iterate 3 refine mj_T.pl rfl rfl rfl rfl ?_
    refine mj_T.call (ins := .invokevirtual 84) rfl rfl (Nat.le_of_ble_eq_true rfl) (Nat.le_of_ble_eq_true rfl) (by simp [mj_recv, jX_a C]) rfl (jq_copies (D := D + 1) C hto ha hu) (fun v' h' hq' => ?_) (fun i h' hq' => by obtain ⟨_, _, _, h⟩ := hq'; cases h)
    obtain ⟨bg1, e1, e2, h⟩ := hq'
    cases h
    refine mj_T.pl rfl rfl rfl rfl ?_
    refine mj_T.ret rfl rfl rfl ⟨bg1, ?_, e2, rfl⟩
    rw [hw0, Int.add_zero]
    exact e1
end JX4

