/-! Numbers that are made, their size, their digits: at once. -/
theorem mq_w85 : mq_okO 85 2 mq_o_init := by
  intro ρ as n t env kr kx h hl g hs hr
  obtain ⟨w, s, a, e, rfl, e1, S, g1⟩ := mq_pA_of g hs
  obtain ⟨w2, s2, m, e2, rfl, e3, S2, g2⟩ := mq_pI_of g1 S
  have hs2 : s2 = [] := mq_len1 (by simpa using hl)
  subst hs2
  obtain ⟨ci, fs, fs', h1, h2, h3, h4, h5, g3⟩ := mq_cO_of g2 hr
  obtain ⟨q, g4⟩ := mq_cond_of g3
  rw [mq_and_eq, mq_and_eq, mq_and_eq, mq_and_eq, mq_and_eq, mq_and_eq] at q
  obtain ⟨⟨q1, q2, q3, q4⟩, q5, q6, q7⟩ := q
  have q1 : ci = 8 := Nat.beq_eq.mp q1
  have q2 : fs.length = 3 := by rw [← mq_len_eq]; exact Nat.beq_eq.mp q2
  have q5 : n ≤ 1000 := Nat.ble_eq.mp q5
  have q6 : 1 ≤ m := Nat.ble_eq.mp q6
  have q7 : m ≤ 700 := Nat.ble_eq.mp q7
  subst q1
  rw [mq_hk_eq, mq_hk_eq] at g4
  obtain ⟨z1, z2⟩ := mq_is0_of (ρ := ρ) q3
  obtain ⟨z3, z4⟩ := mq_is0_of (ρ := ρ) q4
  have f1 := h4 1 (by omega) z1
  have f2 := h4 2 (by omega) z3
  rw [z2] at f1
  rw [z4] at f2
  obtain ⟨x0, rfl⟩ : ∃ x0, fs' = [x0, .int 0, .int 0] := by
    match fs', h3, f1, f2 with
    | [x0, x1, x2], _, f1, f2 =>
      have f1 : some x1 = some (Value.int 0) := f1
      have f2 : some x2 = some (Value.int 0) := f2
      injection f1 with f1
      injection f2 with f2
      exact ⟨x0, by rw [f1, f2]⟩
    | [], h3, _, _ => simp at h3; omega
    | [_], h3, _, _ => simp at h3; omega
    | [_, _], h3, _, _ => simp at h3; omega
    | _ :: _ :: _ :: _ :: _, h3, _, _ => simp at h3; omega
  have hla := (List.getElem?_eq_some_iff.mp h2).1
  have hlen := hr.len
  rw [List.map_cons, List.map_cons, List.map_nil, e1, e3]
  refine (mj_Ok.of (D := 0) (M := mj_m85) rfl rfl rfl ?_).up (by omega)
  refine mj_T.pl rfl rfl rfl rfl ?_
  refine mj_T.prim (st' := []) (h' := h) rfl rfl rfl ?_
  iterate 2 refine mj_T.pl rfl rfl rfl rfl ?_
  refine mj_T.if0 rfl ⟨by omega, by omega⟩ (fun hc => ?_) (fun hc => ?_)
  · simp only [jc, decide_eq_true_eq] at hc; omega
  clear hc
  iterate 2 refine mj_T.pl rfl rfl rfl rfl ?_
  refine mq_newrow rfl q7 ?_
  refine mj_T.step (loc' := mj_loc0 2 [.ref a, .int (jn m)]) (st' := []) (h' := (h ++ [mq_lc m]).set a (.inr (8, [.ref h.length, .int 0, .int 0]))) (pc' := 19) rfl rfl ?_ ?_
  · simp only [mj_step]
    rw [List.getElem?_append_left hla, h2]
    rfl
  refine mj_T.ret rfl rfl rfl ⟨mq_U, n + 1, _, e2, rfl, ?_, S2, g4⟩
  refine hr.make (v := Sum.inl (0, 0)) h5 h2 (by rw [h1]; trivial) (by omega) rfl q7 (Or.inl rfl) ?_
  refine ⟨0, fun _ => rfl, ?_, ⟨fun _ => 0, ?_, fun j hj => ?_⟩, ?_, q7, Or.inl rfl⟩
  · rw [hlen]
    show (Sum.inr (8, [Value.ref n, Value.int 0, Value.int 0]) : mj_E) = _
    rw [show jnl (0 : Int).natAbs = 0 from jnl_zero]
    rfl
  · rw [List.getElem?_set_ne (by omega), List.getElem?_append_right (by omega), hlen]
    simp
  · rw [show jnl (0 : Int).natAbs = 0 from jnl_zero] at hj
    omega
  · rw [show jnl (0 : Int).natAbs = 0 from jnl_zero]
    omega
theorem mq_w29 : mq_okO 29 2 mq_o_dinit := by
  intro ρ as n t env kr kx h hl g hs hr
  obtain ⟨w, s, a, e, rfl, e1, S, g1⟩ := mq_pA_of g hs
  obtain ⟨w2, s2, m, e2, rfl, e3, S2, g2⟩ := mq_pI_of g1 S
  have hs2 : s2 = [] := mq_len1 (by simpa using hl)
  subst hs2
  obtain ⟨ci, fs, fs', h1, h2, h3, h4, h5, g3⟩ := mq_cO_of g2 hr
  obtain ⟨q, g4⟩ := mq_cond_of g3
  rw [mq_and_eq, mq_and_eq, mq_and_eq, mq_and_eq, mq_and_eq, mq_and_eq] at q
  obtain ⟨⟨q1, q2, q3, q4⟩, q5, q6, q7⟩ := q
  have q1 : ci = 2 := Nat.beq_eq.mp q1
  have q2 : fs.length = 4 := by rw [← mq_len_eq]; exact Nat.beq_eq.mp q2
  have q5 : n ≤ 1000 := Nat.ble_eq.mp q5
  have q6 : 1 ≤ m := Nat.ble_eq.mp q6
  have q7 : m ≤ 700 := Nat.ble_eq.mp q7
  subst q1
  rw [mq_hk_eq, mq_hk_eq] at g4
  obtain ⟨z1, z2⟩ := mq_is0_of (ρ := ρ) q3
  obtain ⟨z3, z4⟩ := mq_is0_of (ρ := ρ) q4
  have f1 := h4 1 (by omega) z1
  have f2 := h4 2 (by omega) z3
  rw [z2] at f1
  rw [z4] at f2
  obtain ⟨x0, x3, rfl⟩ : ∃ x0 x3, fs' = [x0, .int 0, .int 0, x3] := by
    match fs', h3, f1, f2 with
    | [x0, x1, x2, x3], _, f1, f2 =>
      have f1 : some x1 = some (Value.int 0) := f1
      have f2 : some x2 = some (Value.int 0) := f2
      injection f1 with f1
      injection f2 with f2
      exact ⟨x0, x3, by rw [f1, f2]⟩
    | [], h3, _, _ => simp at h3; omega
    | [_], h3, _, _ => simp at h3; omega
    | [_, _], h3, _, _ => simp at h3; omega
    | [_, _, _], h3, _, _ => simp at h3; omega
    | _ :: _ :: _ :: _ :: _ :: _, h3, _, _ => simp at h3; omega
  have hla := (List.getElem?_eq_some_iff.mp h2).1
  have hlen := hr.len
  rw [List.map_cons, List.map_cons, List.map_nil, e1, e3]
  refine (mj_Ok.of (D := 0) (M := mj_m29) rfl rfl rfl ?_).up (by omega)
  refine mj_T.pl rfl rfl rfl rfl ?_
  refine mj_T.prim (st' := []) (h' := h) rfl rfl rfl ?_
  iterate 2 refine mj_T.pl rfl rfl rfl rfl ?_
  refine mj_T.step (loc' := mj_loc0 2 [.ref a, .int (jn m)]) (st' := []) (h' := h.set a (.inr (2, [x0, .int 0, .int 0, .long 1]))) (pc' := 9) rfl rfl ?_ ?_
  · simp only [mj_step, h2]
    rfl
  iterate 2 refine mj_T.pl rfl rfl rfl rfl ?_
  refine mj_T.if0 rfl ⟨by omega, by omega⟩ (fun hc => ?_) (fun hc => ?_)
  · simp only [jc, decide_eq_true_eq] at hc; omega
  clear hc
  iterate 2 refine mj_T.pl rfl rfl rfl rfl ?_
  refine mq_newrow rfl q7 ?_
  have e9 : ((h.set a (.inr (2, [x0, .int 0, .int 0, .long 1])) ++ [mq_lc m]).set a (.inr (2, [.ref h.length, .int 0, .int 0, .long 1]))) = (h ++ [mq_lc m]).set a (.inr (2, [.ref h.length, .int 0, .int 0, .long 1])) := by
    rw [← List.set_append_left _ _ hla, List.set_set]
  refine mj_T.step (loc' := mj_loc0 2 [.ref a, .int (jn m)]) (st' := []) (h' := (h ++ [mq_lc m]).set a (.inr (2, [.ref h.length, .int 0, .int 0, .long 1]))) (pc' := 24) rfl rfl ?_ ?_
  · rw [← e9]
    simp only [mj_step]
    rw [List.getElem?_append_left (by rw [List.length_set]; exact hla), List.getElem?_set_self hla, List.length_set]
    rfl
  refine mj_T.ret rfl rfl rfl ⟨mq_U, n + 1, _, e2, rfl, ?_, S2, g4⟩
  refine hr.make (v := Sum.inl (0, 0)) h5 h2 (by rw [h1]; trivial) (by omega) rfl q7 (Or.inr rfl) ?_
  have ez : (mq_nv ρ (Sum.inl (0, 0))) = 0 := rfl
  have ej : jnl (0 : Int).natAbs = 0 := jnl_zero
  refine ⟨?_, ⟨fun _ => 0, ?_, fun j hj => ?_⟩, ?_, q7, Or.inl rfl⟩
  · rw [hlen, ez, ej, show jfa (0 : Int).natAbs = 1 from rfl]
    rfl
  · rw [List.getElem?_set_ne (by omega), List.getElem?_append_right (by omega), hlen]
    simp
  · rw [ez, ej] at hj
    omega
  · rw [ez, ej]
    omega
/-- one limb, or none -/
theorem mq_small {v : Int} (h : v.natAbs ≤ 9) : (v.natAbs = 0 ∧ jnl v.natAbs = 0) ∨ (v.natAbs ≠ 0 ∧ jnl v.natAbs = 1 ∧ jlb v.natAbs 0 = v.natAbs) := by
  by_cases h0 : v.natAbs = 0
  · exact Or.inl ⟨h0, by rw [h0, jnl_zero]⟩
  · refine Or.inr ⟨h0, ?_, ?_⟩
    · rw [jnl_pos h0, Nat.div_eq_of_lt (by show v.natAbs < 1000000000; omega), jnl_zero]
    · unfold jlb
      rw [Nat.pow_zero, Nat.div_one]
      exact Nat.mod_eq_of_lt (by show v.natAbs < 1000000000; omega)
theorem jw_limb1 {D a b len : Nat} {v : Int} {h : mj_H} {g : Nat → Int32} (h2 : h[a]? = some (.inr (8, [.ref b, .int (jn (jnl v.natAbs)), .int (jn (jsg v))]))) (h3 : h[b]? = some (.inl (0, len, fun j => .int (g j)))) (h4 : mq_lbs v.natAbs g) (h5 : jnl v.natAbs ≤ len) (h6 : len ≤ 700) (i : Int) (hi : i = 0 ∨ i = -1) (hv : v.natAbs ≤ 9) (hv0 : i = -1 → v.natAbs = 0) : mj_Ok (D + 1) 89 [.ref a, .int (jn i)] h (fun r => r = (.inl (some (.int (jn (v.natAbs : Nat)))), h)) := by
  refine mj_Ok.of (M := mj_m89) rfl rfl rfl ?_
  have fin : v.natAbs = 0 → mj_T D mj_m89 30 [some (.ref a), some (.int (jn i))] [] h (fun r => r = (.inl (some (.int (jn (v.natAbs : Nat)))), h)) := fun h0 => by
    refine mj_T.pl rfl rfl rfl rfl ?_
    refine mj_T.ret rfl rfl rfl ?_
    rw [h0]
    rfl
  refine mj_T.pl rfl rfl rfl rfl ?_
  refine mj_T.if0 rfl ⟨by omega, by omega⟩ (fun hc => ?_) (fun hc => ?_)
  · simp only [jc, decide_eq_true_eq] at hc
    exact fin (hv0 (by omega))
  simp only [jc, decide_eq_false_iff_not] at hc
  have hi0 : i = 0 := by omega
  subst hi0
  iterate 2 refine mj_T.pl rfl rfl rfl rfl ?_
  refine mj_T.gfl rfl h2 rfl ?_
  have hj : jnl v.natAbs ≤ 1 := by rcases mq_small hv with ⟨_, q⟩ | ⟨_, q, _⟩ <;> omega
  refine mj_T.icmp rfl ⟨by omega, by omega⟩ ⟨by omega, by omega⟩ (fun hc2 => ?_) (fun hc2 => ?_)
  · simp only [jc, decide_eq_true_eq] at hc2
    exact fin (by rcases mq_small hv with ⟨q, _⟩ | ⟨_, q, _⟩ <;> omega)
  simp only [jc, decide_eq_false_iff_not] at hc2
  rcases mq_small hv with ⟨_, q⟩ | ⟨_, q, q2⟩
  · omega
  iterate 2 refine mj_T.pl rfl rfl rfl rfl ?_
  refine mj_T.gfl rfl h2 rfl ?_
  refine mj_T.alen rfl h3 ?_
  refine mj_T.icmp rfl ⟨by omega, by omega⟩ ⟨by omega, by omega⟩ (fun hc3 => ?_) (fun hc3 => ?_)
  · simp only [jc, decide_eq_true_eq] at hc3; omega
  refine mj_T.pl rfl rfl rfl rfl ?_
  refine mj_T.gfl rfl h2 rfl ?_
  refine mj_T.pl rfl rfl rfl rfl ?_
  refine mj_T.ialv rfl h3 ⟨by omega, by omega⟩ ⟨by omega, by omega⟩ (h4 0 (by omega)) ?_
  refine mj_T.pl rfl rfl rfl rfl ?_
  refine mj_T.ret rfl rfl rfl ?_
  rw [q2]
theorem mq_w98 : mq_okO 98 1 mq_o_digits := by
  intro ρ as n t env kr kx h hl g hs hr
  obtain ⟨w, s, a, e, rfl, e1, S, g1⟩ := mq_pA_of g hs
  have hs2 : s = [] := mq_len1 (by simpa using hl)
  subst hs2
  obtain ⟨b, len, v, gg, h1, h2, h3, h4, h5, h6, h7, h8, h9, h10, h11, g2⟩ := mq_cW_of g1 hr
  obtain ⟨p, m, rfl, g3⟩ := mq_nZ_of g2
  obtain ⟨q, g4⟩ := mq_cond_of g3
  have q : p + m ≤ 9 := Nat.ble_eq.mp q
  have ea := mq_nv_abs (ρ := ρ) h7
  have hv : (mq_nv ρ (Sum.inl (p, m))).natAbs ≤ 9 := by omega
  clear ea
  generalize mq_nv ρ (Sum.inl (p, m)) = v at *
  have fin : mq_Po ρ kr kx (.inl (some (.int (jn 1))), h) := ⟨_, n, _, e, rfl, hr, S, g4⟩
  rw [List.map_cons, List.map_nil, e1]
  refine (mj_Ok.of (D := 1) (M := mj_m98) rfl rfl rfl ?_).up (by omega)
  refine mj_T.pl rfl rfl rfl rfl ?_
  refine mj_T.gfl rfl h2 rfl ?_
  have hj : jnl v.natAbs ≤ 1 := by rcases mq_small hv with ⟨_, q⟩ | ⟨_, q, _⟩ <;> omega
  -- behind the count
  have k20 : ∀ c : Int, c = 1 - (jnl v.natAbs : Nat) → mj_T 1 mj_m98 20 [some (.ref a), none, none, none] [.int (jn c)] h (mq_Po ρ kr kx) := by
    intro c hc
    iterate 3 refine mj_T.pl rfl rfl rfl rfl ?_
    refine mj_T.gfl rfl h2 rfl ?_
    refine mj_T.pl rfl rfl rfl rfl ?_
    refine mj_T.isub (b := 1) rfl ?_
    refine mj_T.call (ins := .invokevirtual 51) rfl rfl (Nat.le_of_ble_eq_true rfl) (Nat.le_of_ble_eq_true rfl) (by simp [mj_recv, h2]) rfl (jw_limb1 (D := 0) h2 h3 h4 h5 h6 ((jnl v.natAbs : Nat) - 1 : Int) (by omega) hv (fun q => by rcases mq_small hv with ⟨q1, _⟩ | ⟨_, q1, _⟩ <;> omega)) (fun v' h' hq' => ?_) (fun i h' hq' => by cases hq')
    cases hq'
    iterate 5 refine mj_T.pl rfl rfl rfl rfl ?_
    refine mj_T.icmp (a := 0) (b := 9) rfl ⟨by omega, by omega⟩ ⟨by omega, by omega⟩ (fun hc2 => ?_) (fun hc2 => ?_)
    · simp only [jc, decide_eq_true_eq] at hc2; omega
    refine mj_T.pl rfl rfl rfl rfl ?_
    refine mj_T.if0 rfl ⟨by omega, by omega⟩ (fun hc3 => ?_) (fun hc3 => ?_)
    · simp only [jc, decide_eq_true_eq] at hc3
      refine mj_T.pl rfl rfl rfl rfl ?_
      refine mj_T.ret rfl rfl rfl ?_
      rw [show c = 1 by rcases mq_small hv with ⟨_, q1⟩ | ⟨q0, q1, _⟩ <;> omega]
      exact fin
    simp only [jc, decide_eq_false_iff_not] at hc3
    iterate 2 refine mj_T.pl rfl rfl rfl rfl ?_
    refine mj_T.idiv (b := 10) rfl ⟨by omega, by omega⟩ ⟨by omega, by omega⟩ (by omega) ?_
    rw [show ((v.natAbs : Nat) : Int).tdiv 10 = 0 from by
      show ((v.natAbs / 10 : Nat) : Int) = 0
      omega]
    refine mj_T.pl rfl rfl rfl rfl ?_
    refine mj_T.iinc (a := c) rfl rfl ?_
    refine mj_T.iinc (a := 0) rfl rfl ?_
    iterate 3 refine mj_T.pl rfl rfl rfl rfl ?_
    refine mj_T.icmp (b := 9) rfl ⟨by omega, by omega⟩ ⟨by omega, by omega⟩ (fun hc4 => ?_) (fun hc4 => ?_)
    · simp only [jc, decide_eq_true_eq] at hc4; omega
    refine mj_T.pl rfl rfl rfl rfl ?_
    refine mj_T.if0 (a := 0) rfl ⟨by omega, by omega⟩ (fun hc5 => ?_) (fun hc5 => ?_)
    · refine mj_T.pl rfl rfl rfl rfl ?_
      refine mj_T.ret rfl rfl rfl ?_
      rw [show c + 1 = 1 by rcases mq_small hv with ⟨q0, q1⟩ | ⟨q0, q1, _⟩ <;> omega]
      exact fin
    · exact absurd hc5 (by decide)
  refine mj_T.if0 rfl ⟨by omega, by omega⟩ (fun hc => ?_) (fun hc => ?_)
  · simp only [jc, Bool.not_eq_true', decide_eq_false_iff_not] at hc
    refine mj_T.pl rfl rfl rfl rfl ?_
    refine mj_T.gfl rfl h2 rfl ?_
    refine mj_T.pl rfl rfl rfl rfl ?_
    refine mj_T.isub (b := 1) rfl ?_
    refine mj_T.pl rfl rfl rfl rfl ?_
    refine mj_T.imul (b := 9) rfl ?_
    rw [show (((jnl v.natAbs : Nat) : Int) - 1) * 9 = 0 by omega]
    exact k20 0 (by omega)
  · simp only [jc, Bool.not_eq_false', decide_eq_true_eq] at hc
    iterate 2 refine mj_T.pl rfl rfl rfl rfl ?_
    exact k20 1 (by omega)
theorem mq_w99 : mq_okO 99 2 mq_o_digit := by
  intro ρ as n t env kr kx h hl g hs hr
  obtain ⟨w, s, a, e, rfl, e1, S, g1⟩ := mq_pA_of g hs
  obtain ⟨w2, s2, i, e2, rfl, e3, S2, g1'⟩ := mq_pI_of g1 S
  have hs2 : s2 = [] := mq_len1 (by simpa using hl)
  subst hs2
  obtain ⟨b, len, v, gg, h1, h2, h3, h4, h5, h6, h7, h8, h9, h10, h11, g2⟩ := mq_cW_of g1' hr
  obtain ⟨p, m, rfl, g3⟩ := mq_nZ_of g2
  obtain ⟨q, g4⟩ := mq_cond_of g3
  rw [mq_and_eq] at q
  have q0 : i = 0 := Nat.beq_eq.mp q.1
  have q : p + m ≤ 9 := Nat.ble_eq.mp q.2
  subst q0
  have ea := mq_nv_abs (ρ := ρ) h7
  have hv : (mq_nv ρ (Sum.inl (p, m))).natAbs ≤ 9 := by omega
  have fin : mq_Po ρ kr kx (.inl (some (.int (jn ((mq_nv ρ (Sum.inl (p, m))).natAbs : Nat)))), h) := ⟨_, n, _, e2, by rw [ea]; rfl, hr, S2, g4⟩
  clear ea
  generalize mq_nv ρ (Sum.inl (p, m)) = v at *
  rw [List.map_cons, List.map_cons, List.map_nil, e1, e3]
  refine (mj_Ok.of (D := 1) (M := mj_m99) rfl rfl rfl ?_).up (by omega)
  iterate 3 refine mj_T.pl rfl rfl rfl rfl ?_
  refine mj_T.idiv (a := 0) (b := 9) rfl ⟨by omega, by omega⟩ ⟨by omega, by omega⟩ (by omega) ?_
  refine mj_T.call (ins := .invokevirtual 51) rfl rfl (Nat.le_of_ble_eq_true rfl) (Nat.le_of_ble_eq_true rfl) (by simp [mj_recv, h2]) rfl (jw_limb1 (D := 0) h2 h3 h4 h5 h6 ((0 : Int).tdiv 9) (Or.inl rfl) hv (fun q => by cases q)) (fun v' h' hq' => ?_) (fun i h' hq' => by cases hq')
  cases hq'
  iterate 3 refine mj_T.pl rfl rfl rfl rfl ?_
  refine mj_T.irem (a := 0) (b := 9) rfl ⟨by omega, by omega⟩ ⟨by omega, by omega⟩ (by omega) ?_
  iterate 2 refine mj_T.pl rfl rfl rfl rfl ?_
  refine mj_T.if0 (a := (0 : Int).tmod 9) rfl ⟨by decide, by decide⟩ (fun hc => ?_) (fun hc => ?_)
  · iterate 2 refine mj_T.pl rfl rfl rfl rfl ?_
    refine mj_T.irem (b := 10) rfl ⟨by omega, by omega⟩ ⟨by omega, by omega⟩ (by omega) ?_
    rw [show ((v.natAbs : Nat) : Int).tmod 10 = (v.natAbs : Nat) from by
      show ((v.natAbs % 10 : Nat) : Int) = (v.natAbs : Nat)
      omega]
    exact mj_T.ret rfl rfl rfl fin
  · exact absurd hc (by decide)
