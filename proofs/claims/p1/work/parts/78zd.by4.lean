/-! The appends, at once. -/
theorem mq_isS_of {ρ : Nat → Nat} {w : mq_W} {i : Nat} (h : mq_isS w i = true) : mq_val ρ w = .int (mq_sx ρ i) := by
  rcases mq_Wd w with ⟨n, rfl⟩ | ⟨a, rfl⟩ | ⟨n, rfl⟩ | ⟨j, m, c, rfl⟩ | ⟨i, rfl⟩ | ⟨i, lo, l, rfl⟩ | ⟨x, rfl⟩ | ⟨x, rfl⟩ | rfl | rfl | rfl | rfl | rfl <;> first | cases h | skip
  have h : mq_and (Nat.beq j i) (mq_and (Nat.beq m 1) (Nat.beq c 0)) = true := h
  rw [mq_and_eq, mq_and_eq] at h
  obtain ⟨q1, q2, q3⟩ := h
  have q1 : j = i := Nat.beq_eq.mp q1
  have q2 : m = 1 := Nat.beq_eq.mp q2
  have q3 : c = 0 := Nat.beq_eq.mp q3
  subst q1 q2 q3
  show Value.int (jn (((ρ j : Int) - 2147483648) * ((1 : Nat) : Int) + ((0 : Nat) : Int))) = .int (jn ((ρ j : Int) - 2147483648))
  rw [show ((ρ j : Int) - 2147483648) * ((1 : Nat) : Int) + ((0 : Nat) : Int) = (ρ j : Int) - 2147483648 by omega]
theorem mq_five_of {ρ : Nat → Nat} {s : List mq_W} (h : mq_five s = true) : s.map (mq_val ρ) = [.int (mq_sx ρ 1), .int (mq_sx ρ 2), .int (mq_sx ρ 3), .int (mq_sx ρ 4), .int (mq_sx ρ 5)] := by
  match s, h with
  | [], h => cases h
  | [_], h => cases h
  | [_, _], h => cases h
  | [_, _, _], h => cases h
  | [_, _, _, _], h => cases h
  | [w1, w2, w3, w4, w5], h =>
    have h : mq_and (mq_isS w1 1) (mq_and (mq_isS w2 2) (mq_and (mq_isS w3 3) (mq_and (mq_isS w4 4) (mq_isS w5 5)))) = true := h
    rw [mq_and_eq, mq_and_eq, mq_and_eq, mq_and_eq] at h
    obtain ⟨h1, h2, h3, h4, h5⟩ := h
    simp only [List.map_cons, List.map_nil, mq_isS_of h1, mq_isS_of h2, mq_isS_of h3, mq_isS_of h4, mq_isS_of h5]
  | _ :: _ :: _ :: _ :: _ :: _ :: _, h => cases h
theorem mq_vI_kn {w : mq_W} {env : mq_V} {k : Nat → mq_V → Bool} (h : mq_vI w env k = true) : mq_kn w = true := by
  rcases mq_Wd w with ⟨n, rfl⟩ | ⟨a, rfl⟩ | ⟨n, rfl⟩ | ⟨j, m, c, rfl⟩ | ⟨i, rfl⟩ | ⟨i, lo, l, rfl⟩ | ⟨x, rfl⟩ | ⟨x, rfl⟩ | rfl | rfl | rfl | rfl | rfl <;> first | rfl | cases h
theorem mq_s10_val {ρ : Nat → Nat} {env : mq_V} (hs : mq_Sat ρ env) : mq_val ρ mq_s10 = .int (jn ((mq_nby (mq_sx ρ 1) + mq_nby (mq_sx ρ 2) + mq_nby (mq_sx ρ 3) + mq_nby (mq_sx ρ 4) + mq_nby (mq_sx ρ 5) : Nat) : Int)) := by
  show Value.int (jn (((ρ 10 : Int) - 2147483648) * ((1 : Nat) : Int) + ((0 : Nat) : Int))) = _
  have h := hs.vq.2.2.2.2.2.2.1
  rw [show ((ρ 10 : Int) - 2147483648) * ((1 : Nat) : Int) + ((0 : Nat) : Int) = ((mq_nby (mq_sx ρ 1) + mq_nby (mq_sx ρ 2) + mq_nby (mq_sx ρ 3) + mq_nby (mq_sx ρ 4) + mq_nby (mq_sx ρ 5) : Nat) : Int) by omega]
theorem mq_w141 : mq_okO 141 6 mq_o_app := by
  intro ρ as n t env kr kx h hl g hs hr
  obtain ⟨w, s, a, e, rfl, e1, S, g1⟩ := mq_pA_of g hs
  obtain ⟨q5, g2⟩ := mq_cond_of g1
  obtain ⟨ci, fa, fa', A, hA, -, fA, ha, g3⟩ := mq_cO_of g2 hr
  obtain ⟨tx, ea, f4, Sa, g4⟩ := mq_fA_kn g3 hs.nil
  obtain ⟨ct, ft, ft', B, hB, lB, fB, htx, g5⟩ := mq_cO_of g4 hr
  obtain ⟨ar, eb, t0, Sb, g6⟩ := mq_fA_kn g5 hs.nil
  have k1 := mq_vI_kn g6
  obtain ⟨p, e6, hp, S6, g7⟩ := mq_vI_of g6 S
  obtain ⟨ty, len, dep, d, f, C, hC, hCl, -, har, g8⟩ := mq_cA_of g7 hr
  obtain ⟨cc, g9⟩ := mq_cond_of g8
  rw [mq_and_eq, mq_and_eq, mq_and_eq, mq_and_eq, mq_and_eq] at cc
  obtain ⟨⟨⟨c1, c2⟩, c3, c4⟩, c5, c6⟩ := cc
  have c1 : ci = 9 := Nat.beq_eq.mp c1
  have c2 : ct = 7 := Nat.beq_eq.mp c2
  have c3 : mq_len ft = 2 := Nat.beq_eq.mp c3
  have c4 : p = 0 := Nat.beq_eq.mp c4
  have c5 : ty = 2 := Nat.beq_eq.mp c5
  have c6 : len = 200 := Nat.beq_eq.mp c6
  subst c1 c2 c4 c5 c6
  rw [mq_len_eq] at c3
  rw [mq_hk_eq, mq_hk_eq] at g9
  have n1 : a ≠ tx := fun q => by rw [q, B] at A; cases A
  have n2 : a ≠ ar := fun q => by rw [q, C] at A; cases A
  have n3 : tx ≠ ar := fun q => by rw [q, C] at B; cases B
  have eft : ft' = [.ref ar, .int (jn (0 : Nat))] := by
    have u0 := (fB 0 t0.1 t0.2.1).trans (congrArg some t0.2.2)
    have u1 := (fB 1 (mq_kn_lt k1) k1).trans (congrArg some hp)
    rw [c3] at lB
    match ft', lB, u0, u1 with
    | [y0, y1], _, u0, u1 =>
      cases u0
      cases u1
      rfl
  subst eft
  have hlt := (List.getElem?_eq_some_iff.mp hB).1
  have hla := (List.getElem?_eq_some_iff.mp hC).1
  have Ct : jtC h tx ar := ⟨n3, hlt, hla⟩
  have hh : jtP h tx ar 0 f = h := by
    show (h.set tx _).set ar _ = h
    rw [mq_set_same hB, mq_set_same hC]
  rw [List.map_cons, e1, mq_five_of q5]
  have c := jb_append (D := 5) (f := f) (x1 := mq_sx ρ 1) (x2 := mq_sx ρ 2) (x3 := mq_sx ρ 3) (x4 := mq_sx ρ 4) (x5 := mq_sx ρ 5) Ct hA ((fA 4 f4.1 f4.2.1).trans (congrArg some f4.2.2)) n1 n2
  rw [hh] at c
  refine c.to (fun r hq => ?_)
  obtain ⟨f', rfl⟩ := hq
  have hv := mq_s10_val S6
  rw [← hv]
  refine ⟨mq_s10, n, _, e6, rfl, ?_, S6, g9⟩
  generalize mq_nby (mq_sx ρ 1) + mq_nby (mq_sx ρ 2) + mq_nby (mq_sx ρ 3) + mq_nby (mq_sx ρ 4) + mq_nby (mq_sx ρ 5) = T at hv ⊢
  have R1 := hr.set (a := tx) (c := some (Sum.inr (Sum.inl (7, [Sum.inr (Sum.inl ar), mq_s10])))) (e := .inr (7, [.ref ar, .int (jn (T : Nat))])) htx hB (by rw [B]; trivial) trivial ⟨_, rfl, rfl, fun i hi hk => by
    match i, hi with
    | 0, _ => rfl
    | 1, _ => exact congrArg some hv.symm⟩ rfl
  exact R1.set (a := ar) (c := some (Sum.inl (2, (nat_lit 200), (nat_lit 10), Lean.RArray.leaf mq_U))) (e := .inl (2, 200, f')) (e0 := .inl (2, 200, f)) har (by rw [List.getElem?_set_ne n3]; exact hC) (by rw [mq_hg_set hr.wl _ htx har, if_neg (Ne.symm n3), C]; trivial) trivial ⟨f', rfl, ⟨mq_wl.leaf (by decide) _, by decide⟩, fun i hi hk => by rw [mq_get_l] at hk; cases hk⟩ rfl
theorem mq_w285 : mq_okO 285 6 mq_r_app := by
  intro ρ as n t env kr kx h hl g hs hr
  obtain ⟨w, s, a, e, rfl, e1, S, g1⟩ := mq_pA_of g hs
  obtain ⟨q5, g2⟩ := mq_cond_of g1
  obtain ⟨ci, fa, fa', A, hA, lA, fA, ha, g3⟩ := mq_cO_of g2 hr
  obtain ⟨ar, ea, f8, Sa, g6⟩ := mq_fA_kn g3 hs.nil
  have k1 := mq_vI_kn g6
  obtain ⟨p, e6, hp, S6, g7⟩ := mq_vI_of g6 S
  obtain ⟨ty, len, dep, d, f, C, hC, hCl, -, har, g8⟩ := mq_cA_of g7 hr
  obtain ⟨cc, g9⟩ := mq_cond_of g8
  rw [mq_and_eq, mq_and_eq, mq_and_eq, mq_and_eq] at cc
  obtain ⟨⟨c1, c2⟩, c3, c4, c5⟩ := cc
  have c1 : ci = 10 := Nat.beq_eq.mp c1
  have c2 : p = 0 := Nat.beq_eq.mp c2
  have c3 : ty = 0 := Nat.beq_eq.mp c3
  have c4 : 20 ≤ len := Nat.ble_eq.mp c4
  have c5 : len ≤ 1000000 := Nat.ble_eq.mp c5
  subst c1 c2 c3
  rw [mq_hk_eq, mq_hk_eq] at g9
  have n2 : a ≠ ar := fun q => by rw [q, C] at A; cases A
  have l9 := mq_kn_lt k1
  rw [List.map_cons, e1, mq_five_of q5]
  have c := jq_append (D := 6) (x1 := mq_sx ρ 1) (x2 := mq_sx ρ 2) (x3 := mq_sx ρ 3) (x4 := mq_sx ρ 4) (x5 := mq_sx ρ 5) hA ((fA 8 f8.1 f8.2.1).trans (congrArg some f8.2.2)) ((fA 9 l9 k1).trans (congrArg some hp)) hC c4 c5 n2
  rw [jcn_20] at c
  refine c.to (fun r hq => ?_)
  obtain ⟨f', rfl⟩ := hq
  have hv := mq_s10_val S6
  rw [← hv]
  refine ⟨mq_s10, n, _, e6, rfl, ?_, S6, g9⟩
  generalize mq_nby (mq_sx ρ 1) + mq_nby (mq_sx ρ 2) + mq_nby (mq_sx ρ 3) + mq_nby (mq_sx ρ 4) + mq_nby (mq_sx ρ 5) = T at hv ⊢
  have R1 := hr.set (a := a) (c := some (Sum.inr (Sum.inl (10, mq_nup mq_U (mq_nup mq_U fa 3 (Sum.inl 0)) 9 mq_s10)))) (e := .inr (10, (fa'.set 3 (.int (jn (0 : Nat)))).set 9 (.int (jn (T : Nat))))) ha hA (by rw [A]; trivial) trivial ⟨_, rfl, ?_, fun i hi hk => ?_⟩ (by simp [mj_slot])
  · exact R1.set (a := ar) (c := some (Sum.inl (0, len, (nat_lit 20), Lean.RArray.leaf mq_U))) (e := .inl (0, len, f')) (e0 := .inl (0, len, f)) har (by rw [List.getElem?_set_ne n2]; exact hC) (by rw [mq_hg_set hr.wl _ ha har, if_neg (Ne.symm n2), C]; trivial) trivial ⟨f', rfl, ⟨mq_wl.leaf (Nat.le_trans c5 (by decide)) _, c5⟩, fun i hi hk => by rw [mq_get_l] at hk; cases hk⟩ rfl
  · rw [List.length_set, List.length_set, mq_nup_len _ _ _ _ (by rw [mq_nup_len _ _ _ _ (by omega)]; exact l9), mq_nup_len _ _ _ _ (by omega)]
    exact lA
  · rw [mq_nup_len _ _ _ _ (by rw [mq_nup_len _ _ _ _ (by omega)]; exact l9), mq_nup_len _ _ _ _ (by omega)] at hi
    rw [mq_nth_nup] at hk ⊢
    by_cases i9 : i = 9
    · subst i9
      rw [if_pos rfl, List.getElem?_set_self (by rw [List.length_set]; omega)]
      exact congrArg some hv.symm
    · rw [if_neg i9] at hk ⊢
      rw [List.getElem?_set_ne (Ne.symm i9)]
      rw [mq_nth_nup] at hk ⊢
      by_cases i3 : i = 3
      · subst i3
        rw [if_pos rfl, List.getElem?_set_self (by omega)]
        rfl
      · rw [if_neg i3] at hk ⊢
        rw [List.getElem?_set_ne (Ne.symm i3)]
        exact fA i hi hk
