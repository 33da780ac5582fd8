/-! Answers of undo and clearPoints, both sides. -/
section RPZV
variable {h : mj_H} {tm er : Int} {T : Nat → Int} {N0 : Nat → Int} {u0 : Nat} {H : Nat → Nat → Int}
theorem rx_clearPointsX (hI : jIx N0 u0 H tm er T h) : mj_Ok 40 247 [.ref 0] h (fun r => r.1 = .inl (some (.int (jn (N0 78)))) ∧ rZ (Q_clearPoints N0 u0 H) tm er T r) := by
  refine mj_Ok.of (M := mj_m247) rfl rfl rfl ?_
  obtain ⟨S, N, B, X, V, hs, K⟩ := hI
  iterate 2 refine mj_T.pl rfl rfl rfl rfl ?_
  refine rT_put (v := 0) hs rfl rfl (by decide) rfl (fun g13 hs13 => ?_)
  have K13 := K.put (k := 3) (v := 0) ⟨by decide, by decide⟩ (by decide) (by decide) (by decide) (by decide) (by decide)
  generalize jvu S 3 0 = S13 at hs13 K13
  refine mj_T.pl rfl rfl rfl rfl ?_
  refine mj_T.call (ins := .invokevirtual 201) rfl rfl (Nat.le_of_ble_eq_true rfl) (Nat.le_of_ble_eq_true rfl) (by simp [mj_recv, rS_f hs13]) rfl (mj_Ok.up (by decide) (rx_keeps (D := 0) K13 hs13)) (fun v' g14 hq' => ?_) (fun i h' hq' => by obtain ⟨_, _, _, _, _, _, h⟩ := hq'; cases h)
  obtain ⟨S14, B14, _, hs14, K14, _, hq'⟩ := hq'
  cases hq'
  refine mj_T.pl rfl rfl rfl rfl ?_
  refine rT_get hs14 rfl rfl ?_
  refine mj_T.pl rfl rfl rfl rfl ?_
  refine rT_ldN (i := ((78 : Nat) : Int)) hs14 rfl ⟨by decide, by decide⟩ ?_
  rw [Int.toNat_natCast]
  refine mj_T.l2i rfl ?_
  iterate 2 refine mj_T.pl rfl rfl rfl rfl ?_
  refine rT_get hs14 rfl rfl ?_
  iterate 2 refine mj_T.pl rfl rfl rfl rfl ?_
  refine rT_stN (i := ((78 : Nat) : Int)) (z := 0) hs14 rfl ⟨by decide, by decide⟩ (fun g15 hs15 => ?_)
  rw [Int.toNat_natCast] at hs15
  have hg := K14.1.1
  obtain ⟨q1, q2, q3, q4⟩ := hg
  have K15 := K14.row (N' := jvu N 78 0) ⟨fun j hj => by rw [jvu_ne _ _ _ (by omega)]; exact q1 j hj, by rw [jvu_at]; decide, fun k hk => by rw [jvu_ne _ _ _ (by omega), jvu_ne _ _ _ (by omega)]; exact q3 k hk, fun i j hij hj => by rw [jvu_at] at hj; omega⟩ (N1 := jvu N0 78 0) (fun j hj => by
    unfold jvu
    split
    · rfl
    · exact K14.2.1 j hj)
  refine mj_T.pl rfl rfl rfl rfl ?_
  exact mj_T.ret rfl rfl rfl ⟨congrArg (fun z : Int => (Sum.inl (some (Value.int (jn z))) : Option Value ⊕ Nat)) (K14.2.1 78 (by decide)), jvu N0 78 0, upu u0, pushH N0 H, Or.inl ⟨trivial, eqB.rf _, rfl, rfl⟩, ⟨S14, _, B14, X, V, hs15, K15⟩⟩
theorem rx_undoX (hI : jIx N0 u0 H tm er T h) : mj_Ok 40 252 [.ref 0] h (fun r => r.1 = .inl (some (.int (jn ((u0 : Int) - 1)))) ∧ rZ (undQ N0 u0 H) tm er T r) := by
  refine mj_Ok.of (M := mj_m252) rfl rfl rfl ?_
  obtain ⟨S, N, B, X, V, hs, K⟩ := hI
  iterate 2 refine mj_T.pl rfl rfl rfl rfl ?_
  refine rT_put (v := 0) hs rfl rfl (by decide) rfl (fun g16 hs16 => ?_)
  have K16 := K.put (k := 3) (v := 0) ⟨by decide, by decide⟩ (by decide) (by decide) (by decide) (by decide) (by decide)
  generalize jvu S 3 0 = S16 at hs16 K16
  obtain ⟨⟨k1, k2, k3, k4, k5, k6, k7, k8, k9⟩, kn, ku, kh⟩ := K16
  refine mj_T.pl rfl rfl rfl rfl ?_
  refine rT_get hs16 rfl rfl ?_
  refine mj_T.if0 (a := S16 2) rfl ⟨by omega, by omega⟩ (fun hc => ?_) (fun hc => ?_)
  rotate_left
  · refine mj_T.pl rfl rfl rfl rfl ?_
    simp only [jc, Bool.not_eq_false', decide_eq_true_eq] at hc
    exact mj_T.ret rfl rfl rfl (⟨congrArg (fun z : Int => (Sum.inl (some (Value.int (jn z))) : Option Value ⊕ Nat)) (show (-1 : Int) = (u0 : Int) - 1 by omega), N0, u0, H, Or.inl ⟨by omega, rfl, rfl, rfl⟩, ⟨_, _, _, _, _, hs16, ⟨⟨k1, k2, k3, k4, k5, k6, k7, k8, k9⟩, kn, ku, kh⟩⟩⟩)
  simp only [jc, Bool.not_eq_true', decide_eq_false_iff_not] at hc
  obtain ⟨c, hc2⟩ : ∃ c : Nat, S16 2 = ((c + 1 : Nat) : Int) := ⟨(S16 2).toNat - 1, by omega⟩
  iterate 2 refine mj_T.pl rfl rfl rfl rfl ?_
  refine rT_get hs16 rfl rfl ?_
  refine mj_T.pl rfl rfl rfl rfl ?_
  refine mj_T.isub (a := S16 2) (b := 1) rfl ?_
  rw [hc2, show ((c + 1 : Nat) : Int) - 1 = (c : Int) by omega]
  refine rT_put (v := (c : Int)) hs16 rfl rfl (by decide) rfl (fun g17 hs17 => ?_)
  have e : ∀ x, x ≠ 2 → jvu S16 2 (c : Int) x = S16 x := fun x hx => jvu_ne _ _ _ hx
  have e2 : jvu S16 2 (c : Int) 2 = (c : Int) := jvu_at _ _ _
  generalize jvu S16 2 (c : Int) = S17 at hs17 e e2
  refine mj_T.pl rfl rfl rfl rfl ?_
  refine rT_get hs17 rfl rfl ?_
  refine mj_T.pl rfl rfl rfl rfl ?_
  refine rT_get (v := .int (jn (c : Int))) hs17 rfl (by rw [← e2]; rfl) ?_
  refine mj_T.pl rfl rfl rfl rfl ?_
  refine mj_T.imul (a := (c : Int)) (b := 91) rfl ?_
  rw [show (c : Int) * 91 = ((c * 91 : Nat) : Int) by omega]
  refine mj_T.pl rfl rfl rfl rfl ?_
  refine rT_get hs17 rfl rfl ?_
  iterate 2 refine mj_T.pl rfl rfl rfl rfl ?_
  refine rT_cpy (s := c * 91) (d := 0) (m := 91) (f := B) (g := N) rfl rfl (rS_B hs17) (rS_N hs17) (by omega) (by decide) ⟨by omega, by decide, by decide⟩ (Nat.le_of_ble_eq_true rfl) ?_
  have hs18 := rS_setN (va_cpy B N (c * 91) 0 91) hs17
  generalize g17.set 1 _ = g18 at hs18
  refine mj_T.pl rfl rfl rfl rfl ?_
  refine rT_get (v := .int (jn (c : Int))) hs18 rfl (by rw [← e2]; rfl) ?_
  refine mj_T.ret rfl rfl rfl (⟨congrArg (fun z : Int => (Sum.inl (some (Value.int (jn z))) : Option Value ⊕ Nat)) (show (c : Int) = (u0 : Int) - 1 by omega), H 0, c, (fun k => H (k + 1)), Or.inr ⟨c, by omega, rfl, rfl, rfl⟩, ⟨_, _, _, _, _, hs18, ⟨⟨?_, by omega, fun k hk => k3 k (by omega), by rw [e 9 (by decide)]; exact k4, by rw [e 12 (by decide)]; exact k5, by rw [e 15 (by decide)]; exact k6, fun x => ?_, by rw [e 13 (by decide)]; exact k8, k9⟩, fun j hj => ?_, e2, fun k hk j hj => ?_⟩⟩⟩)
  · refine gN_congr (fun j hj => ?_) (k3 c (by omega))
    show va_cpy B N (c * 91) 0 91 j = B (c * 91 + j)
    unfold va_cpy
    rw [if_pos (by omega), show c * 91 + (j - 0) = c * 91 + j by omega]
  · by_cases q : x = 2
    · subst q
      rw [e2]
      exact ⟨by omega, by omega⟩
    · rw [e x q]
      exact k7 x
  · have y := kh 0 (by omega) j hj
    show va_cpy B N (c * 91) 0 91 j = H 0 j
    unfold va_cpy
    rw [if_pos (by omega), ← y, show c * 91 + (j - 0) = (u0 - 1 - 0) * 91 + j by rw [show u0 - 1 - 0 = c by omega]; omega]
  · have y := kh (k + 1) (by omega) j hj
    rw [show u0 - 1 - (k + 1) = c - 1 - k by omega] at y
    exact y
theorem cz_140v (s : cC N0 u0 H h) : mj_Ok 59 140 [.ref 1] h (fun r => r.1 = .inl (some (.int (jn (N0 78)))) ∧ yZ (sameQ N0 u0 H) r.2) := (cz_140 s).to (fun z hz => by
  subst hz
  exact ⟨rfl, N0, u0, H, ⟨rfl, rfl, rfl⟩, s⟩)
theorem cz_116v (A : AS N0 u0 H) (s : cC N0 u0 H h) : mj_Ok 59 116 [.ref 1] h (fun r => r.1 = .inl (some (.int (jn (N0 78)))) ∧ yZ (Q_clearPoints N0 u0 H) r.2) := (mj_Ok.up (by decide) (pX_clearPoints (D := 0) A s)).to (fun z hz => by
  obtain ⟨h2, c, rfl⟩ := hz
  exact ⟨rfl, _, _, _, Or.inl ⟨trivial, eqB.rf _, rfl, rfl⟩, c.cC⟩)
theorem cz_118v (A : AS N0 u0 H) (s : cC N0 u0 H h) : mj_Ok 59 118 [.ref 1] h (fun r => r.1 = .inl (some (.int (jn ((u0 : Int) - 1)))) ∧ yZ (undQ N0 u0 H) r.2) := (mj_Ok.up (by decide) (pX_undo (D := 0) A s)).to (fun z hz => by
  rcases hz with ⟨a, h2, c, rfl⟩ | ⟨v, a, h2, c, rfl⟩
  · exact ⟨congrArg (fun z : Int => (Sum.inl (some (Value.int (jn z))) : Option Value ⊕ Nat)) (show (-1 : Int) = (u0 : Int) - 1 by omega), _, _, _, Or.inl ⟨a, rfl, rfl, rfl⟩, c.cC⟩
  · exact ⟨congrArg (fun z : Int => (Sum.inl (some (Value.int (jn z))) : Option Value ⊕ Nat)) (show (v : Int) = (u0 : Int) - 1 by omega), _, _, _, Or.inr ⟨v, a, rfl, rfl, rfl⟩, c.cC⟩)
end RPZV
