/-! Rounds of the law. -/
theorem jL_14 {n Lx : Nat} {xs : Nat → Int32} {tm er i : Int} {T : Nat → Int} {h : mj_H} {l5 l6 l7 l8 : Option Value} {Q : mj_R → Prop} (hi : 0 ≤ i ∧ i + 6 ≤ Lx) (hL : Lx ≤ 3072) (I : jLi cK cL cR (.inl (100, Lx, fun j => .int (xs j))) 571 563 n tm er T h) (X : jcx er tm T h) (Y : YX tm er T h) (k : ∀ (n' : Nat) (tm' er' : Int) (T' : Nat → Int) (h' : mj_H) (l5 l6 l7 l8 : Option Value), n ≤ n' → n' ≤ n + 1 → jLi cK cL cR (.inl (100, Lx, fun j => .int (xs j))) 571 563 n' tm' er' T' h' → jcx er' tm' T' h' → YX tm' er' T' h' → mj_T 100 mj_mK 2072 [some (.ref 0), some (.ref 1), some (.ref 563), some (.ref 571), some (.int (jn i)), l5, l6, l7, l8] [] h' Q) : mj_T 100 mj_mK 944 [some (.ref 0), some (.ref 1), some (.ref 563), some (.ref 571), some (.int (jn i)), l5, l6, l7, l8] [] h Q := by
  obtain ⟨N0, u0, H0, hr0, s0, E0, J0⟩ := Y
  have A0 := J0.AS
  refine mj_T.pl rfl rfl rfl rfl ?_
  refine mj_T.call rfl rfl (Nat.le_of_ble_eq_true rfl) (Nat.le_of_ble_eq_true rfl) (jrv_of I.1.1 ck0.2 (by decide) rfl (by decide) rfl _) rfl (mj_Ok.up (by decide) (mj_Ok.and (mj_Ok.up (by decide) ((jc_116 (D := 0) cTY (Nat.le_of_eq I.1.1.1) I.1.1 ck0.2).qt rfl)) ((cz_116 A0 s0).to (fun _ y => y.yz)))) (fun v h1 hq => ?_) (fun i' h1 hq => by obtain ⟨hq, _⟩ := hq; obtain ⟨hq, _⟩ := hq; exact (absurd hq.1 (by simp)))
  obtain ⟨hq, qy⟩ := hq
  obtain ⟨hq, qx⟩ := hq
  have X1 := X.qt qx
  obtain ⟨⟨z, _, _, rfl⟩, o1⟩ := hq
  have I1 := I.cls jZ_pl (I.1.thr o1) (Nat.le_refl n) (jLf.of o1)
  have E1 := E0.frame jZ_pl (jLf.of o1) (by have e1 := I.1.1.1; have e2 := (I.1.thr o1).1.1; have e3 := (Nat.le_refl n); omega)
  iterate 2 refine mj_T.pl rfl rfl rfl rfl ?_
  obtain ⟨fs, ho⟩ := I1.obj
  refine mj_T.call rfl rfl (Nat.le_of_ble_eq_true rfl) (Nat.le_of_ble_eq_true rfl) (by simp [mj_recv, ho]) rfl (mj_Ok.up (by decide) (mj_Ok.and (mj_Ok.up (by decide) ((I1.callI jZ_pl (fun hr hI => rp_clearPoints hI) (fun N => rfl)).qt rfl)) (YX.call (tm' := tm) (er' := er) (T' := T) E1 qy Q_clearPoints.ag (rz_clearPoints J0) (fun N => rfl)))) (fun v h2 hq => ?_) (fun i' h2 hq => by obtain ⟨hq, _⟩ := hq; obtain ⟨hq, _⟩ := hq; exact (by obtain ⟨_, hq, _⟩ := hq; cases hq))
  obtain ⟨hq, Y2⟩ := hq
  obtain ⟨hq, qx⟩ := hq
  have X2 := X1.qt qx
  obtain ⟨z2, hv, I2⟩ := hq
  cases hv
  iterate 2 refine mj_T.pl rfl rfl rfl rfl ?_
  exact k n tm er T h2 _ _ _ _ (Nat.le_refl n) (Nat.le_succ n) I2 X2 Y2
theorem jL_16 {n Lx : Nat} {xs : Nat → Int32} {tm er i : Int} {T : Nat → Int} {h : mj_H} {l5 l6 l7 l8 : Option Value} {Q : mj_R → Prop} (hi : 0 ≤ i ∧ i + 6 ≤ Lx) (hL : Lx ≤ 3072) (I : jLi cK cL cR (.inl (100, Lx, fun j => .int (xs j))) 571 563 n tm er T h) (X : jcx er tm T h) (Y : YX tm er T h) (k : ∀ (n' : Nat) (tm' er' : Int) (T' : Nat → Int) (h' : mj_H) (l5 l6 l7 l8 : Option Value), n ≤ n' → n' ≤ n + 1 → jLi cK cL cR (.inl (100, Lx, fun j => .int (xs j))) 571 563 n' tm' er' T' h' → jcx er' tm' T' h' → YX tm' er' T' h' → mj_T 100 mj_mK 2072 [some (.ref 0), some (.ref 1), some (.ref 563), some (.ref 571), some (.int (jn i)), l5, l6, l7, l8] [] h' Q) : mj_T 100 mj_mK 985 [some (.ref 0), some (.ref 1), some (.ref 563), some (.ref 571), some (.int (jn i)), l5, l6, l7, l8] [] h Q := by
  obtain ⟨N0, u0, H0, hr0, s0, E0, J0⟩ := Y
  have A0 := J0.AS
  refine mj_T.pl rfl rfl rfl rfl ?_
  refine mj_T.call rfl rfl (Nat.le_of_ble_eq_true rfl) (Nat.le_of_ble_eq_true rfl) (jrv_of I.1.1 ck0.2 (by decide) rfl (by decide) rfl _) rfl (mj_Ok.up (by decide) (mj_Ok.and (mj_Ok.up (by decide) ((jc_118 (D := 0) cTY (Nat.le_of_eq I.1.1.1) I.1.1 ck0.2).qt rfl)) ((cz_118 A0 s0).to (fun _ y => y.yz)))) (fun v h1 hq => ?_) (fun i' h1 hq => by obtain ⟨hq, _⟩ := hq; obtain ⟨hq, _⟩ := hq; exact (absurd hq.1 (by simp)))
  obtain ⟨hq, qy⟩ := hq
  obtain ⟨hq, qx⟩ := hq
  have X1 := X.qt qx
  obtain ⟨⟨z, _, _, rfl⟩, o1⟩ := hq
  have I1 := I.cls jZ_pl (I.1.thr o1) (Nat.le_refl n) (jLf.of o1)
  have E1 := E0.frame jZ_pl (jLf.of o1) (by have e1 := I.1.1.1; have e2 := (I.1.thr o1).1.1; have e3 := (Nat.le_refl n); omega)
  iterate 2 refine mj_T.pl rfl rfl rfl rfl ?_
  obtain ⟨fs, ho⟩ := I1.obj
  refine mj_T.call rfl rfl (Nat.le_of_ble_eq_true rfl) (Nat.le_of_ble_eq_true rfl) (by simp [mj_recv, ho]) rfl (mj_Ok.up (by decide) (mj_Ok.and (mj_Ok.up (by decide) ((I1.callI jZ_pl (fun hr hI => rp_undo hI) (fun N => rfl)).qt rfl)) (YX.call (tm' := tm) (er' := er) (T' := T) E1 qy (undQ.ag _ _ _) (rz_undo J0) (fun N => rfl)))) (fun v h2 hq => ?_) (fun i' h2 hq => by obtain ⟨hq, _⟩ := hq; obtain ⟨hq, _⟩ := hq; exact (by obtain ⟨_, hq, _⟩ := hq; cases hq))
  obtain ⟨hq, Y2⟩ := hq
  obtain ⟨hq, qx⟩ := hq
  have X2 := X1.qt qx
  obtain ⟨z2, hv, I2⟩ := hq
  cases hv
  iterate 2 refine mj_T.pl rfl rfl rfl rfl ?_
  exact k n tm er T h2 _ _ _ _ (Nat.le_refl n) (Nat.le_succ n) I2 X2 Y2
theorem jL_38 {n Lx : Nat} {xs : Nat → Int32} {tm er i : Int} {T : Nat → Int} {h : mj_H} {l5 l6 l7 l8 : Option Value} {Q : mj_R → Prop} (hi : 0 ≤ i ∧ i + 6 ≤ Lx) (hL : Lx ≤ 3072) (I : jLi cK cL cR (.inl (100, Lx, fun j => .int (xs j))) 571 563 n tm er T h) (X : jcx er tm T h) (Y : YX tm er T h) (k : ∀ (n' : Nat) (tm' er' : Int) (T' : Nat → Int) (h' : mj_H) (l5 l6 l7 l8 : Option Value), n ≤ n' → n' ≤ n + 1 → jLi cK cL cR (.inl (100, Lx, fun j => .int (xs j))) 571 563 n' tm' er' T' h' → jcx er' tm' T' h' → YX tm' er' T' h' → mj_T 100 mj_mK 2072 [some (.ref 0), some (.ref 1), some (.ref 563), some (.ref 571), some (.int (jn i)), l5, l6, l7, l8] [] h' Q) : mj_T 100 mj_mK 1856 [some (.ref 0), some (.ref 1), some (.ref 563), some (.ref 571), some (.int (jn i)), l5, l6, l7, l8] [] h Q := by
  obtain ⟨N0, u0, H0, hr0, s0, E0, J0⟩ := Y
  have A0 := J0.AS
  refine mj_T.pl rfl rfl rfl rfl ?_
  refine mj_T.call rfl rfl (Nat.le_of_ble_eq_true rfl) (Nat.le_of_ble_eq_true rfl) (jrv_of I.1.1 ck0.2 (by decide) rfl (by decide) rfl _) rfl (mj_Ok.up (by decide) (mj_Ok.and (mj_Ok.up (by decide) ((mj_Ok.to (jc_140 (D := 0) cTY (Nat.le_of_eq I.1.1.1) I.1.1 ck0.2) (fun _ k => jQp.toQ I.1.1 k)).qt rfl)) (cz_140v s0))) (fun v h1 hq => ?_) (fun i' h1 hq => by obtain ⟨hq, _⟩ := hq; obtain ⟨hq, _⟩ := hq; exact (absurd hq.1 (by simp)))
  obtain ⟨hq, qv, qy⟩ := hq
  obtain ⟨hq, qx⟩ := hq
  have X1 := X.qt qx
  have qf : (Sum.inl v : Option Value ⊕ Nat) = .inl (some (.int (jn (N0 78)))) := qv
  cases qf
  obtain ⟨_, o1⟩ := hq
  have hp := A0.1.2.1
  have I1 := I.cls jZ_pl (I.1.thr o1) (Nat.le_refl n) (jLf.of o1)
  have E1 := E0.frame jZ_pl (jLf.of o1) (by have e1 := I.1.1.1; have e2 := (I.1.thr o1).1.1; have e3 := (Nat.le_refl n); omega)
  refine mj_T.pl rfl rfl rfl rfl ?_
  obtain ⟨fs, ho⟩ := I1.obj
  refine mj_T.call rfl rfl (Nat.le_of_ble_eq_true rfl) (Nat.le_of_ble_eq_true rfl) (by simp [mj_recv, ho]) rfl (mj_Ok.up (by decide) (mj_Ok.and (mj_Ok.up (by decide) ((I1.callI jZ_pl (fun hr hI => rp_pointCount hI) (fun N => rfl)).qt rfl)) (YX.callv (x := N0 78) (tm' := tm) (er' := er) (T' := T) E1 qy (sameQ.ag _ _ _) (rx_pointCountX J0) (fun N => rfl)))) (fun v h2 hq => ?_) (fun i' h2 hq => by obtain ⟨hq, _⟩ := hq; obtain ⟨hq, _⟩ := hq; exact (by obtain ⟨_, hq, _⟩ := hq; cases hq))
  obtain ⟨hq, v2, Y2⟩ := hq
  obtain ⟨hq, qx⟩ := hq
  have X2 := X1.qt qx
  obtain ⟨z2, hv, I2⟩ := hq
  have v2 : (Sum.inl v : Option Value ⊕ Nat) = .inl (some (.int (jn (N0 78)))) := v2
  cases v2
  refine jT.icmp (a := N0 78) (b := N0 78) rfl ⟨by omega, by omega⟩ ⟨by omega, by omega⟩ (fun _ => ?_) (fun cc => by simp [jc] at cc)
  exact k n tm er T h2 _ _ _ _ (Nat.le_refl n) (Nat.le_succ n) I2 X2 Y2
theorem jL_40 {n Lx : Nat} {xs : Nat → Int32} {tm er i : Int} {T : Nat → Int} {h : mj_H} {l5 l6 l7 l8 : Option Value} {Q : mj_R → Prop} (hi : 0 ≤ i ∧ i + 6 ≤ Lx) (hL : Lx ≤ 3072) (I : jLi cK cL cR (.inl (100, Lx, fun j => .int (xs j))) 571 563 n tm er T h) (X : jcx er tm T h) (Y : YX tm er T h) (k : ∀ (n' : Nat) (tm' er' : Int) (T' : Nat → Int) (h' : mj_H) (l5 l6 l7 l8 : Option Value), n ≤ n' → n' ≤ n + 1 → jLi cK cL cR (.inl (100, Lx, fun j => .int (xs j))) 571 563 n' tm' er' T' h' → jcx er' tm' T' h' → YX tm' er' T' h' → mj_T 100 mj_mK 2072 [some (.ref 0), some (.ref 1), some (.ref 563), some (.ref 571), some (.int (jn i)), l5, l6, l7, l8] [] h' Q) : mj_T 100 mj_mK 1945 [some (.ref 0), some (.ref 1), some (.ref 563), some (.ref 571), some (.int (jn i)), l5, l6, l7, l8] [] h Q := by
  obtain ⟨N0, u0, H0, hr0, s0, E0, J0⟩ := Y
  have A0 := J0.AS
  refine mj_T.pl rfl rfl rfl rfl ?_
  refine mj_T.call rfl rfl (Nat.le_of_ble_eq_true rfl) (Nat.le_of_ble_eq_true rfl) (jrv_of I.1.1 ck0.2 (by decide) rfl (by decide) rfl _) rfl (mj_Ok.up (by decide) (mj_Ok.and (mj_Ok.up (by decide) ((jc_142 (D := 0) cTY I.1.1 ck0.2).qt rfl)) (yr_142 s0))) (fun v h1 hq => ?_) (fun i' h1 hq => by obtain ⟨hq, _⟩ := hq; obtain ⟨hq, _⟩ := hq; exact (by obtain ⟨hq, _⟩ := hq; cases hq))
  obtain ⟨hq, qy⟩ := hq
  obtain ⟨hq, qx⟩ := hq
  have X1 := X.qt qx
  obtain ⟨hv, o1⟩ := hq
  cases hv
  have I1 := I.cls jZ_pl (I.1.thr o1) (Nat.le_refl n) (jLf.of o1)
  have E1 := E0.frame jZ_pl (jLf.of o1) (by have e1 := I.1.1.1; have e2 := (I.1.thr o1).1.1; have e3 := (Nat.le_refl n); omega)
  iterate 2 refine mj_T.pl rfl rfl rfl rfl ?_
  obtain ⟨fs, ho⟩ := I1.obj
  have hc : mj_Ok 40 286 [.ref 563] h1 (fun r => ∃ z : Int, r.1 = .inl (some (.int (jn z))) ∧ jLc cK cL cR (.inl (100, Lx, fun j => .int (xs j))) 571 563 n 0 0 er T r.2) := by
    refine (I1.call jZ_pl (fun hr hI => rp_clearText hI) (fun r hr => ?_) (fun N => rfl)).to (fun r ⟨r0, hr', a, b, d, s0, e⟩ => ?_)
    · obtain ⟨h2, rfl, k⟩ := hr
      exact ⟨_, _, _, k⟩
    · obtain ⟨h2, e2, k⟩ := a
      cases e2
      exact ⟨_, b, d, s0, hr', e, k⟩
  refine mj_T.call rfl rfl (Nat.le_of_ble_eq_true rfl) (Nat.le_of_ble_eq_true rfl) (by simp [mj_recv, ho]) rfl (mj_Ok.up (by decide) (mj_Ok.and (mj_Ok.up (by decide) (hc.qt rfl)) (YX.call (tm' := 0) (er' := er) (T' := T) E1 qy (sameQ.ag _ _ _) ((rx_clearText J0).to (fun r k => by obtain ⟨h', rfl, k⟩ := k; exact ⟨_, _, _, ⟨rfl, rfl, rfl⟩, k⟩)) (fun N => rfl)))) (fun v h2 hq => ?_) (fun i' h2 hq => by obtain ⟨hq, _⟩ := hq; obtain ⟨hq, _⟩ := hq; exact (by obtain ⟨_, hq, _⟩ := hq; cases hq))
  obtain ⟨hq, Y2⟩ := hq
  obtain ⟨hq, qx⟩ := hq
  have X2 := X1.qt qx
  obtain ⟨z2, hv, I2⟩ := hq
  cases hv
  iterate 2 refine mj_T.pl rfl rfl rfl rfl ?_
  exact k n 0 er T h2 _ _ _ _ (Nat.le_refl n) (Nat.le_succ n) I2 (X2.le I.1.1.2.1.1) Y2
theorem jL_41 {n Lx : Nat} {xs : Nat → Int32} {tm er i : Int} {T : Nat → Int} {h : mj_H} {l5 l6 l7 l8 : Option Value} {Q : mj_R → Prop} (hi : 0 ≤ i ∧ i + 6 ≤ Lx) (hL : Lx ≤ 3072) (I : jLi cK cL cR (.inl (100, Lx, fun j => .int (xs j))) 571 563 n tm er T h) (X : jcx er tm T h) (Y : YX tm er T h) (k : ∀ (n' : Nat) (tm' er' : Int) (T' : Nat → Int) (h' : mj_H) (l5 l6 l7 l8 : Option Value), n ≤ n' → n' ≤ n + 1 → jLi cK cL cR (.inl (100, Lx, fun j => .int (xs j))) 571 563 n' tm' er' T' h' → jcx er' tm' T' h' → YX tm' er' T' h' → mj_T 100 mj_mK 2072 [some (.ref 0), some (.ref 1), some (.ref 563), some (.ref 571), some (.int (jn i)), l5, l6, l7, l8] [] h' Q) : mj_T 100 mj_mK 1958 [some (.ref 0), some (.ref 1), some (.ref 563), some (.ref 571), some (.int (jn i)), l5, l6, l7, l8] [] h Q := by
  obtain ⟨N0, u0, H0, hr0, s0, E0, J0⟩ := Y
  have A0 := J0.AS
  refine mj_T.pl rfl rfl rfl rfl ?_
  refine mj_T.call rfl rfl (Nat.le_of_ble_eq_true rfl) (Nat.le_of_ble_eq_true rfl) (jrv_of I.1.1 ck0.2 (by decide) rfl (by decide) rfl _) rfl (mj_Ok.up (by decide) (mj_Ok.and (mj_Ok.up (by decide) ((mj_Ok.to (jc_143 (D := 0) cTY (Nat.le_of_eq I.1.1.1) I.1.1 ck0.2) (fun _ k => jQp.toQ I.1.1 k)).qt rfl)) (yr_143 A0 s0 I.1))) (fun v h1 hq => ?_) (fun i' h1 hq => by obtain ⟨hq, _⟩ := hq; obtain ⟨hq, _⟩ := hq; exact (absurd hq.1 (by simp)))
  obtain ⟨hq, qy⟩ := hq
  obtain ⟨hq, qx⟩ := hq
  have X1 := X.qt qx
  obtain ⟨⟨z, _, _, rfl⟩, o1⟩ := hq
  have I1 := I.cls jZ_pl (I.1.thr o1) (Nat.le_refl n) (jLf.of o1)
  have E1 := E0.frame jZ_pl (jLf.of o1) (by have e1 := I.1.1.1; have e2 := (I.1.thr o1).1.1; have e3 := (Nat.le_refl n); omega)
  iterate 2 refine mj_T.pl rfl rfl rfl rfl ?_
  obtain ⟨fs, ho⟩ := I1.obj
  have hc : mj_Ok 40 287 [.ref 563] h1 (fun r => ∃ z : Int, r.1 = .inl (some (.int (jn z))) ∧ jLc cK cL cR (.inl (100, Lx, fun j => .int (xs j))) 571 563 n tm tm er T r.2) := by
    refine (I1.call jZ_pl (fun hr hI => rp_errorPosition hI) (fun r hr => ?_) (fun N => rfl)).to (fun r ⟨r0, hr', a, b, d, s0, e⟩ => ?_)
    · obtain ⟨h2, rfl, k⟩ := hr
      exact ⟨_, _, _, k⟩
    · obtain ⟨h2, e2, k⟩ := a
      cases e2
      exact ⟨_, b, d, s0, hr', e, k⟩
  refine mj_T.call rfl rfl (Nat.le_of_ble_eq_true rfl) (Nat.le_of_ble_eq_true rfl) (by simp [mj_recv, ho]) rfl (mj_Ok.up (by decide) (mj_Ok.and (mj_Ok.up (by decide) (hc.qt rfl)) (YX.call (tm' := tm) (er' := er) (T' := T) E1 qy (sameQ.ag _ _ _) ((rx_errorPosition J0).to (fun r k => by obtain ⟨h', rfl, k⟩ := k; exact ⟨_, _, _, ⟨rfl, rfl, rfl⟩, k⟩)) (fun N => rfl)))) (fun v h2 hq => ?_) (fun i' h2 hq => by obtain ⟨hq, _⟩ := hq; obtain ⟨hq, _⟩ := hq; exact (by obtain ⟨_, hq, _⟩ := hq; cases hq))
  obtain ⟨hq, Y2⟩ := hq
  obtain ⟨hq, qx⟩ := hq
  have X2 := X1.qt qx
  obtain ⟨z2, hv, I2⟩ := hq
  cases hv
  iterate 2 refine mj_T.pl rfl rfl rfl rfl ?_
  exact k n tm er T h2 _ _ _ _ (Nat.le_refl n) (Nat.le_succ n) I2 X2 Y2
theorem jL_46 {n Lx : Nat} {xs : Nat → Int32} {tm er i : Int} {T : Nat → Int} {h : mj_H} {l5 l6 l7 l8 : Option Value} {Q : mj_R → Prop} (hi : 0 ≤ i ∧ i + 6 ≤ Lx) (hL : Lx ≤ 3072) (I : jLi cK cL cR (.inl (100, Lx, fun j => .int (xs j))) 571 563 n tm er T h) (X : jcx er tm T h) (Y : YX tm er T h) (k : ∀ (n' : Nat) (tm' er' : Int) (T' : Nat → Int) (h' : mj_H) (l5 l6 l7 l8 : Option Value), n ≤ n' → n' ≤ n + 1 → jLi cK cL cR (.inl (100, Lx, fun j => .int (xs j))) 571 563 n' tm' er' T' h' → jcx er' tm' T' h' → YX tm' er' T' h' → mj_T 100 mj_mK 2072 [some (.ref 0), some (.ref 1), some (.ref 563), some (.ref 571), some (.int (jn i)), l5, l6, l7, l8] [] h' Q) : mj_T 100 mj_mK 2059 [some (.ref 0), some (.ref 1), some (.ref 563), some (.ref 571), some (.int (jn i)), l5, l6, l7, l8] [] h Q := by
  obtain ⟨N0, u0, H0, hr0, s0, E0, J0⟩ := Y
  have A0 := J0.AS
  refine mj_T.pl rfl rfl rfl rfl ?_
  refine mj_T.call rfl rfl (Nat.le_of_ble_eq_true rfl) (Nat.le_of_ble_eq_true rfl) (jrv_of I.1.1 ck0.2 (by decide) rfl (by decide) rfl _) rfl (mj_Ok.up (by decide) (mj_Ok.and (mj_Ok.up (by decide) ((mj_Ok.up (by decide : 56 ≤ 60) (jc_148 (D := 0) cTY (Nat.le_of_eq I.1.1.1) I.1.1 ck0.2)).and (rq_errors (Nat.le_of_eq I.1.1.1) I.1.1 X))) (yr_148 A0 s0))) (fun v h1 hq => ?_) (fun i' h1 hq => by obtain ⟨hq, _⟩ := hq; obtain ⟨hq, _⟩ := hq; exact (absurd hq.1 (by simp)))
  obtain ⟨hq, qy⟩ := hq
  obtain ⟨hq, qx⟩ := hq
  have X1 := qx
  obtain ⟨⟨z, _, _, rfl⟩, o1⟩ := hq
  have I1 := I.cls jZ_pl (I.1.thr o1) (Nat.le_refl n) (jLf.of o1)
  have E1 := E0.frame jZ_pl (jLf.of o1) (by have e1 := I.1.1.1; have e2 := (I.1.thr o1).1.1; have e3 := (Nat.le_refl n); omega)
  iterate 2 refine mj_T.pl rfl rfl rfl rfl ?_
  obtain ⟨fs, ho⟩ := I1.obj
  have hc : mj_Ok 40 309 [.ref 563] h1 (fun r => ∃ z : Int, r.1 = .inl (some (.int (jn z))) ∧ jLc cK cL cR (.inl (100, Lx, fun j => .int (xs j))) 571 563 n tm tm er T r.2) := by
    refine (I1.call jZ_pl (fun hr hI => rp_errors hI) (fun r hr => ?_) (fun N => rfl)).to (fun r ⟨r0, hr', a, b, d, s0, e⟩ => ?_)
    · obtain ⟨h2, rfl, k⟩ := hr
      exact ⟨_, _, _, k⟩
    · obtain ⟨h2, e2, k⟩ := a
      cases e2
      exact ⟨_, b, d, s0, hr', e, k⟩
  refine mj_T.call rfl rfl (Nat.le_of_ble_eq_true rfl) (Nat.le_of_ble_eq_true rfl) (by simp [mj_recv, ho]) rfl (mj_Ok.up (by decide) (mj_Ok.and (mj_Ok.up (by decide) (hc.qt rfl)) (YX.call (tm' := tm) (er' := er) (T' := T) E1 qy (sameQ.ag _ _ _) ((rx_errors J0).to (fun r k => by obtain ⟨h', rfl, k⟩ := k; exact ⟨_, _, _, ⟨rfl, rfl, rfl⟩, k⟩)) (fun N => rfl)))) (fun v h2 hq => ?_) (fun i' h2 hq => by obtain ⟨hq, _⟩ := hq; obtain ⟨hq, _⟩ := hq; exact (by obtain ⟨_, hq, _⟩ := hq; cases hq))
  obtain ⟨hq, Y2⟩ := hq
  obtain ⟨hq, qx⟩ := hq
  have X2 := X1.qt qx
  obtain ⟨z2, hv, I2⟩ := hq
  cases hv
  iterate 2 refine mj_T.pl rfl rfl rfl rfl ?_
  exact k n tm er T h2 _ _ _ _ (Nat.le_refl n) (Nat.le_succ n) I2 X2 Y2
