/-! Rounds of the law. -/
theorem jL_29 {n Lx : Nat} {xs : Nat → Int32} {tm er i : Int} {T : Nat → Int} {h : mj_H} {l5 l6 l7 l8 : Option Value} {Q : mj_R → Prop} (hi : 0 ≤ i ∧ i + 6 ≤ Lx) (hL : Lx ≤ 3072) (I : jLi cK cL cR (.inl (100, Lx, fun j => .int (xs j))) 571 563 n tm er T h) (X : jcx er tm T h) (Y : YX tm er T h) (k : ∀ (n' : Nat) (tm' er' : Int) (T' : Nat → Int) (h' : mj_H) (l5 l6 l7 l8 : Option Value), n ≤ n' → n' ≤ n + 1 → jLi cK cL cR (.inl (100, Lx, fun j => .int (xs j))) 571 563 n' tm' er' T' h' → jcx er' tm' T' h' → YX tm' er' T' h' → mj_T 100 mj_mK 2072 [some (.ref 0), some (.ref 1), some (.ref 563), some (.ref 571), some (.int (jn i)), l5, l6, l7, l8] [] h' Q) : mj_T 100 mj_mK 1472 [some (.ref 0), some (.ref 1), some (.ref 563), some (.ref 571), some (.int (jn i)), l5, l6, l7, l8] [] h Q := by
  obtain ⟨N0, u0, H0, hr0, s0, E0, J0⟩ := Y
  have A0 := J0.AS
  refine mj_T.pl rfl rfl rfl rfl ?_
  refine jL.arg (k := 1) I.2.1 hi hL ⟨by decide, by decide⟩ rfl rfl rfl rfl rfl ?_
  refine jT.asJ ?_
  refine mj_T.eq (pc2 := 1479) ?_ rfl rfl rfl rfl
  refine mj_T.pl rfl rfl rfl rfl ?_
  refine mj_T.call rfl rfl (Nat.le_of_ble_eq_true rfl) (Nat.le_of_ble_eq_true rfl) rfl rfl (mj_Ok.up (by decide) (mj_Ok.and (mj_Ok.up (by decide) ((jw_335 (D := 0) cTY I.1 ck0.2 (jr_of' _)).qt rfl)) (jy_335 I.1 (jr_of' _) (yr_131 A0 s0 I.1 (jr_of' _))))) (fun v h1 hq => ?_) (fun i' h1 hq => by obtain ⟨hq, _⟩ := hq; obtain ⟨hq, _⟩ := hq; exact (by obtain ⟨_, hq, _⟩ := hq; cases hq))
  obtain ⟨hq, qy⟩ := hq
  obtain ⟨hq, qx⟩ := hq
  have X1 := X.qt qx
  obtain ⟨z, hv, ⟨n1, hn1, hn2, w1⟩, f1⟩ := hq
  cases hv
  have I1 := I.cls jZ_pl w1 hn1 f1
  have E1 := E0.frame jZ_pl f1 (by have e1 := I.1.1.1; have e2 := w1.1.1; have e3 := hn1; omega)
  refine mj_T.pl (loc' := [some (.ref 0), some (.ref 1), some (.ref 563), some (.ref 571), some (.int (jn i)), some (.int (jn z)), l6, l7, l8]) rfl rfl rfl rfl ?_
  refine mj_T.pl rfl rfl rfl rfl ?_
  refine jL.arg (k := 1) I1.2.1 hi hL ⟨by decide, by decide⟩ rfl rfl rfl rfl rfl ?_
  refine jT.asJ ?_
  refine mj_T.eq (pc2 := 1492) ?_ rfl rfl rfl rfl
  obtain ⟨fs, ho⟩ := I1.obj
  refine mj_T.call rfl rfl (Nat.le_of_ble_eq_true rfl) (Nat.le_of_ble_eq_true rfl) (by simp [mj_recv, ho]) rfl (mj_Ok.up (by decide) (mj_Ok.and (mj_Ok.up (by decide) ((I1.callI jZ_pl (fun hr hI => rp_realRoots (jr_of _) hI) (fun N => rfl)).qt rfl)) (YX.call (tm' := tm) (er' := er) (T' := T) E1 qy (sameQ.ag _ _ _) ((rx_realRoots (jr_of _) J0).to (fun r k => rIx.z k ⟨rfl, rfl, rfl⟩)) (fun N => rfl)))) (fun v h2 hq => ?_) (fun i' h2 hq => by obtain ⟨hq, _⟩ := hq; obtain ⟨hq, _⟩ := hq; exact (by obtain ⟨_, hq, _⟩ := hq; cases hq))
  obtain ⟨hq, Y2⟩ := hq
  obtain ⟨hq, qx⟩ := hq
  have X2 := X1.qt qx
  obtain ⟨z2, hv, I2⟩ := hq
  cases hv
  refine mj_T.pl (loc' := [some (.ref 0), some (.ref 1), some (.ref 563), some (.ref 571), some (.int (jn i)), some (.int (jn z)), some (.int (jn z2)), l7, l8]) rfl rfl rfl rfl ?_
  refine mj_T.pl rfl rfl rfl rfl ?_
  exact k n1 tm er T h2 _ _ _ _ hn1 hn2 I2 X2 Y2
theorem jL_30 {n Lx : Nat} {xs : Nat → Int32} {tm er i : Int} {T : Nat → Int} {h : mj_H} {l5 l6 l7 l8 : Option Value} {Q : mj_R → Prop} (hi : 0 ≤ i ∧ i + 6 ≤ Lx) (hL : Lx ≤ 3072) (I : jLi cK cL cR (.inl (100, Lx, fun j => .int (xs j))) 571 563 n tm er T h) (X : jcx er tm T h) (Y : YX tm er T h) (k : ∀ (n' : Nat) (tm' er' : Int) (T' : Nat → Int) (h' : mj_H) (l5 l6 l7 l8 : Option Value), n ≤ n' → n' ≤ n + 1 → jLi cK cL cR (.inl (100, Lx, fun j => .int (xs j))) 571 563 n' tm' er' T' h' → jcx er' tm' T' h' → YX tm' er' T' h' → mj_T 100 mj_mK 2072 [some (.ref 0), some (.ref 1), some (.ref 563), some (.ref 571), some (.int (jn i)), l5, l6, l7, l8] [] h' Q) : mj_T 100 mj_mK 1500 [some (.ref 0), some (.ref 1), some (.ref 563), some (.ref 571), some (.int (jn i)), l5, l6, l7, l8] [] h Q := by
  obtain ⟨N0, u0, H0, hr0, s0, E0, J0⟩ := Y
  have A0 := J0.AS
  refine mj_T.pl rfl rfl rfl rfl ?_
  refine jL.arg (k := 1) I.2.1 hi hL ⟨by decide, by decide⟩ rfl rfl rfl rfl rfl ?_
  refine jT.asJ ?_
  refine mj_T.eq (pc2 := 1507) ?_ rfl rfl rfl rfl
  refine jL.arg (k := 2) I.2.1 hi hL ⟨by decide, by decide⟩ rfl rfl rfl rfl rfl ?_
  refine jT.asJ ?_
  refine mj_T.eq (pc2 := 1513) ?_ rfl rfl rfl rfl
  refine jL.arg (k := 3) I.2.1 hi hL ⟨by decide, by decide⟩ rfl rfl rfl rfl rfl ?_
  refine jT.asJ ?_
  refine mj_T.eq (pc2 := 1519) ?_ rfl rfl rfl rfl
  refine jL.arg (k := 4) I.2.1 hi hL ⟨by decide, by decide⟩ rfl rfl rfl rfl rfl ?_
  refine jT.asJ ?_
  refine mj_T.eq (pc2 := 1525) ?_ rfl rfl rfl rfl
  refine jL.arg (k := 5) I.2.1 hi hL ⟨by decide, by decide⟩ rfl rfl rfl rfl rfl ?_
  refine jT.asJ ?_
  refine mj_T.eq (pc2 := 1531) ?_ rfl rfl rfl rfl
  refine mj_T.pl rfl rfl rfl rfl ?_
  refine mj_T.call rfl rfl (Nat.le_of_ble_eq_true rfl) (Nat.le_of_ble_eq_true rfl) rfl rfl (mj_Ok.up (by decide) (mj_Ok.and (mj_Ok.up (by decide) ((jw_336 (D := 0) cTY I.1 ck0.2 (jr_of' _) (jr_of' _) (jr_of' _) (jr_of' _) (jr_of' _)).qt rfl)) (jy_336 I.1 (jr_of' _) (jr_of' _) (jr_of' _) (jr_of' _) (jr_of' _) (yr_132 A0 s0 I.1 (jr_of' _) (jr_of' _) (jr_of' _) (jr_of' _) (jr_of' _))))) (fun v h1 hq => ?_) (fun i' h1 hq => by obtain ⟨hq, _⟩ := hq; obtain ⟨hq, _⟩ := hq; exact (by obtain ⟨_, hq, _⟩ := hq; cases hq))
  obtain ⟨hq, qy⟩ := hq
  obtain ⟨hq, qx⟩ := hq
  have X1 := X.qt qx
  obtain ⟨z, hv, ⟨n1, hn1, hn2, w1⟩, f1⟩ := hq
  cases hv
  have I1 := I.cls jZ_pl w1 hn1 f1
  have E1 := E0.frame jZ_pl f1 (by have e1 := I.1.1.1; have e2 := w1.1.1; have e3 := hn1; omega)
  refine mj_T.pl (loc' := [some (.ref 0), some (.ref 1), some (.ref 563), some (.ref 571), some (.int (jn i)), some (.int (jn z)), l6, l7, l8]) rfl rfl rfl rfl ?_
  refine mj_T.pl rfl rfl rfl rfl ?_
  refine jL.arg (k := 1) I1.2.1 hi hL ⟨by decide, by decide⟩ rfl rfl rfl rfl rfl ?_
  refine jT.asJ ?_
  refine mj_T.eq (pc2 := 1544) ?_ rfl rfl rfl rfl
  refine jL.arg (k := 2) I1.2.1 hi hL ⟨by decide, by decide⟩ rfl rfl rfl rfl rfl ?_
  refine jT.asJ ?_
  refine mj_T.eq (pc2 := 1550) ?_ rfl rfl rfl rfl
  refine jL.arg (k := 3) I1.2.1 hi hL ⟨by decide, by decide⟩ rfl rfl rfl rfl rfl ?_
  refine jT.asJ ?_
  refine mj_T.eq (pc2 := 1556) ?_ rfl rfl rfl rfl
  refine jL.arg (k := 4) I1.2.1 hi hL ⟨by decide, by decide⟩ rfl rfl rfl rfl rfl ?_
  refine jT.asJ ?_
  refine mj_T.eq (pc2 := 1562) ?_ rfl rfl rfl rfl
  refine jL.arg (k := 5) I1.2.1 hi hL ⟨by decide, by decide⟩ rfl rfl rfl rfl rfl ?_
  refine jT.asJ ?_
  refine mj_T.eq (pc2 := 1568) ?_ rfl rfl rfl rfl
  obtain ⟨fs, ho⟩ := I1.obj
  refine mj_T.call rfl rfl (Nat.le_of_ble_eq_true rfl) (Nat.le_of_ble_eq_true rfl) (by simp [mj_recv, ho]) rfl (mj_Ok.up (by decide) (mj_Ok.and (mj_Ok.up (by decide) ((I1.callI jZ_pl (fun hr hI => rp_rootsBetween (jr_of _) (jr_of _) (jr_of _) (jr_of _) (jr_of _) hI) (fun N => rfl)).qt rfl)) (YX.call (tm' := tm) (er' := er) (T' := T) E1 qy (sameQ.ag _ _ _) ((rx_rootsBetween (jr_of _) (jr_of _) (jr_of _) (jr_of _) (jr_of _) J0).to (fun r k => rIx.z k ⟨rfl, rfl, rfl⟩)) (fun N => rfl)))) (fun v h2 hq => ?_) (fun i' h2 hq => by obtain ⟨hq, _⟩ := hq; obtain ⟨hq, _⟩ := hq; exact (by obtain ⟨_, hq, _⟩ := hq; cases hq))
  obtain ⟨hq, Y2⟩ := hq
  obtain ⟨hq, qx⟩ := hq
  have X2 := X1.qt qx
  obtain ⟨z2, hv, I2⟩ := hq
  cases hv
  refine mj_T.pl (loc' := [some (.ref 0), some (.ref 1), some (.ref 563), some (.ref 571), some (.int (jn i)), some (.int (jn z)), some (.int (jn z2)), l7, l8]) rfl rfl rfl rfl ?_
  refine mj_T.pl rfl rfl rfl rfl ?_
  exact k n1 tm er T h2 _ _ _ _ hn1 hn2 I2 X2 Y2
theorem jL_31 {n Lx : Nat} {xs : Nat → Int32} {tm er i : Int} {T : Nat → Int} {h : mj_H} {l5 l6 l7 l8 : Option Value} {Q : mj_R → Prop} (hi : 0 ≤ i ∧ i + 6 ≤ Lx) (hL : Lx ≤ 3072) (I : jLi cK cL cR (.inl (100, Lx, fun j => .int (xs j))) 571 563 n tm er T h) (X : jcx er tm T h) (Y : YX tm er T h) (k : ∀ (n' : Nat) (tm' er' : Int) (T' : Nat → Int) (h' : mj_H) (l5 l6 l7 l8 : Option Value), n ≤ n' → n' ≤ n + 1 → jLi cK cL cR (.inl (100, Lx, fun j => .int (xs j))) 571 563 n' tm' er' T' h' → jcx er' tm' T' h' → YX tm' er' T' h' → mj_T 100 mj_mK 2072 [some (.ref 0), some (.ref 1), some (.ref 563), some (.ref 571), some (.int (jn i)), l5, l6, l7, l8] [] h' Q) : mj_T 100 mj_mK 1576 [some (.ref 0), some (.ref 1), some (.ref 563), some (.ref 571), some (.int (jn i)), l5, l6, l7, l8] [] h Q := by
  obtain ⟨N0, u0, H0, hr0, s0, E0, J0⟩ := Y
  have A0 := J0.AS
  refine mj_T.pl rfl rfl rfl rfl ?_
  refine jL.arg (k := 1) I.2.1 hi hL ⟨by decide, by decide⟩ rfl rfl rfl rfl rfl ?_
  refine jT.asJ ?_
  refine mj_T.eq (pc2 := 1583) ?_ rfl rfl rfl rfl
  refine mj_T.pl rfl rfl rfl rfl ?_
  refine mj_T.call rfl rfl (Nat.le_of_ble_eq_true rfl) (Nat.le_of_ble_eq_true rfl) rfl rfl (mj_Ok.up (by decide) (mj_Ok.and (mj_Ok.up (by decide) ((jw_337 (D := 0) cTY I.1 ck0.2 (jr_of' _)).qt rfl)) (jy_337 I.1 (jr_of' _) (yr_133 A0 s0 I.1 (jr_of' _))))) (fun v h1 hq => ?_) (fun i' h1 hq => by obtain ⟨hq, _⟩ := hq; obtain ⟨hq, _⟩ := hq; exact (by obtain ⟨_, hq, _⟩ := hq; cases hq))
  obtain ⟨hq, qy⟩ := hq
  obtain ⟨hq, qx⟩ := hq
  have X1 := X.qt qx
  obtain ⟨z, hv, ⟨n1, hn1, hn2, w1⟩, f1⟩ := hq
  cases hv
  have I1 := I.cls jZ_pl w1 hn1 f1
  have E1 := E0.frame jZ_pl f1 (by have e1 := I.1.1.1; have e2 := w1.1.1; have e3 := hn1; omega)
  refine mj_T.pl (loc' := [some (.ref 0), some (.ref 1), some (.ref 563), some (.ref 571), some (.int (jn i)), some (.int (jn z)), l6, l7, l8]) rfl rfl rfl rfl ?_
  refine mj_T.pl rfl rfl rfl rfl ?_
  refine jL.arg (k := 1) I1.2.1 hi hL ⟨by decide, by decide⟩ rfl rfl rfl rfl rfl ?_
  refine jT.asJ ?_
  refine mj_T.eq (pc2 := 1596) ?_ rfl rfl rfl rfl
  obtain ⟨fs, ho⟩ := I1.obj
  refine mj_T.call rfl rfl (Nat.le_of_ble_eq_true rfl) (Nat.le_of_ble_eq_true rfl) (by simp [mj_recv, ho]) rfl (mj_Ok.up (by decide) (mj_Ok.and (mj_Ok.up (by decide) ((I1.callI jZ_pl (fun hr hI => rp_sturmLength (jr_of _) hI) (fun N => rfl)).qt rfl)) (YX.call (tm' := tm) (er' := er) (T' := T) E1 qy (sameQ.ag _ _ _) ((rx_sturmLength (jr_of _) J0).to (fun r k => rIx.z k ⟨rfl, rfl, rfl⟩)) (fun N => rfl)))) (fun v h2 hq => ?_) (fun i' h2 hq => by obtain ⟨hq, _⟩ := hq; obtain ⟨hq, _⟩ := hq; exact (by obtain ⟨_, hq, _⟩ := hq; cases hq))
  obtain ⟨hq, Y2⟩ := hq
  obtain ⟨hq, qx⟩ := hq
  have X2 := X1.qt qx
  obtain ⟨z2, hv, I2⟩ := hq
  cases hv
  refine mj_T.pl (loc' := [some (.ref 0), some (.ref 1), some (.ref 563), some (.ref 571), some (.int (jn i)), some (.int (jn z)), some (.int (jn z2)), l7, l8]) rfl rfl rfl rfl ?_
  refine mj_T.pl rfl rfl rfl rfl ?_
  exact k n1 tm er T h2 _ _ _ _ hn1 hn2 I2 X2 Y2
theorem jL_32 {n Lx : Nat} {xs : Nat → Int32} {tm er i : Int} {T : Nat → Int} {h : mj_H} {l5 l6 l7 l8 : Option Value} {Q : mj_R → Prop} (hi : 0 ≤ i ∧ i + 6 ≤ Lx) (hL : Lx ≤ 3072) (I : jLi cK cL cR (.inl (100, Lx, fun j => .int (xs j))) 571 563 n tm er T h) (X : jcx er tm T h) (Y : YX tm er T h) (k : ∀ (n' : Nat) (tm' er' : Int) (T' : Nat → Int) (h' : mj_H) (l5 l6 l7 l8 : Option Value), n ≤ n' → n' ≤ n + 1 → jLi cK cL cR (.inl (100, Lx, fun j => .int (xs j))) 571 563 n' tm' er' T' h' → jcx er' tm' T' h' → YX tm' er' T' h' → mj_T 100 mj_mK 2072 [some (.ref 0), some (.ref 1), some (.ref 563), some (.ref 571), some (.int (jn i)), l5, l6, l7, l8] [] h' Q) : mj_T 100 mj_mK 1604 [some (.ref 0), some (.ref 1), some (.ref 563), some (.ref 571), some (.int (jn i)), l5, l6, l7, l8] [] h Q := by
  obtain ⟨N0, u0, H0, hr0, s0, E0, J0⟩ := Y
  have A0 := J0.AS
  refine mj_T.pl rfl rfl rfl rfl ?_
  refine jL.arg (k := 1) I.2.1 hi hL ⟨by decide, by decide⟩ rfl rfl rfl rfl rfl ?_
  refine jT.asJ ?_
  refine mj_T.eq (pc2 := 1611) ?_ rfl rfl rfl rfl
  refine jL.arg (k := 2) I.2.1 hi hL ⟨by decide, by decide⟩ rfl rfl rfl rfl rfl ?_
  refine jT.asJ ?_
  refine mj_T.eq (pc2 := 1617) ?_ rfl rfl rfl rfl
  refine jL.arg (k := 3) I.2.1 hi hL ⟨by decide, by decide⟩ rfl rfl rfl rfl rfl ?_
  refine jT.asJ ?_
  refine mj_T.eq (pc2 := 1623) ?_ rfl rfl rfl rfl
  refine mj_T.pl rfl rfl rfl rfl ?_
  refine mj_T.call rfl rfl (Nat.le_of_ble_eq_true rfl) (Nat.le_of_ble_eq_true rfl) rfl rfl (mj_Ok.up (by decide) (mj_Ok.and (mj_Ok.up (by decide) ((jw_338 (D := 0) cTY I.1 ck0.2 (jr_of' _) (jr_of' _) (jr_of' _)).qt rfl)) (jy_338 I.1 (jr_of' _) (jr_of' _) (jr_of' _) (yr_134 A0 s0 I.1 (jr_of' _) (jr_of' _) (jr_of' _))))) (fun v h1 hq => ?_) (fun i' h1 hq => by obtain ⟨hq, _⟩ := hq; obtain ⟨hq, _⟩ := hq; exact (by obtain ⟨_, hq, _⟩ := hq; cases hq))
  obtain ⟨hq, qy⟩ := hq
  obtain ⟨hq, qx⟩ := hq
  have X1 := X.qt qx
  obtain ⟨z, hv, ⟨n1, hn1, hn2, w1⟩, f1⟩ := hq
  cases hv
  have I1 := I.cls jZ_pl w1 hn1 f1
  have E1 := E0.frame jZ_pl f1 (by have e1 := I.1.1.1; have e2 := w1.1.1; have e3 := hn1; omega)
  refine mj_T.pl (loc' := [some (.ref 0), some (.ref 1), some (.ref 563), some (.ref 571), some (.int (jn i)), some (.int (jn z)), l6, l7, l8]) rfl rfl rfl rfl ?_
  refine mj_T.pl rfl rfl rfl rfl ?_
  refine jL.arg (k := 1) I1.2.1 hi hL ⟨by decide, by decide⟩ rfl rfl rfl rfl rfl ?_
  refine jT.asJ ?_
  refine mj_T.eq (pc2 := 1636) ?_ rfl rfl rfl rfl
  refine jL.arg (k := 2) I1.2.1 hi hL ⟨by decide, by decide⟩ rfl rfl rfl rfl rfl ?_
  refine jT.asJ ?_
  refine mj_T.eq (pc2 := 1642) ?_ rfl rfl rfl rfl
  refine jL.arg (k := 3) I1.2.1 hi hL ⟨by decide, by decide⟩ rfl rfl rfl rfl rfl ?_
  refine jT.asJ ?_
  refine mj_T.eq (pc2 := 1648) ?_ rfl rfl rfl rfl
  obtain ⟨fs, ho⟩ := I1.obj
  refine mj_T.call rfl rfl (Nat.le_of_ble_eq_true rfl) (Nat.le_of_ble_eq_true rfl) (by simp [mj_recv, ho]) rfl (mj_Ok.up (by decide) (mj_Ok.and (mj_Ok.up (by decide) ((I1.callI jZ_pl (fun hr hI => rp_changes (jr_of _) (jr_of _) (jr_of _) hI) (fun N => rfl)).qt rfl)) (YX.call (tm' := tm) (er' := er) (T' := T) E1 qy (sameQ.ag _ _ _) ((rx_changes (jr_of _) (jr_of _) (jr_of _) J0).to (fun r k => rIx.z k ⟨rfl, rfl, rfl⟩)) (fun N => rfl)))) (fun v h2 hq => ?_) (fun i' h2 hq => by obtain ⟨hq, _⟩ := hq; obtain ⟨hq, _⟩ := hq; exact (by obtain ⟨_, hq, _⟩ := hq; cases hq))
  obtain ⟨hq, Y2⟩ := hq
  obtain ⟨hq, qx⟩ := hq
  have X2 := X1.qt qx
  obtain ⟨z2, hv, I2⟩ := hq
  cases hv
  refine mj_T.pl (loc' := [some (.ref 0), some (.ref 1), some (.ref 563), some (.ref 571), some (.int (jn i)), some (.int (jn z)), some (.int (jn z2)), l7, l8]) rfl rfl rfl rfl ?_
  refine mj_T.pl rfl rfl rfl rfl ?_
  exact k n1 tm er T h2 _ _ _ _ hn1 hn2 I2 X2 Y2
theorem jL_33 {n Lx : Nat} {xs : Nat → Int32} {tm er i : Int} {T : Nat → Int} {h : mj_H} {l5 l6 l7 l8 : Option Value} {Q : mj_R → Prop} (hi : 0 ≤ i ∧ i + 6 ≤ Lx) (hL : Lx ≤ 3072) (I : jLi cK cL cR (.inl (100, Lx, fun j => .int (xs j))) 571 563 n tm er T h) (X : jcx er tm T h) (Y : YX tm er T h) (k : ∀ (n' : Nat) (tm' er' : Int) (T' : Nat → Int) (h' : mj_H) (l5 l6 l7 l8 : Option Value), n ≤ n' → n' ≤ n + 1 → jLi cK cL cR (.inl (100, Lx, fun j => .int (xs j))) 571 563 n' tm' er' T' h' → jcx er' tm' T' h' → YX tm' er' T' h' → mj_T 100 mj_mK 2072 [some (.ref 0), some (.ref 1), some (.ref 563), some (.ref 571), some (.int (jn i)), l5, l6, l7, l8] [] h' Q) : mj_T 100 mj_mK 1656 [some (.ref 0), some (.ref 1), some (.ref 563), some (.ref 571), some (.int (jn i)), l5, l6, l7, l8] [] h Q := by
  obtain ⟨N0, u0, H0, hr0, s0, E0, J0⟩ := Y
  have A0 := J0.AS
  refine mj_T.pl rfl rfl rfl rfl ?_
  refine jL.arg (k := 1) I.2.1 hi hL ⟨by decide, by decide⟩ rfl rfl rfl rfl rfl ?_
  refine jT.asJ ?_
  refine mj_T.eq (pc2 := 1663) ?_ rfl rfl rfl rfl
  refine jL.arg (k := 2) I.2.1 hi hL ⟨by decide, by decide⟩ rfl rfl rfl rfl rfl ?_
  refine jT.asJ ?_
  refine mj_T.eq (pc2 := 1669) ?_ rfl rfl rfl rfl
  refine jL.arg (k := 3) I.2.1 hi hL ⟨by decide, by decide⟩ rfl rfl rfl rfl rfl ?_
  refine jT.asJ ?_
  refine mj_T.eq (pc2 := 1675) ?_ rfl rfl rfl rfl
  refine mj_T.pl rfl rfl rfl rfl ?_
  refine mj_T.call rfl rfl (Nat.le_of_ble_eq_true rfl) (Nat.le_of_ble_eq_true rfl) rfl rfl (mj_Ok.up (by decide) (mj_Ok.and (mj_Ok.up (by decide) ((jw_339 (D := 0) cTY I.1 ck0.2 (jr_of' _) (jr_of' _) (jr_of' _)).qt rfl)) (jy_339 I.1 (jr_of' _) (jr_of' _) (jr_of' _) (yr_135 A0 s0 I.1 (jr_of' _) (jr_of' _) (jr_of' _))))) (fun v h1 hq => ?_) (fun i' h1 hq => by obtain ⟨hq, _⟩ := hq; obtain ⟨hq, _⟩ := hq; exact (by obtain ⟨_, hq, _⟩ := hq; cases hq))
  obtain ⟨hq, qy⟩ := hq
  obtain ⟨hq, qx⟩ := hq
  have X1 := X.qt qx
  obtain ⟨z, hv, ⟨n1, hn1, hn2, w1⟩, f1⟩ := hq
  cases hv
  have I1 := I.cls jZ_pl w1 hn1 f1
  have E1 := E0.frame jZ_pl f1 (by have e1 := I.1.1.1; have e2 := w1.1.1; have e3 := hn1; omega)
  refine mj_T.pl (loc' := [some (.ref 0), some (.ref 1), some (.ref 563), some (.ref 571), some (.int (jn i)), some (.int (jn z)), l6, l7, l8]) rfl rfl rfl rfl ?_
  refine mj_T.pl rfl rfl rfl rfl ?_
  refine jL.arg (k := 1) I1.2.1 hi hL ⟨by decide, by decide⟩ rfl rfl rfl rfl rfl ?_
  refine jT.asJ ?_
  refine mj_T.eq (pc2 := 1688) ?_ rfl rfl rfl rfl
  refine jL.arg (k := 2) I1.2.1 hi hL ⟨by decide, by decide⟩ rfl rfl rfl rfl rfl ?_
  refine jT.asJ ?_
  refine mj_T.eq (pc2 := 1694) ?_ rfl rfl rfl rfl
  refine jL.arg (k := 3) I1.2.1 hi hL ⟨by decide, by decide⟩ rfl rfl rfl rfl rfl ?_
  refine jT.asJ ?_
  refine mj_T.eq (pc2 := 1700) ?_ rfl rfl rfl rfl
  obtain ⟨fs, ho⟩ := I1.obj
  refine mj_T.call rfl rfl (Nat.le_of_ble_eq_true rfl) (Nat.le_of_ble_eq_true rfl) (by simp [mj_recv, ho]) rfl (mj_Ok.up (by decide) (mj_Ok.and (mj_Ok.up (by decide) ((I1.callI jZ_pl (fun hr hI => rp_closeIn (jr_of _) (jr_of _) (jr_of _) hI) (fun N => rfl)).qt rfl)) (YX.call (tm' := tm) (er' := er) (T' := T) E1 qy (sameQ.ag _ _ _) ((rx_closeIn (jr_of _) (jr_of _) (jr_of _) J0).to (fun r k => rIx.z k ⟨rfl, rfl, rfl⟩)) (fun N => rfl)))) (fun v h2 hq => ?_) (fun i' h2 hq => by obtain ⟨hq, _⟩ := hq; obtain ⟨hq, _⟩ := hq; exact (by obtain ⟨_, hq, _⟩ := hq; cases hq))
  obtain ⟨hq, Y2⟩ := hq
  obtain ⟨hq, qx⟩ := hq
  have X2 := X1.qt qx
  obtain ⟨z2, hv, I2⟩ := hq
  cases hv
  refine mj_T.pl (loc' := [some (.ref 0), some (.ref 1), some (.ref 563), some (.ref 571), some (.int (jn i)), some (.int (jn z)), some (.int (jn z2)), l7, l8]) rfl rfl rfl rfl ?_
  refine mj_T.pl rfl rfl rfl rfl ?_
  exact k n1 tm er T h2 _ _ _ _ hn1 hn2 I2 X2 Y2
theorem jL_34 {n Lx : Nat} {xs : Nat → Int32} {tm er i : Int} {T : Nat → Int} {h : mj_H} {l5 l6 l7 l8 : Option Value} {Q : mj_R → Prop} (hi : 0 ≤ i ∧ i + 6 ≤ Lx) (hL : Lx ≤ 3072) (I : jLi cK cL cR (.inl (100, Lx, fun j => .int (xs j))) 571 563 n tm er T h) (X : jcx er tm T h) (Y : YX tm er T h) (k : ∀ (n' : Nat) (tm' er' : Int) (T' : Nat → Int) (h' : mj_H) (l5 l6 l7 l8 : Option Value), n ≤ n' → n' ≤ n + 1 → jLi cK cL cR (.inl (100, Lx, fun j => .int (xs j))) 571 563 n' tm' er' T' h' → jcx er' tm' T' h' → YX tm' er' T' h' → mj_T 100 mj_mK 2072 [some (.ref 0), some (.ref 1), some (.ref 563), some (.ref 571), some (.int (jn i)), l5, l6, l7, l8] [] h' Q) : mj_T 100 mj_mK 1708 [some (.ref 0), some (.ref 1), some (.ref 563), some (.ref 571), some (.int (jn i)), l5, l6, l7, l8] [] h Q := by
  obtain ⟨N0, u0, H0, hr0, s0, E0, J0⟩ := Y
  have A0 := J0.AS
  refine mj_T.pl rfl rfl rfl rfl ?_
  refine jL.arg (k := 1) I.2.1 hi hL ⟨by decide, by decide⟩ rfl rfl rfl rfl rfl ?_
  refine jT.asJ ?_
  refine mj_T.eq (pc2 := 1715) ?_ rfl rfl rfl rfl
  refine mj_T.pl rfl rfl rfl rfl ?_
  refine mj_T.call rfl rfl (Nat.le_of_ble_eq_true rfl) (Nat.le_of_ble_eq_true rfl) rfl rfl (mj_Ok.up (by decide) (mj_Ok.and (mj_Ok.up (by decide) ((jw_340 (D := 0) cTY I.1 ck0.2 (jr_of' _)).qt rfl)) (jy_340 I.1 (jr_of' _) (yr_136 A0 s0 I.1 (jr_of' _))))) (fun v h1 hq => ?_) (fun i' h1 hq => by obtain ⟨hq, _⟩ := hq; obtain ⟨hq, _⟩ := hq; exact (by obtain ⟨_, hq, _⟩ := hq; cases hq))
  obtain ⟨hq, qy⟩ := hq
  obtain ⟨hq, qx⟩ := hq
  have X1 := X.qt qx
  obtain ⟨z, hv, ⟨n1, hn1, hn2, w1⟩, f1⟩ := hq
  cases hv
  have I1 := I.cls jZ_pl w1 hn1 f1
  have E1 := E0.frame jZ_pl f1 (by have e1 := I.1.1.1; have e2 := w1.1.1; have e3 := hn1; omega)
  refine mj_T.pl (loc' := [some (.ref 0), some (.ref 1), some (.ref 563), some (.ref 571), some (.int (jn i)), some (.int (jn z)), l6, l7, l8]) rfl rfl rfl rfl ?_
  refine mj_T.pl rfl rfl rfl rfl ?_
  refine jL.arg (k := 1) I1.2.1 hi hL ⟨by decide, by decide⟩ rfl rfl rfl rfl rfl ?_
  refine jT.asJ ?_
  refine mj_T.eq (pc2 := 1728) ?_ rfl rfl rfl rfl
  obtain ⟨fs, ho⟩ := I1.obj
  refine mj_T.call rfl rfl (Nat.le_of_ble_eq_true rfl) (Nat.le_of_ble_eq_true rfl) (by simp [mj_recv, ho]) rfl (mj_Ok.up (by decide) (mj_Ok.and (mj_Ok.up (by decide) ((I1.callI jZ_pl (fun hr hI => rp_fractionRoots (jr_of _) hI) (fun N => rfl)).qt rfl)) (YX.call (tm' := tm) (er' := er) (T' := T) E1 qy (sameQ.ag _ _ _) ((rx_fractionRoots (jr_of _) J0).to (fun r k => rIx.z k ⟨rfl, rfl, rfl⟩)) (fun N => rfl)))) (fun v h2 hq => ?_) (fun i' h2 hq => by obtain ⟨hq, _⟩ := hq; obtain ⟨hq, _⟩ := hq; exact (by obtain ⟨_, hq, _⟩ := hq; cases hq))
  obtain ⟨hq, Y2⟩ := hq
  obtain ⟨hq, qx⟩ := hq
  have X2 := X1.qt qx
  obtain ⟨z2, hv, I2⟩ := hq
  cases hv
  refine mj_T.pl (loc' := [some (.ref 0), some (.ref 1), some (.ref 563), some (.ref 571), some (.int (jn i)), some (.int (jn z)), some (.int (jn z2)), l7, l8]) rfl rfl rfl rfl ?_
  refine mj_T.pl rfl rfl rfl rfl ?_
  exact k n1 tm er T h2 _ _ _ _ hn1 hn2 I2 X2 Y2
theorem jL_35 {n Lx : Nat} {xs : Nat → Int32} {tm er i : Int} {T : Nat → Int} {h : mj_H} {l5 l6 l7 l8 : Option Value} {Q : mj_R → Prop} (hi : 0 ≤ i ∧ i + 6 ≤ Lx) (hL : Lx ≤ 3072) (I : jLi cK cL cR (.inl (100, Lx, fun j => .int (xs j))) 571 563 n tm er T h) (X : jcx er tm T h) (Y : YX tm er T h) (k : ∀ (n' : Nat) (tm' er' : Int) (T' : Nat → Int) (h' : mj_H) (l5 l6 l7 l8 : Option Value), n ≤ n' → n' ≤ n + 1 → jLi cK cL cR (.inl (100, Lx, fun j => .int (xs j))) 571 563 n' tm' er' T' h' → jcx er' tm' T' h' → YX tm' er' T' h' → mj_T 100 mj_mK 2072 [some (.ref 0), some (.ref 1), some (.ref 563), some (.ref 571), some (.int (jn i)), l5, l6, l7, l8] [] h' Q) : mj_T 100 mj_mK 1736 [some (.ref 0), some (.ref 1), some (.ref 563), some (.ref 571), some (.int (jn i)), l5, l6, l7, l8] [] h Q := by
  obtain ⟨N0, u0, H0, hr0, s0, E0, J0⟩ := Y
  have A0 := J0.AS
  refine mj_T.pl rfl rfl rfl rfl ?_
  refine jL.arg (k := 1) I.2.1 hi hL ⟨by decide, by decide⟩ rfl rfl rfl rfl rfl ?_
  refine jT.asJ ?_
  refine mj_T.eq (pc2 := 1743) ?_ rfl rfl rfl rfl
  refine jL.arg (k := 2) I.2.1 hi hL ⟨by decide, by decide⟩ rfl rfl rfl rfl rfl ?_
  refine jT.asJ ?_
  refine mj_T.eq (pc2 := 1749) ?_ rfl rfl rfl rfl
  refine mj_T.pl rfl rfl rfl rfl ?_
  refine mj_T.call rfl rfl (Nat.le_of_ble_eq_true rfl) (Nat.le_of_ble_eq_true rfl) rfl rfl (mj_Ok.up (by decide) (mj_Ok.and (mj_Ok.up (by decide) ((jw_341 (D := 0) cTY I.1 ck0.2 (jr_of' _) (jr_of' _)).qt rfl)) (jy_341 I.1 (jr_of' _) (jr_of' _) (yr_137 A0 s0 I.1 (jr_of' _) (jr_of' _))))) (fun v h1 hq => ?_) (fun i' h1 hq => by obtain ⟨hq, _⟩ := hq; obtain ⟨hq, _⟩ := hq; exact (by obtain ⟨_, hq, _⟩ := hq; cases hq))
  obtain ⟨hq, qy⟩ := hq
  obtain ⟨hq, qx⟩ := hq
  have X1 := X.qt qx
  obtain ⟨z, hv, ⟨n1, hn1, hn2, w1⟩, f1⟩ := hq
  cases hv
  have I1 := I.cls jZ_pl w1 hn1 f1
  have E1 := E0.frame jZ_pl f1 (by have e1 := I.1.1.1; have e2 := w1.1.1; have e3 := hn1; omega)
  refine mj_T.pl (loc' := [some (.ref 0), some (.ref 1), some (.ref 563), some (.ref 571), some (.int (jn i)), some (.int (jn z)), l6, l7, l8]) rfl rfl rfl rfl ?_
  refine mj_T.pl rfl rfl rfl rfl ?_
  refine jL.arg (k := 1) I1.2.1 hi hL ⟨by decide, by decide⟩ rfl rfl rfl rfl rfl ?_
  refine jT.asJ ?_
  refine mj_T.eq (pc2 := 1762) ?_ rfl rfl rfl rfl
  refine jL.arg (k := 2) I1.2.1 hi hL ⟨by decide, by decide⟩ rfl rfl rfl rfl rfl ?_
  refine jT.asJ ?_
  refine mj_T.eq (pc2 := 1768) ?_ rfl rfl rfl rfl
  obtain ⟨fs, ho⟩ := I1.obj
  refine mj_T.call rfl rfl (Nat.le_of_ble_eq_true rfl) (Nat.le_of_ble_eq_true rfl) (by simp [mj_recv, ho]) rfl (mj_Ok.up (by decide) (mj_Ok.and (mj_Ok.up (by decide) ((I1.callI jZ_pl (fun hr hI => rp_fractionRoot (jr_of _) (jr_of _) hI) (fun N => rfl)).qt rfl)) (YX.call (tm' := tm) (er' := er) (T' := T) E1 qy (sameQ.ag _ _ _) ((rx_fractionRoot (jr_of _) (jr_of _) J0).to (fun r k => rIx.z k ⟨rfl, rfl, rfl⟩)) (fun N => rfl)))) (fun v h2 hq => ?_) (fun i' h2 hq => by obtain ⟨hq, _⟩ := hq; obtain ⟨hq, _⟩ := hq; exact (by obtain ⟨_, hq, _⟩ := hq; cases hq))
  obtain ⟨hq, Y2⟩ := hq
  obtain ⟨hq, qx⟩ := hq
  have X2 := X1.qt qx
  obtain ⟨z2, hv, I2⟩ := hq
  cases hv
  refine mj_T.pl (loc' := [some (.ref 0), some (.ref 1), some (.ref 563), some (.ref 571), some (.int (jn i)), some (.int (jn z)), some (.int (jn z2)), l7, l8]) rfl rfl rfl rfl ?_
  refine mj_T.pl rfl rfl rfl rfl ?_
  exact k n1 tm er T h2 _ _ _ _ hn1 hn2 I2 X2 Y2
theorem jL_36 {n Lx : Nat} {xs : Nat → Int32} {tm er i : Int} {T : Nat → Int} {h : mj_H} {l5 l6 l7 l8 : Option Value} {Q : mj_R → Prop} (hi : 0 ≤ i ∧ i + 6 ≤ Lx) (hL : Lx ≤ 3072) (I : jLi cK cL cR (.inl (100, Lx, fun j => .int (xs j))) 571 563 n tm er T h) (X : jcx er tm T h) (Y : YX tm er T h) (k : ∀ (n' : Nat) (tm' er' : Int) (T' : Nat → Int) (h' : mj_H) (l5 l6 l7 l8 : Option Value), n ≤ n' → n' ≤ n + 1 → jLi cK cL cR (.inl (100, Lx, fun j => .int (xs j))) 571 563 n' tm' er' T' h' → jcx er' tm' T' h' → YX tm' er' T' h' → mj_T 100 mj_mK 2072 [some (.ref 0), some (.ref 1), some (.ref 563), some (.ref 571), some (.int (jn i)), l5, l6, l7, l8] [] h' Q) : mj_T 100 mj_mK 1776 [some (.ref 0), some (.ref 1), some (.ref 563), some (.ref 571), some (.int (jn i)), l5, l6, l7, l8] [] h Q := by
  obtain ⟨N0, u0, H0, hr0, s0, E0, J0⟩ := Y
  have A0 := J0.AS
  refine mj_T.pl rfl rfl rfl rfl ?_
  refine jL.arg (k := 1) I.2.1 hi hL ⟨by decide, by decide⟩ rfl rfl rfl rfl rfl ?_
  refine jT.asJ ?_
  refine mj_T.eq (pc2 := 1783) ?_ rfl rfl rfl rfl
  refine jL.arg (k := 2) I.2.1 hi hL ⟨by decide, by decide⟩ rfl rfl rfl rfl rfl ?_
  refine jT.asJ ?_
  refine mj_T.eq (pc2 := 1789) ?_ rfl rfl rfl rfl
  refine mj_T.pl rfl rfl rfl rfl ?_
  refine mj_T.call rfl rfl (Nat.le_of_ble_eq_true rfl) (Nat.le_of_ble_eq_true rfl) rfl rfl (mj_Ok.up (by decide) (mj_Ok.and (mj_Ok.up (by decide) ((jw_342 (D := 0) cTY I.1 ck0.2 (jr_of' _) (jr_of' _)).qt rfl)) (jy_342 I.1 (jr_of' _) (jr_of' _) (yr_138 A0 s0 I.1 (jr_of' _) (jr_of' _))))) (fun v h1 hq => ?_) (fun i' h1 hq => by obtain ⟨hq, _⟩ := hq; obtain ⟨hq, _⟩ := hq; exact (by obtain ⟨_, hq, _⟩ := hq; cases hq))
  obtain ⟨hq, qy⟩ := hq
  obtain ⟨hq, qx⟩ := hq
  have X1 := X.qt qx
  obtain ⟨z, hv, ⟨n1, hn1, hn2, w1⟩, f1⟩ := hq
  cases hv
  have I1 := I.cls jZ_pl w1 hn1 f1
  have E1 := E0.frame jZ_pl f1 (by have e1 := I.1.1.1; have e2 := w1.1.1; have e3 := hn1; omega)
  refine mj_T.pl (loc' := [some (.ref 0), some (.ref 1), some (.ref 563), some (.ref 571), some (.int (jn i)), some (.int (jn z)), l6, l7, l8]) rfl rfl rfl rfl ?_
  refine mj_T.pl rfl rfl rfl rfl ?_
  refine jL.arg (k := 1) I1.2.1 hi hL ⟨by decide, by decide⟩ rfl rfl rfl rfl rfl ?_
  refine jT.asJ ?_
  refine mj_T.eq (pc2 := 1802) ?_ rfl rfl rfl rfl
  refine jL.arg (k := 2) I1.2.1 hi hL ⟨by decide, by decide⟩ rfl rfl rfl rfl rfl ?_
  refine jT.asJ ?_
  refine mj_T.eq (pc2 := 1808) ?_ rfl rfl rfl rfl
  obtain ⟨fs, ho⟩ := I1.obj
  refine mj_T.call rfl rfl (Nat.le_of_ble_eq_true rfl) (Nat.le_of_ble_eq_true rfl) (by simp [mj_recv, ho]) rfl (mj_Ok.up (by decide) (mj_Ok.and (mj_Ok.up (by decide) ((I1.callI jZ_pl (fun hr hI => rp_rootsBy (jr_of _) (jr_of _) hI) (fun N => rfl)).qt rfl)) (YX.call (tm' := tm) (er' := er) (T' := T) E1 qy (sameQ.ag _ _ _) ((rx_rootsBy (jr_of _) (jr_of _) J0).to (fun r k => rIx.z k ⟨rfl, rfl, rfl⟩)) (fun N => rfl)))) (fun v h2 hq => ?_) (fun i' h2 hq => by obtain ⟨hq, _⟩ := hq; obtain ⟨hq, _⟩ := hq; exact (by obtain ⟨_, hq, _⟩ := hq; cases hq))
  obtain ⟨hq, Y2⟩ := hq
  obtain ⟨hq, qx⟩ := hq
  have X2 := X1.qt qx
  obtain ⟨z2, hv, I2⟩ := hq
  cases hv
  refine mj_T.pl (loc' := [some (.ref 0), some (.ref 1), some (.ref 563), some (.ref 571), some (.int (jn i)), some (.int (jn z)), some (.int (jn z2)), l7, l8]) rfl rfl rfl rfl ?_
  refine mj_T.pl rfl rfl rfl rfl ?_
  exact k n1 tm er T h2 _ _ _ _ hn1 hn2 I2 X2 Y2
theorem jL_37 {n Lx : Nat} {xs : Nat → Int32} {tm er i : Int} {T : Nat → Int} {h : mj_H} {l5 l6 l7 l8 : Option Value} {Q : mj_R → Prop} (hi : 0 ≤ i ∧ i + 6 ≤ Lx) (hL : Lx ≤ 3072) (I : jLi cK cL cR (.inl (100, Lx, fun j => .int (xs j))) 571 563 n tm er T h) (X : jcx er tm T h) (Y : YX tm er T h) (k : ∀ (n' : Nat) (tm' er' : Int) (T' : Nat → Int) (h' : mj_H) (l5 l6 l7 l8 : Option Value), n ≤ n' → n' ≤ n + 1 → jLi cK cL cR (.inl (100, Lx, fun j => .int (xs j))) 571 563 n' tm' er' T' h' → jcx er' tm' T' h' → YX tm' er' T' h' → mj_T 100 mj_mK 2072 [some (.ref 0), some (.ref 1), some (.ref 563), some (.ref 571), some (.int (jn i)), l5, l6, l7, l8] [] h' Q) : mj_T 100 mj_mK 1816 [some (.ref 0), some (.ref 1), some (.ref 563), some (.ref 571), some (.int (jn i)), l5, l6, l7, l8] [] h Q := by
  obtain ⟨N0, u0, H0, hr0, s0, E0, J0⟩ := Y
  have A0 := J0.AS
  refine mj_T.pl rfl rfl rfl rfl ?_
  refine jL.arg (k := 1) I.2.1 hi hL ⟨by decide, by decide⟩ rfl rfl rfl rfl rfl ?_
  refine jT.asJ ?_
  refine mj_T.eq (pc2 := 1823) ?_ rfl rfl rfl rfl
  refine jL.arg (k := 2) I.2.1 hi hL ⟨by decide, by decide⟩ rfl rfl rfl rfl rfl ?_
  refine jT.asJ ?_
  refine mj_T.eq (pc2 := 1829) ?_ rfl rfl rfl rfl
  refine mj_T.pl rfl rfl rfl rfl ?_
  refine mj_T.call rfl rfl (Nat.le_of_ble_eq_true rfl) (Nat.le_of_ble_eq_true rfl) rfl rfl (mj_Ok.up (by decide) (mj_Ok.and (mj_Ok.up (by decide) ((jw_343 (D := 0) cTY I.1 ck0.2 (jr_of' _) (jr_of' _)).qt rfl)) (jy_343 I.1 (jr_of' _) (jr_of' _) (yr_139 A0 s0 I.1 (jr_of' _) (jr_of' _))))) (fun v h1 hq => ?_) (fun i' h1 hq => by obtain ⟨hq, _⟩ := hq; obtain ⟨hq, _⟩ := hq; exact (by obtain ⟨_, hq, _⟩ := hq; cases hq))
  obtain ⟨hq, qy⟩ := hq
  obtain ⟨hq, qx⟩ := hq
  have X1 := X.qt qx
  obtain ⟨z, hv, ⟨n1, hn1, hn2, w1⟩, f1⟩ := hq
  cases hv
  have I1 := I.cls jZ_pl w1 hn1 f1
  have E1 := E0.frame jZ_pl f1 (by have e1 := I.1.1.1; have e2 := w1.1.1; have e3 := hn1; omega)
  refine mj_T.pl (loc' := [some (.ref 0), some (.ref 1), some (.ref 563), some (.ref 571), some (.int (jn i)), some (.int (jn z)), l6, l7, l8]) rfl rfl rfl rfl ?_
  refine mj_T.pl rfl rfl rfl rfl ?_
  refine jL.arg (k := 1) I1.2.1 hi hL ⟨by decide, by decide⟩ rfl rfl rfl rfl rfl ?_
  refine jT.asJ ?_
  refine mj_T.eq (pc2 := 1842) ?_ rfl rfl rfl rfl
  refine jL.arg (k := 2) I1.2.1 hi hL ⟨by decide, by decide⟩ rfl rfl rfl rfl rfl ?_
  refine jT.asJ ?_
  refine mj_T.eq (pc2 := 1848) ?_ rfl rfl rfl rfl
  obtain ⟨fs, ho⟩ := I1.obj
  refine mj_T.call rfl rfl (Nat.le_of_ble_eq_true rfl) (Nat.le_of_ble_eq_true rfl) (by simp [mj_recv, ho]) rfl (mj_Ok.up (by decide) (mj_Ok.and (mj_Ok.up (by decide) ((I1.callI jZ_pl (fun hr hI => rp_rootBy (jr_of _) (jr_of _) hI) (fun N => rfl)).qt rfl)) (YX.call (tm' := tm) (er' := er) (T' := T) E1 qy (sameQ.ag _ _ _) ((rx_rootBy (jr_of _) (jr_of _) J0).to (fun r k => rIx.z k ⟨rfl, rfl, rfl⟩)) (fun N => rfl)))) (fun v h2 hq => ?_) (fun i' h2 hq => by obtain ⟨hq, _⟩ := hq; obtain ⟨hq, _⟩ := hq; exact (by obtain ⟨_, hq, _⟩ := hq; cases hq))
  obtain ⟨hq, Y2⟩ := hq
  obtain ⟨hq, qx⟩ := hq
  have X2 := X1.qt qx
  obtain ⟨z2, hv, I2⟩ := hq
  cases hv
  refine mj_T.pl (loc' := [some (.ref 0), some (.ref 1), some (.ref 563), some (.ref 571), some (.int (jn i)), some (.int (jn z)), some (.int (jn z2)), l7, l8]) rfl rfl rfl rfl ?_
  refine mj_T.pl rfl rfl rfl rfl ?_
  exact k n1 tm er T h2 _ _ _ _ hn1 hn2 I2 X2 Y2
theorem jL_42 {n Lx : Nat} {xs : Nat → Int32} {tm er i : Int} {T : Nat → Int} {h : mj_H} {l5 l6 l7 l8 : Option Value} {Q : mj_R → Prop} (hi : 0 ≤ i ∧ i + 6 ≤ Lx) (hL : Lx ≤ 3072) (I : jLi cK cL cR (.inl (100, Lx, fun j => .int (xs j))) 571 563 n tm er T h) (X : jcx er tm T h) (Y : YX tm er T h) (k : ∀ (n' : Nat) (tm' er' : Int) (T' : Nat → Int) (h' : mj_H) (l5 l6 l7 l8 : Option Value), n ≤ n' → n' ≤ n + 1 → jLi cK cL cR (.inl (100, Lx, fun j => .int (xs j))) 571 563 n' tm' er' T' h' → jcx er' tm' T' h' → YX tm' er' T' h' → mj_T 100 mj_mK 2072 [some (.ref 0), some (.ref 1), some (.ref 563), some (.ref 571), some (.int (jn i)), l5, l6, l7, l8] [] h' Q) : mj_T 100 mj_mK 1971 [some (.ref 0), some (.ref 1), some (.ref 563), some (.ref 571), some (.int (jn i)), l5, l6, l7, l8] [] h Q := by
  obtain ⟨N0, u0, H0, hr0, s0, E0, J0⟩ := Y
  have A0 := J0.AS
  refine mj_T.pl rfl rfl rfl rfl ?_
  refine jL.arg (k := 1) I.2.1 hi hL ⟨by decide, by decide⟩ rfl rfl rfl rfl rfl ?_
  refine jT.asJ ?_
  refine mj_T.eq (pc2 := 1978) ?_ rfl rfl rfl rfl
  refine mj_T.pl rfl rfl rfl rfl ?_
  refine mj_T.call rfl rfl (Nat.le_of_ble_eq_true rfl) (Nat.le_of_ble_eq_true rfl) rfl rfl (mj_Ok.up (by decide) (mj_Ok.and (mj_Ok.up (by decide) ((jw_345 (D := 0) cTY I.1 ck0.2 (jr_of' _)).and (jv_345 (D := 0) I.1 (jr_of' _) X))) (jy_345 I.1 (jr_of' _) (yr_144 A0 s0 I.1 (jr_of' _))))) (fun v h1 hq => ?_) (fun i' h1 hq => by obtain ⟨hq, _⟩ := hq; obtain ⟨hq, _⟩ := hq; exact (by obtain ⟨_, hq, _⟩ := hq; cases hq))
  obtain ⟨hq, qy⟩ := hq
  obtain ⟨hq, qx⟩ := hq
  have X1 := qx
  obtain ⟨z, hv, ⟨n1, hn1, hn2, w1⟩, f1⟩ := hq
  cases hv
  have I1 := I.cls jZ_pl w1 hn1 f1
  have E1 := E0.frame jZ_pl f1 (by have e1 := I.1.1.1; have e2 := w1.1.1; have e3 := hn1; omega)
  refine mj_T.pl (loc' := [some (.ref 0), some (.ref 1), some (.ref 563), some (.ref 571), some (.int (jn i)), some (.int (jn z)), l6, l7, l8]) rfl rfl rfl rfl ?_
  refine mj_T.pl rfl rfl rfl rfl ?_
  refine jL.arg (k := 1) I1.2.1 hi hL ⟨by decide, by decide⟩ rfl rfl rfl rfl rfl ?_
  refine jT.asJ ?_
  refine mj_T.eq (pc2 := 1991) ?_ rfl rfl rfl rfl
  obtain ⟨fs, ho⟩ := I1.obj
  refine mj_T.call rfl rfl (Nat.le_of_ble_eq_true rfl) (Nat.le_of_ble_eq_true rfl) (by simp [mj_recv, ho]) rfl (mj_Ok.up (by decide) (mj_Ok.and (mj_Ok.up (by decide) ((I1.callI jZ_pl (fun hr hI => rp_write (jr_of _) hI) (fun N => rfl)).qt rfl)) (YX.call (tm' := tm) (er' := er) (T' := T) E1 qy (sameQ.ag _ _ _) ((rx_write (jr_of _) J0).to (fun r k => rIx.z k ⟨rfl, rfl, rfl⟩)) (fun N => rfl)))) (fun v h2 hq => ?_) (fun i' h2 hq => by obtain ⟨hq, _⟩ := hq; obtain ⟨hq, _⟩ := hq; exact (by obtain ⟨_, hq, _⟩ := hq; cases hq))
  obtain ⟨hq, Y2⟩ := hq
  obtain ⟨hq, qx⟩ := hq
  have X2 := X1.qt qx
  obtain ⟨z2, hv, I2⟩ := hq
  cases hv
  refine mj_T.pl (loc' := [some (.ref 0), some (.ref 1), some (.ref 563), some (.ref 571), some (.int (jn i)), some (.int (jn z)), some (.int (jn z2)), l7, l8]) rfl rfl rfl rfl ?_
  refine mj_T.pl rfl rfl rfl rfl ?_
  exact k n1 tm er T h2 _ _ _ _ hn1 hn2 I2 X2 Y2
theorem jL_43 {n Lx : Nat} {xs : Nat → Int32} {tm er i : Int} {T : Nat → Int} {h : mj_H} {l5 l6 l7 l8 : Option Value} {Q : mj_R → Prop} (hi : 0 ≤ i ∧ i + 6 ≤ Lx) (hL : Lx ≤ 3072) (I : jLi cK cL cR (.inl (100, Lx, fun j => .int (xs j))) 571 563 n tm er T h) (X : jcx er tm T h) (Y : YX tm er T h) (k : ∀ (n' : Nat) (tm' er' : Int) (T' : Nat → Int) (h' : mj_H) (l5 l6 l7 l8 : Option Value), n ≤ n' → n' ≤ n + 1 → jLi cK cL cR (.inl (100, Lx, fun j => .int (xs j))) 571 563 n' tm' er' T' h' → jcx er' tm' T' h' → YX tm' er' T' h' → mj_T 100 mj_mK 2072 [some (.ref 0), some (.ref 1), some (.ref 563), some (.ref 571), some (.int (jn i)), l5, l6, l7, l8] [] h' Q) : mj_T 100 mj_mK 1999 [some (.ref 0), some (.ref 1), some (.ref 563), some (.ref 571), some (.int (jn i)), l5, l6, l7, l8] [] h Q := by
  obtain ⟨N0, u0, H0, hr0, s0, E0, J0⟩ := Y
  have A0 := J0.AS
  refine mj_T.pl rfl rfl rfl rfl ?_
  refine jL.arg (k := 1) I.2.1 hi hL ⟨by decide, by decide⟩ rfl rfl rfl rfl rfl ?_
  refine jT.asJ ?_
  refine mj_T.eq (pc2 := 2006) ?_ rfl rfl rfl rfl
  refine mj_T.pl rfl rfl rfl rfl ?_
  refine mj_T.call rfl rfl (Nat.le_of_ble_eq_true rfl) (Nat.le_of_ble_eq_true rfl) rfl rfl (mj_Ok.up (by decide) (mj_Ok.and (mj_Ok.up (by decide) ((jw_346 (D := 0) cTY I.1 ck0.2 (jr_of' _)).qt rfl)) (jy_346 I.1 (jr_of' _) (yr_145 A0 s0 I.1 (jr_of' _))))) (fun v h1 hq => ?_) (fun i' h1 hq => by obtain ⟨hq, _⟩ := hq; obtain ⟨hq, _⟩ := hq; exact (by obtain ⟨_, hq, _⟩ := hq; cases hq))
  obtain ⟨hq, qy⟩ := hq
  obtain ⟨hq, qx⟩ := hq
  have X1 := X.qt qx
  obtain ⟨z, hv, ⟨n1, hn1, hn2, w1⟩, f1⟩ := hq
  cases hv
  have I1 := I.cls jZ_pl w1 hn1 f1
  have E1 := E0.frame jZ_pl f1 (by have e1 := I.1.1.1; have e2 := w1.1.1; have e3 := hn1; omega)
  refine mj_T.pl (loc' := [some (.ref 0), some (.ref 1), some (.ref 563), some (.ref 571), some (.int (jn i)), some (.int (jn z)), l6, l7, l8]) rfl rfl rfl rfl ?_
  refine mj_T.pl rfl rfl rfl rfl ?_
  refine jL.arg (k := 1) I1.2.1 hi hL ⟨by decide, by decide⟩ rfl rfl rfl rfl rfl ?_
  refine jT.asJ ?_
  refine mj_T.eq (pc2 := 2019) ?_ rfl rfl rfl rfl
  obtain ⟨fs, ho⟩ := I1.obj
  refine mj_T.call rfl rfl (Nat.le_of_ble_eq_true rfl) (Nat.le_of_ble_eq_true rfl) (by simp [mj_recv, ho]) rfl (mj_Ok.up (by decide) (mj_Ok.and (mj_Ok.up (by decide) ((I1.callI jZ_pl (fun hr hI => rp_writtenAt (jr_of _) hI) (fun N => rfl)).qt rfl)) (YX.call (tm' := tm) (er' := er) (T' := T) E1 qy (sameQ.ag _ _ _) ((rx_writtenAt (jr_of _) J0).to (fun r k => rIx.z k ⟨rfl, rfl, rfl⟩)) (fun N => rfl)))) (fun v h2 hq => ?_) (fun i' h2 hq => by obtain ⟨hq, _⟩ := hq; obtain ⟨hq, _⟩ := hq; exact (by obtain ⟨_, hq, _⟩ := hq; cases hq))
  obtain ⟨hq, Y2⟩ := hq
  obtain ⟨hq, qx⟩ := hq
  have X2 := X1.qt qx
  obtain ⟨z2, hv, I2⟩ := hq
  cases hv
  refine mj_T.pl (loc' := [some (.ref 0), some (.ref 1), some (.ref 563), some (.ref 571), some (.int (jn i)), some (.int (jn z)), some (.int (jn z2)), l7, l8]) rfl rfl rfl rfl ?_
  refine mj_T.pl rfl rfl rfl rfl ?_
  exact k n1 tm er T h2 _ _ _ _ hn1 hn2 I2 X2 Y2
