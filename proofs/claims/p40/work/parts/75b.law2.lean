/-! Rounds of the law. -/
theorem jL_13 {n Lx : Nat} {xs : Nat → Int32} {tm er i : Int} {T : Nat → Int} {h : mj_H} {l5 l6 l7 l8 : Option Value} {Q : mj_R → Prop} (hi : 0 ≤ i ∧ i + 6 ≤ Lx) (hL : Lx ≤ 3072) (I : jLi cK cL cR (.inl (100, Lx, fun j => .int (xs j))) 571 563 n tm er T h) (X : jcx er tm T h) (Y : YX tm er T h) (k : ∀ (n' : Nat) (tm' er' : Int) (T' : Nat → Int) (h' : mj_H) (l5 l6 l7 l8 : Option Value), n ≤ n' → n' ≤ n + 1 → jLi cK cL cR (.inl (100, Lx, fun j => .int (xs j))) 571 563 n' tm' er' T' h' → jcx er' tm' T' h' → YX tm' er' T' h' → mj_T 100 mj_mK 2072 [some (.ref 0), some (.ref 1), some (.ref 563), some (.ref 571), some (.int (jn i)), l5, l6, l7, l8] [] h' Q) : mj_T 100 mj_mK 904 [some (.ref 0), some (.ref 1), some (.ref 563), some (.ref 571), some (.int (jn i)), l5, l6, l7, l8] [] h Q := by
  obtain ⟨N0, u0, H0, hr0, s0, E0, J0⟩ := Y
  have A0 := J0.AS
  refine mj_T.pl rfl rfl rfl rfl ?_
  refine jL.arg (k := 1) I.2.1 hi hL ⟨by decide, by decide⟩ rfl rfl rfl rfl rfl ?_
  refine jT.asJ ?_
  refine mj_T.eq (pc2 := 911) ?_ rfl rfl rfl rfl
  refine jL.arg (k := 2) I.2.1 hi hL ⟨by decide, by decide⟩ rfl rfl rfl rfl rfl ?_
  refine jT.asJ ?_
  refine mj_T.eq (pc2 := 917) ?_ rfl rfl rfl rfl
  refine mj_T.pl rfl rfl rfl rfl ?_
  refine mj_T.call rfl rfl (Nat.le_of_ble_eq_true rfl) (Nat.le_of_ble_eq_true rfl) rfl rfl (mj_Ok.up (by decide) (mj_Ok.and (mj_Ok.up (by decide) ((jw_323 (D := 0) cTY I.1 ck0.2 (jr_of' _) (jr_of' _)).qt rfl)) (jy_323 I.1 (jr_of' _) (jr_of' _) ((cz_115 A0 s0 (jr_of' _) (jr_of' _)).to (fun _ y => y.yz))))) (fun v h1 hq => ?_) (fun i' h1 hq => by obtain ⟨hq, _⟩ := hq; obtain ⟨hq, _⟩ := hq; exact (by obtain ⟨_, hq, _⟩ := hq; cases hq))
  obtain ⟨hq, qy⟩ := hq
  obtain ⟨hq, qx⟩ := hq
  have X1 := X.qt qx
  obtain ⟨z, hv, ⟨n1, hn1, hn2, w1⟩, f1⟩ := hq
  cases hv
  have I1 := I.cls jZ_pl w1 hn1 f1
  have E1 := E0.frame jZ_pl f1 (by have e1 := I.1.1.1; have e2 := w1.1.1; have e3 := hn1; omega)
  refine mj_T.pl (loc' := [some (.ref 0), some (.ref 1), some (.ref 563), some (.ref 571), some (.int (jn i)), some (.int (jn z)), l6, l7, l8]) rfl rfl rfl rfl ?_
  refine mj_T.pl rfl rfl rfl rfl ?_
  refine jL.arg (k := 1) I1.2.1 hi hL ⟨by decide, by decide⟩ rfl rfl rfl rfl rfl ?_
  refine jT.asJ ?_
  refine mj_T.eq (pc2 := 930) ?_ rfl rfl rfl rfl
  refine jL.arg (k := 2) I1.2.1 hi hL ⟨by decide, by decide⟩ rfl rfl rfl rfl rfl ?_
  refine jT.asJ ?_
  refine mj_T.eq (pc2 := 936) ?_ rfl rfl rfl rfl
  obtain ⟨fs, ho⟩ := I1.obj
  refine mj_T.call rfl rfl (Nat.le_of_ble_eq_true rfl) (Nat.le_of_ble_eq_true rfl) (by simp [mj_recv, ho]) rfl (mj_Ok.up (by decide) (mj_Ok.and (mj_Ok.up (by decide) ((I1.callI jZ_pl (fun hr hI => rp_addPoint (jr_of _) (jr_of _) hI) (fun N => rfl)).qt rfl)) (YX.call (tm' := tm) (er' := er) (T' := T) E1 qy (Q_addPoint.ag _ _) (rz_addPoint (jr_of _) (jr_of _) J0) (fun N => rfl)))) (fun v h2 hq => ?_) (fun i' h2 hq => by obtain ⟨hq, _⟩ := hq; obtain ⟨hq, _⟩ := hq; exact (by obtain ⟨_, hq, _⟩ := hq; cases hq))
  obtain ⟨hq, Y2⟩ := hq
  obtain ⟨hq, qx⟩ := hq
  have X2 := X1.qt qx
  obtain ⟨z2, hv, I2⟩ := hq
  cases hv
  refine mj_T.pl (loc' := [some (.ref 0), some (.ref 1), some (.ref 563), some (.ref 571), some (.int (jn i)), some (.int (jn z)), some (.int (jn z2)), l7, l8]) rfl rfl rfl rfl ?_
  refine mj_T.pl rfl rfl rfl rfl ?_
  exact k n1 tm er T h2 _ _ _ _ hn1 hn2 I2 X2 Y2
theorem jL_15 {n Lx : Nat} {xs : Nat → Int32} {tm er i : Int} {T : Nat → Int} {h : mj_H} {l5 l6 l7 l8 : Option Value} {Q : mj_R → Prop} (hi : 0 ≤ i ∧ i + 6 ≤ Lx) (hL : Lx ≤ 3072) (I : jLi cK cL cR (.inl (100, Lx, fun j => .int (xs j))) 571 563 n tm er T h) (X : jcx er tm T h) (Y : YX tm er T h) (k : ∀ (n' : Nat) (tm' er' : Int) (T' : Nat → Int) (h' : mj_H) (l5 l6 l7 l8 : Option Value), n ≤ n' → n' ≤ n + 1 → jLi cK cL cR (.inl (100, Lx, fun j => .int (xs j))) 571 563 n' tm' er' T' h' → jcx er' tm' T' h' → YX tm' er' T' h' → mj_T 100 mj_mK 2072 [some (.ref 0), some (.ref 1), some (.ref 563), some (.ref 571), some (.int (jn i)), l5, l6, l7, l8] [] h' Q) : mj_T 100 mj_mK 957 [some (.ref 0), some (.ref 1), some (.ref 563), some (.ref 571), some (.int (jn i)), l5, l6, l7, l8] [] h Q := by
  obtain ⟨N0, u0, H0, hr0, s0, E0, J0⟩ := Y
  have A0 := J0.AS
  refine mj_T.pl rfl rfl rfl rfl ?_
  refine jL.arg (k := 1) I.2.1 hi hL ⟨by decide, by decide⟩ rfl rfl rfl rfl rfl ?_
  refine jT.asJ ?_
  refine mj_T.eq (pc2 := 964) ?_ rfl rfl rfl rfl
  refine mj_T.pl rfl rfl rfl rfl ?_
  refine mj_T.call rfl rfl (Nat.le_of_ble_eq_true rfl) (Nat.le_of_ble_eq_true rfl) rfl rfl (mj_Ok.up (by decide) (mj_Ok.and (mj_Ok.up (by decide) ((jw_324 (D := 0) cTY I.1 ck0.2 (jr_of' _)).qt rfl)) (jy_324 I.1 (jr_of' _) ((cz_117 A0 s0 (jr_of' _)).to (fun _ y => y.yz))))) (fun v h1 hq => ?_) (fun i' h1 hq => by obtain ⟨hq, _⟩ := hq; obtain ⟨hq, _⟩ := hq; exact (by obtain ⟨_, hq, _⟩ := hq; cases hq))
  obtain ⟨hq, qy⟩ := hq
  obtain ⟨hq, qx⟩ := hq
  have X1 := X.qt qx
  obtain ⟨z, hv, ⟨n1, hn1, hn2, w1⟩, f1⟩ := hq
  cases hv
  have I1 := I.cls jZ_pl w1 hn1 f1
  have E1 := E0.frame jZ_pl f1 (by have e1 := I.1.1.1; have e2 := w1.1.1; have e3 := hn1; omega)
  refine mj_T.pl (loc' := [some (.ref 0), some (.ref 1), some (.ref 563), some (.ref 571), some (.int (jn i)), some (.int (jn z)), l6, l7, l8]) rfl rfl rfl rfl ?_
  refine mj_T.pl rfl rfl rfl rfl ?_
  refine jL.arg (k := 1) I1.2.1 hi hL ⟨by decide, by decide⟩ rfl rfl rfl rfl rfl ?_
  refine jT.asJ ?_
  refine mj_T.eq (pc2 := 977) ?_ rfl rfl rfl rfl
  obtain ⟨fs, ho⟩ := I1.obj
  refine mj_T.call rfl rfl (Nat.le_of_ble_eq_true rfl) (Nat.le_of_ble_eq_true rfl) (by simp [mj_recv, ho]) rfl (mj_Ok.up (by decide) (mj_Ok.and (mj_Ok.up (by decide) ((I1.callJ jZ_pl (fun hr hI => rp_interpolate (jr_of _) hI) (fun N => rfl)).qt rfl)) (YX.call (tm' := tm) (er' := er) (T' := T) E1 qy (Q_interpolate.ag A0.1 _) (rz_interpolate (jr_of _) J0) (fun N => rfl)))) (fun v h2 hq => ?_) (fun i' h2 hq => by obtain ⟨hq, _⟩ := hq; obtain ⟨hq, _⟩ := hq; exact (by obtain ⟨_, hq, _⟩ := hq; cases hq))
  obtain ⟨hq, Y2⟩ := hq
  obtain ⟨hq, qx⟩ := hq
  have X2 := X1.qt qx
  obtain ⟨z2, hv, I2⟩ := hq
  cases hv
  refine mj_T.pl (loc' := [some (.ref 0), some (.ref 1), some (.ref 563), some (.ref 571), some (.int (jn i)), some (.int (jn z)), some (.long (jl z2)), none, l8]) rfl rfl rfl rfl ?_
  refine mj_T.pl rfl rfl rfl rfl ?_
  exact k n1 tm er T h2 _ _ _ _ hn1 hn2 I2 X2 Y2
theorem jL_17 {n Lx : Nat} {xs : Nat → Int32} {tm er i : Int} {T : Nat → Int} {h : mj_H} {l5 l6 l7 l8 : Option Value} {Q : mj_R → Prop} (hi : 0 ≤ i ∧ i + 6 ≤ Lx) (hL : Lx ≤ 3072) (I : jLi cK cL cR (.inl (100, Lx, fun j => .int (xs j))) 571 563 n tm er T h) (X : jcx er tm T h) (Y : YX tm er T h) (k : ∀ (n' : Nat) (tm' er' : Int) (T' : Nat → Int) (h' : mj_H) (l5 l6 l7 l8 : Option Value), n ≤ n' → n' ≤ n + 1 → jLi cK cL cR (.inl (100, Lx, fun j => .int (xs j))) 571 563 n' tm' er' T' h' → jcx er' tm' T' h' → YX tm' er' T' h' → mj_T 100 mj_mK 2072 [some (.ref 0), some (.ref 1), some (.ref 563), some (.ref 571), some (.int (jn i)), l5, l6, l7, l8] [] h' Q) : mj_T 100 mj_mK 998 [some (.ref 0), some (.ref 1), some (.ref 563), some (.ref 571), some (.int (jn i)), l5, l6, l7, l8] [] h Q := by
  obtain ⟨N0, u0, H0, hr0, s0, E0, J0⟩ := Y
  have A0 := J0.AS
  refine mj_T.pl rfl rfl rfl rfl ?_
  refine jL.arg (k := 1) I.2.1 hi hL ⟨by decide, by decide⟩ rfl rfl rfl rfl rfl ?_
  refine jT.asJ ?_
  refine mj_T.eq (pc2 := 1005) ?_ rfl rfl rfl rfl
  refine mj_T.pl rfl rfl rfl rfl ?_
  refine mj_T.call rfl rfl (Nat.le_of_ble_eq_true rfl) (Nat.le_of_ble_eq_true rfl) rfl rfl (mj_Ok.up (by decide) (mj_Ok.and (mj_Ok.up (by decide) ((jw_325 (D := 0) cTY I.1 ck0.2 (jr_of' _)).qt rfl)) (jy_325 I.1 (jr_of' _) (yr_119 A0 s0 I.1 (jr_of' _))))) (fun v h1 hq => ?_) (fun i' h1 hq => by obtain ⟨hq, _⟩ := hq; obtain ⟨hq, _⟩ := hq; exact (by obtain ⟨_, hq, _⟩ := hq; cases hq))
  obtain ⟨hq, qy⟩ := hq
  obtain ⟨hq, qx⟩ := hq
  have X1 := X.qt qx
  obtain ⟨z, hv, ⟨n1, hn1, hn2, w1⟩, f1⟩ := hq
  cases hv
  have I1 := I.cls jZ_pl w1 hn1 f1
  have E1 := E0.frame jZ_pl f1 (by have e1 := I.1.1.1; have e2 := w1.1.1; have e3 := hn1; omega)
  refine mj_T.pl (loc' := [some (.ref 0), some (.ref 1), some (.ref 563), some (.ref 571), some (.int (jn i)), some (.int (jn z)), l6, l7, l8]) rfl rfl rfl rfl ?_
  refine mj_T.pl rfl rfl rfl rfl ?_
  refine jL.arg (k := 1) I1.2.1 hi hL ⟨by decide, by decide⟩ rfl rfl rfl rfl rfl ?_
  refine jT.asJ ?_
  refine mj_T.eq (pc2 := 1018) ?_ rfl rfl rfl rfl
  obtain ⟨fs, ho⟩ := I1.obj
  refine mj_T.call rfl rfl (Nat.le_of_ble_eq_true rfl) (Nat.le_of_ble_eq_true rfl) (by simp [mj_recv, ho]) rfl (mj_Ok.up (by decide) (mj_Ok.and (mj_Ok.up (by decide) ((I1.callI jZ_pl (fun hr hI => rp_degree (jr_of _) hI) (fun N => rfl)).qt rfl)) (YX.call (tm' := tm) (er' := er) (T' := T) E1 qy (sameQ.ag _ _ _) ((rx_degree (jr_of _) J0).to (fun r k => rIx.z k ⟨rfl, rfl, rfl⟩)) (fun N => rfl)))) (fun v h2 hq => ?_) (fun i' h2 hq => by obtain ⟨hq, _⟩ := hq; obtain ⟨hq, _⟩ := hq; exact (by obtain ⟨_, hq, _⟩ := hq; cases hq))
  obtain ⟨hq, Y2⟩ := hq
  obtain ⟨hq, qx⟩ := hq
  have X2 := X1.qt qx
  obtain ⟨z2, hv, I2⟩ := hq
  cases hv
  refine mj_T.pl (loc' := [some (.ref 0), some (.ref 1), some (.ref 563), some (.ref 571), some (.int (jn i)), some (.int (jn z)), some (.int (jn z2)), l7, l8]) rfl rfl rfl rfl ?_
  refine mj_T.pl rfl rfl rfl rfl ?_
  exact k n1 tm er T h2 _ _ _ _ hn1 hn2 I2 X2 Y2
theorem jL_18 {n Lx : Nat} {xs : Nat → Int32} {tm er i : Int} {T : Nat → Int} {h : mj_H} {l5 l6 l7 l8 : Option Value} {Q : mj_R → Prop} (hi : 0 ≤ i ∧ i + 6 ≤ Lx) (hL : Lx ≤ 3072) (I : jLi cK cL cR (.inl (100, Lx, fun j => .int (xs j))) 571 563 n tm er T h) (X : jcx er tm T h) (Y : YX tm er T h) (k : ∀ (n' : Nat) (tm' er' : Int) (T' : Nat → Int) (h' : mj_H) (l5 l6 l7 l8 : Option Value), n ≤ n' → n' ≤ n + 1 → jLi cK cL cR (.inl (100, Lx, fun j => .int (xs j))) 571 563 n' tm' er' T' h' → jcx er' tm' T' h' → YX tm' er' T' h' → mj_T 100 mj_mK 2072 [some (.ref 0), some (.ref 1), some (.ref 563), some (.ref 571), some (.int (jn i)), l5, l6, l7, l8] [] h' Q) : mj_T 100 mj_mK 1026 [some (.ref 0), some (.ref 1), some (.ref 563), some (.ref 571), some (.int (jn i)), l5, l6, l7, l8] [] h Q := by
  obtain ⟨N0, u0, H0, hr0, s0, E0, J0⟩ := Y
  have A0 := J0.AS
  refine mj_T.pl rfl rfl rfl rfl ?_
  refine jL.arg (k := 1) I.2.1 hi hL ⟨by decide, by decide⟩ rfl rfl rfl rfl rfl ?_
  refine jT.asJ ?_
  refine mj_T.eq (pc2 := 1033) ?_ rfl rfl rfl rfl
  refine mj_T.pl rfl rfl rfl rfl ?_
  refine mj_T.call rfl rfl (Nat.le_of_ble_eq_true rfl) (Nat.le_of_ble_eq_true rfl) rfl rfl (mj_Ok.up (by decide) (mj_Ok.and (mj_Ok.up (by decide) ((jw_326 (D := 0) cTY I.1 ck0.2 (jr_of' _)).qt rfl)) (jy_326 I.1 (jr_of' _) (yr_120 A0 s0 I.1 (jr_of' _))))) (fun v h1 hq => ?_) (fun i' h1 hq => by obtain ⟨hq, _⟩ := hq; obtain ⟨hq, _⟩ := hq; exact (by obtain ⟨_, hq, _⟩ := hq; cases hq))
  obtain ⟨hq, qy⟩ := hq
  obtain ⟨hq, qx⟩ := hq
  have X1 := X.qt qx
  obtain ⟨z, hv, ⟨n1, hn1, hn2, w1⟩, f1⟩ := hq
  cases hv
  have I1 := I.cls jZ_pl w1 hn1 f1
  have E1 := E0.frame jZ_pl f1 (by have e1 := I.1.1.1; have e2 := w1.1.1; have e3 := hn1; omega)
  refine mj_T.pl (loc' := [some (.ref 0), some (.ref 1), some (.ref 563), some (.ref 571), some (.int (jn i)), some (.int (jn z)), l6, l7, l8]) rfl rfl rfl rfl ?_
  refine mj_T.pl rfl rfl rfl rfl ?_
  refine jL.arg (k := 1) I1.2.1 hi hL ⟨by decide, by decide⟩ rfl rfl rfl rfl rfl ?_
  refine jT.asJ ?_
  refine mj_T.eq (pc2 := 1046) ?_ rfl rfl rfl rfl
  obtain ⟨fs, ho⟩ := I1.obj
  refine mj_T.call rfl rfl (Nat.le_of_ble_eq_true rfl) (Nat.le_of_ble_eq_true rfl) (by simp [mj_recv, ho]) rfl (mj_Ok.up (by decide) (mj_Ok.and (mj_Ok.up (by decide) ((I1.callI jZ_pl (fun hr hI => rp_terms (jr_of _) hI) (fun N => rfl)).qt rfl)) (YX.call (tm' := tm) (er' := er) (T' := T) E1 qy (sameQ.ag _ _ _) ((rx_terms (jr_of _) J0).to (fun r k => rIx.z k ⟨rfl, rfl, rfl⟩)) (fun N => rfl)))) (fun v h2 hq => ?_) (fun i' h2 hq => by obtain ⟨hq, _⟩ := hq; obtain ⟨hq, _⟩ := hq; exact (by obtain ⟨_, hq, _⟩ := hq; cases hq))
  obtain ⟨hq, Y2⟩ := hq
  obtain ⟨hq, qx⟩ := hq
  have X2 := X1.qt qx
  obtain ⟨z2, hv, I2⟩ := hq
  cases hv
  refine mj_T.pl (loc' := [some (.ref 0), some (.ref 1), some (.ref 563), some (.ref 571), some (.int (jn i)), some (.int (jn z)), some (.int (jn z2)), l7, l8]) rfl rfl rfl rfl ?_
  refine mj_T.pl rfl rfl rfl rfl ?_
  exact k n1 tm er T h2 _ _ _ _ hn1 hn2 I2 X2 Y2
theorem jL_19 {n Lx : Nat} {xs : Nat → Int32} {tm er i : Int} {T : Nat → Int} {h : mj_H} {l5 l6 l7 l8 : Option Value} {Q : mj_R → Prop} (hi : 0 ≤ i ∧ i + 6 ≤ Lx) (hL : Lx ≤ 3072) (I : jLi cK cL cR (.inl (100, Lx, fun j => .int (xs j))) 571 563 n tm er T h) (X : jcx er tm T h) (Y : YX tm er T h) (k : ∀ (n' : Nat) (tm' er' : Int) (T' : Nat → Int) (h' : mj_H) (l5 l6 l7 l8 : Option Value), n ≤ n' → n' ≤ n + 1 → jLi cK cL cR (.inl (100, Lx, fun j => .int (xs j))) 571 563 n' tm' er' T' h' → jcx er' tm' T' h' → YX tm' er' T' h' → mj_T 100 mj_mK 2072 [some (.ref 0), some (.ref 1), some (.ref 563), some (.ref 571), some (.int (jn i)), l5, l6, l7, l8] [] h' Q) : mj_T 100 mj_mK 1054 [some (.ref 0), some (.ref 1), some (.ref 563), some (.ref 571), some (.int (jn i)), l5, l6, l7, l8] [] h Q := by
  obtain ⟨N0, u0, H0, hr0, s0, E0, J0⟩ := Y
  have A0 := J0.AS
  refine mj_T.pl rfl rfl rfl rfl ?_
  refine jL.arg (k := 1) I.2.1 hi hL ⟨by decide, by decide⟩ rfl rfl rfl rfl rfl ?_
  refine jT.asJ ?_
  refine mj_T.eq (pc2 := 1061) ?_ rfl rfl rfl rfl
  refine jL.arg (k := 2) I.2.1 hi hL ⟨by decide, by decide⟩ rfl rfl rfl rfl rfl ?_
  refine jT.asJ ?_
  refine mj_T.eq (pc2 := 1067) ?_ rfl rfl rfl rfl
  refine mj_T.pl rfl rfl rfl rfl ?_
  refine mj_T.call rfl rfl (Nat.le_of_ble_eq_true rfl) (Nat.le_of_ble_eq_true rfl) rfl rfl (mj_Ok.up (by decide) (mj_Ok.and (mj_Ok.up (by decide) ((jw_327 (D := 0) cTY I.1 ck0.2 (jr_of' _) (jr_of' _)).qt rfl)) (jy_327 I.1 (jr_of' _) (jr_of' _) (yr_121 A0 s0 I.1 (jr_of' _) (jr_of' _))))) (fun v h1 hq => ?_) (fun i' h1 hq => by obtain ⟨hq, _⟩ := hq; obtain ⟨hq, _⟩ := hq; exact (by obtain ⟨_, hq, _⟩ := hq; cases hq))
  obtain ⟨hq, qy⟩ := hq
  obtain ⟨hq, qx⟩ := hq
  have X1 := X.qt qx
  obtain ⟨z, hv, ⟨n1, hn1, hn2, w1⟩, f1⟩ := hq
  cases hv
  have I1 := I.cls jZ_pl w1 hn1 f1
  have E1 := E0.frame jZ_pl f1 (by have e1 := I.1.1.1; have e2 := w1.1.1; have e3 := hn1; omega)
  refine mj_T.pl (loc' := [some (.ref 0), some (.ref 1), some (.ref 563), some (.ref 571), some (.int (jn i)), some (.int (jn z)), l6, l7, l8]) rfl rfl rfl rfl ?_
  refine mj_T.pl rfl rfl rfl rfl ?_
  refine jL.arg (k := 1) I1.2.1 hi hL ⟨by decide, by decide⟩ rfl rfl rfl rfl rfl ?_
  refine jT.asJ ?_
  refine mj_T.eq (pc2 := 1080) ?_ rfl rfl rfl rfl
  refine jL.arg (k := 2) I1.2.1 hi hL ⟨by decide, by decide⟩ rfl rfl rfl rfl rfl ?_
  refine jT.asJ ?_
  refine mj_T.eq (pc2 := 1086) ?_ rfl rfl rfl rfl
  obtain ⟨fs, ho⟩ := I1.obj
  refine mj_T.call rfl rfl (Nat.le_of_ble_eq_true rfl) (Nat.le_of_ble_eq_true rfl) (by simp [mj_recv, ho]) rfl (mj_Ok.up (by decide) (mj_Ok.and (mj_Ok.up (by decide) ((I1.callI jZ_pl (fun hr hI => rp_exponent (jr_of _) (jr_of _) hI) (fun N => rfl)).qt rfl)) (YX.call (tm' := tm) (er' := er) (T' := T) E1 qy (sameQ.ag _ _ _) ((rx_exponent (jr_of _) (jr_of _) J0).to (fun r k => rIx.z k ⟨rfl, rfl, rfl⟩)) (fun N => rfl)))) (fun v h2 hq => ?_) (fun i' h2 hq => by obtain ⟨hq, _⟩ := hq; obtain ⟨hq, _⟩ := hq; exact (by obtain ⟨_, hq, _⟩ := hq; cases hq))
  obtain ⟨hq, Y2⟩ := hq
  obtain ⟨hq, qx⟩ := hq
  have X2 := X1.qt qx
  obtain ⟨z2, hv, I2⟩ := hq
  cases hv
  refine mj_T.pl (loc' := [some (.ref 0), some (.ref 1), some (.ref 563), some (.ref 571), some (.int (jn i)), some (.int (jn z)), some (.int (jn z2)), l7, l8]) rfl rfl rfl rfl ?_
  refine mj_T.pl rfl rfl rfl rfl ?_
  exact k n1 tm er T h2 _ _ _ _ hn1 hn2 I2 X2 Y2
theorem jL_20 {n Lx : Nat} {xs : Nat → Int32} {tm er i : Int} {T : Nat → Int} {h : mj_H} {l5 l6 l7 l8 : Option Value} {Q : mj_R → Prop} (hi : 0 ≤ i ∧ i + 6 ≤ Lx) (hL : Lx ≤ 3072) (I : jLi cK cL cR (.inl (100, Lx, fun j => .int (xs j))) 571 563 n tm er T h) (X : jcx er tm T h) (Y : YX tm er T h) (k : ∀ (n' : Nat) (tm' er' : Int) (T' : Nat → Int) (h' : mj_H) (l5 l6 l7 l8 : Option Value), n ≤ n' → n' ≤ n + 1 → jLi cK cL cR (.inl (100, Lx, fun j => .int (xs j))) 571 563 n' tm' er' T' h' → jcx er' tm' T' h' → YX tm' er' T' h' → mj_T 100 mj_mK 2072 [some (.ref 0), some (.ref 1), some (.ref 563), some (.ref 571), some (.int (jn i)), l5, l6, l7, l8] [] h' Q) : mj_T 100 mj_mK 1094 [some (.ref 0), some (.ref 1), some (.ref 563), some (.ref 571), some (.int (jn i)), l5, l6, l7, l8] [] h Q := by
  obtain ⟨N0, u0, H0, hr0, s0, E0, J0⟩ := Y
  have A0 := J0.AS
  refine mj_T.pl rfl rfl rfl rfl ?_
  refine jL.arg (k := 1) I.2.1 hi hL ⟨by decide, by decide⟩ rfl rfl rfl rfl rfl ?_
  refine jT.asJ ?_
  refine mj_T.eq (pc2 := 1101) ?_ rfl rfl rfl rfl
  refine jL.arg (k := 2) I.2.1 hi hL ⟨by decide, by decide⟩ rfl rfl rfl rfl rfl ?_
  refine jT.asJ ?_
  refine mj_T.eq (pc2 := 1107) ?_ rfl rfl rfl rfl
  refine mj_T.pl rfl rfl rfl rfl ?_
  refine mj_T.call rfl rfl (Nat.le_of_ble_eq_true rfl) (Nat.le_of_ble_eq_true rfl) rfl rfl (mj_Ok.up (by decide) (mj_Ok.and (mj_Ok.up (by decide) ((jw_328 (D := 0) cTY I.1 ck0.2 (jr_of' _) (jr_of' _)).qt rfl)) (jy_328 I.1 (jr_of' _) (jr_of' _) (yr_122 A0 s0 I.1 (jr_of' _) (jr_of' _))))) (fun v h1 hq => ?_) (fun i' h1 hq => by obtain ⟨hq, _⟩ := hq; obtain ⟨hq, _⟩ := hq; exact (by obtain ⟨_, hq, _⟩ := hq; cases hq))
  obtain ⟨hq, qy⟩ := hq
  obtain ⟨hq, qx⟩ := hq
  have X1 := X.qt qx
  obtain ⟨z, hv, ⟨n1, hn1, hn2, w1⟩, f1⟩ := hq
  cases hv
  have I1 := I.cls jZ_pl w1 hn1 f1
  have E1 := E0.frame jZ_pl f1 (by have e1 := I.1.1.1; have e2 := w1.1.1; have e3 := hn1; omega)
  refine mj_T.pl (loc' := [some (.ref 0), some (.ref 1), some (.ref 563), some (.ref 571), some (.int (jn i)), some (.int (jn z)), l6, l7, l8]) rfl rfl rfl rfl ?_
  refine mj_T.pl rfl rfl rfl rfl ?_
  refine jL.arg (k := 1) I1.2.1 hi hL ⟨by decide, by decide⟩ rfl rfl rfl rfl rfl ?_
  refine jT.asJ ?_
  refine mj_T.eq (pc2 := 1120) ?_ rfl rfl rfl rfl
  refine jL.arg (k := 2) I1.2.1 hi hL ⟨by decide, by decide⟩ rfl rfl rfl rfl rfl ?_
  refine jT.asJ ?_
  refine mj_T.eq (pc2 := 1126) ?_ rfl rfl rfl rfl
  obtain ⟨fs, ho⟩ := I1.obj
  refine mj_T.call rfl rfl (Nat.le_of_ble_eq_true rfl) (Nat.le_of_ble_eq_true rfl) (by simp [mj_recv, ho]) rfl (mj_Ok.up (by decide) (mj_Ok.and (mj_Ok.up (by decide) ((I1.callI jZ_pl (fun hr hI => rp_coefficient (jr_of _) (jr_of _) hI) (fun N => rfl)).qt rfl)) (YX.call (tm' := tm) (er' := er) (T' := T) E1 qy (sameQ.ag _ _ _) ((rx_coefficient (jr_of _) (jr_of _) J0).to (fun r k => rIx.z k ⟨rfl, rfl, rfl⟩)) (fun N => rfl)))) (fun v h2 hq => ?_) (fun i' h2 hq => by obtain ⟨hq, _⟩ := hq; obtain ⟨hq, _⟩ := hq; exact (by obtain ⟨_, hq, _⟩ := hq; cases hq))
  obtain ⟨hq, Y2⟩ := hq
  obtain ⟨hq, qx⟩ := hq
  have X2 := X1.qt qx
  obtain ⟨z2, hv, I2⟩ := hq
  cases hv
  refine mj_T.pl (loc' := [some (.ref 0), some (.ref 1), some (.ref 563), some (.ref 571), some (.int (jn i)), some (.int (jn z)), some (.int (jn z2)), l7, l8]) rfl rfl rfl rfl ?_
  refine mj_T.pl rfl rfl rfl rfl ?_
  exact k n1 tm er T h2 _ _ _ _ hn1 hn2 I2 X2 Y2
theorem jL_21 {n Lx : Nat} {xs : Nat → Int32} {tm er i : Int} {T : Nat → Int} {h : mj_H} {l5 l6 l7 l8 : Option Value} {Q : mj_R → Prop} (hi : 0 ≤ i ∧ i + 6 ≤ Lx) (hL : Lx ≤ 3072) (I : jLi cK cL cR (.inl (100, Lx, fun j => .int (xs j))) 571 563 n tm er T h) (X : jcx er tm T h) (Y : YX tm er T h) (k : ∀ (n' : Nat) (tm' er' : Int) (T' : Nat → Int) (h' : mj_H) (l5 l6 l7 l8 : Option Value), n ≤ n' → n' ≤ n + 1 → jLi cK cL cR (.inl (100, Lx, fun j => .int (xs j))) 571 563 n' tm' er' T' h' → jcx er' tm' T' h' → YX tm' er' T' h' → mj_T 100 mj_mK 2072 [some (.ref 0), some (.ref 1), some (.ref 563), some (.ref 571), some (.int (jn i)), l5, l6, l7, l8] [] h' Q) : mj_T 100 mj_mK 1134 [some (.ref 0), some (.ref 1), some (.ref 563), some (.ref 571), some (.int (jn i)), l5, l6, l7, l8] [] h Q := by
  obtain ⟨N0, u0, H0, hr0, s0, E0, J0⟩ := Y
  have A0 := J0.AS
  refine mj_T.pl rfl rfl rfl rfl ?_
  refine jL.arg (k := 1) I.2.1 hi hL ⟨by decide, by decide⟩ rfl rfl rfl rfl rfl ?_
  refine jT.asJ ?_
  refine mj_T.eq (pc2 := 1141) ?_ rfl rfl rfl rfl
  refine mj_T.pl rfl rfl rfl rfl ?_
  refine mj_T.call rfl rfl (Nat.le_of_ble_eq_true rfl) (Nat.le_of_ble_eq_true rfl) rfl rfl (mj_Ok.up (by decide) (mj_Ok.and (mj_Ok.up (by decide) ((jw_329 (D := 0) cTY I.1 ck0.2 (jr_of' _)).qt rfl)) (jy_329 I.1 (jr_of' _) (yr_123 A0 s0 I.1 (jr_of' _))))) (fun v h1 hq => ?_) (fun i' h1 hq => by obtain ⟨hq, _⟩ := hq; obtain ⟨hq, _⟩ := hq; exact (by obtain ⟨_, hq, _⟩ := hq; cases hq))
  obtain ⟨hq, qy⟩ := hq
  obtain ⟨hq, qx⟩ := hq
  have X1 := X.qt qx
  obtain ⟨z, hv, ⟨n1, hn1, hn2, w1⟩, f1⟩ := hq
  cases hv
  have I1 := I.cls jZ_pl w1 hn1 f1
  have E1 := E0.frame jZ_pl f1 (by have e1 := I.1.1.1; have e2 := w1.1.1; have e3 := hn1; omega)
  refine mj_T.pl (loc' := [some (.ref 0), some (.ref 1), some (.ref 563), some (.ref 571), some (.int (jn i)), some (.int (jn z)), l6, l7, l8]) rfl rfl rfl rfl ?_
  refine mj_T.pl rfl rfl rfl rfl ?_
  refine jL.arg (k := 1) I1.2.1 hi hL ⟨by decide, by decide⟩ rfl rfl rfl rfl rfl ?_
  refine jT.asJ ?_
  refine mj_T.eq (pc2 := 1154) ?_ rfl rfl rfl rfl
  obtain ⟨fs, ho⟩ := I1.obj
  refine mj_T.call rfl rfl (Nat.le_of_ble_eq_true rfl) (Nat.le_of_ble_eq_true rfl) (by simp [mj_recv, ho]) rfl (mj_Ok.up (by decide) (mj_Ok.and (mj_Ok.up (by decide) ((I1.callI jZ_pl (fun hr hI => rp_content (jr_of _) hI) (fun N => rfl)).qt rfl)) (YX.call (tm' := tm) (er' := er) (T' := T) E1 qy (sameQ.ag _ _ _) ((rx_content (jr_of _) J0).to (fun r k => rIx.z k ⟨rfl, rfl, rfl⟩)) (fun N => rfl)))) (fun v h2 hq => ?_) (fun i' h2 hq => by obtain ⟨hq, _⟩ := hq; obtain ⟨hq, _⟩ := hq; exact (by obtain ⟨_, hq, _⟩ := hq; cases hq))
  obtain ⟨hq, Y2⟩ := hq
  obtain ⟨hq, qx⟩ := hq
  have X2 := X1.qt qx
  obtain ⟨z2, hv, I2⟩ := hq
  cases hv
  refine mj_T.pl (loc' := [some (.ref 0), some (.ref 1), some (.ref 563), some (.ref 571), some (.int (jn i)), some (.int (jn z)), some (.int (jn z2)), l7, l8]) rfl rfl rfl rfl ?_
  refine mj_T.pl rfl rfl rfl rfl ?_
  exact k n1 tm er T h2 _ _ _ _ hn1 hn2 I2 X2 Y2
theorem jL_22 {n Lx : Nat} {xs : Nat → Int32} {tm er i : Int} {T : Nat → Int} {h : mj_H} {l5 l6 l7 l8 : Option Value} {Q : mj_R → Prop} (hi : 0 ≤ i ∧ i + 6 ≤ Lx) (hL : Lx ≤ 3072) (I : jLi cK cL cR (.inl (100, Lx, fun j => .int (xs j))) 571 563 n tm er T h) (X : jcx er tm T h) (Y : YX tm er T h) (k : ∀ (n' : Nat) (tm' er' : Int) (T' : Nat → Int) (h' : mj_H) (l5 l6 l7 l8 : Option Value), n ≤ n' → n' ≤ n + 1 → jLi cK cL cR (.inl (100, Lx, fun j => .int (xs j))) 571 563 n' tm' er' T' h' → jcx er' tm' T' h' → YX tm' er' T' h' → mj_T 100 mj_mK 2072 [some (.ref 0), some (.ref 1), some (.ref 563), some (.ref 571), some (.int (jn i)), l5, l6, l7, l8] [] h' Q) : mj_T 100 mj_mK 1162 [some (.ref 0), some (.ref 1), some (.ref 563), some (.ref 571), some (.int (jn i)), l5, l6, l7, l8] [] h Q := by
  obtain ⟨N0, u0, H0, hr0, s0, E0, J0⟩ := Y
  have A0 := J0.AS
  refine mj_T.pl rfl rfl rfl rfl ?_
  refine jL.arg (k := 1) I.2.1 hi hL ⟨by decide, by decide⟩ rfl rfl rfl rfl rfl ?_
  refine jT.asJ ?_
  refine mj_T.eq (pc2 := 1169) ?_ rfl rfl rfl rfl
  refine jL.arg (k := 2) I.2.1 hi hL ⟨by decide, by decide⟩ rfl rfl rfl rfl rfl ?_
  refine jT.asJ ?_
  refine mj_T.eq (pc2 := 1175) ?_ rfl rfl rfl rfl
  refine jL.arg (k := 3) I.2.1 hi hL ⟨by decide, by decide⟩ rfl rfl rfl rfl rfl ?_
  refine jT.asJ ?_
  refine mj_T.eq (pc2 := 1181) ?_ rfl rfl rfl rfl
  refine mj_T.pl rfl rfl rfl rfl ?_
  refine mj_T.call rfl rfl (Nat.le_of_ble_eq_true rfl) (Nat.le_of_ble_eq_true rfl) rfl rfl (mj_Ok.up (by decide) (mj_Ok.and (mj_Ok.up (by decide) ((jw_330 (D := 0) cTY I.1 ck0.2 (jr_of' _) (jr_of' _) (jr_of' _)).qt rfl)) (jy_330 I.1 (jr_of' _) (jr_of' _) (jr_of' _) (yr_124 A0 s0 I.1 (jr_of' _) (jr_of' _) (jr_of' _))))) (fun v h1 hq => ?_) (fun i' h1 hq => by obtain ⟨hq, _⟩ := hq; obtain ⟨hq, _⟩ := hq; exact (by obtain ⟨_, hq, _⟩ := hq; cases hq))
  obtain ⟨hq, qy⟩ := hq
  obtain ⟨hq, qx⟩ := hq
  have X1 := X.qt qx
  obtain ⟨z, hv, ⟨n1, hn1, hn2, w1⟩, f1⟩ := hq
  cases hv
  have I1 := I.cls jZ_pl w1 hn1 f1
  have E1 := E0.frame jZ_pl f1 (by have e1 := I.1.1.1; have e2 := w1.1.1; have e3 := hn1; omega)
  refine mj_T.pl (loc' := [some (.ref 0), some (.ref 1), some (.ref 563), some (.ref 571), some (.int (jn i)), some (.int (jn z)), l6, l7, l8]) rfl rfl rfl rfl ?_
  refine mj_T.pl rfl rfl rfl rfl ?_
  refine jL.arg (k := 1) I1.2.1 hi hL ⟨by decide, by decide⟩ rfl rfl rfl rfl rfl ?_
  refine jT.asJ ?_
  refine mj_T.eq (pc2 := 1194) ?_ rfl rfl rfl rfl
  refine jL.arg (k := 2) I1.2.1 hi hL ⟨by decide, by decide⟩ rfl rfl rfl rfl rfl ?_
  refine jT.asJ ?_
  refine mj_T.eq (pc2 := 1200) ?_ rfl rfl rfl rfl
  refine jL.arg (k := 3) I1.2.1 hi hL ⟨by decide, by decide⟩ rfl rfl rfl rfl rfl ?_
  refine jT.asJ ?_
  refine mj_T.eq (pc2 := 1206) ?_ rfl rfl rfl rfl
  obtain ⟨fs, ho⟩ := I1.obj
  refine mj_T.call rfl rfl (Nat.le_of_ble_eq_true rfl) (Nat.le_of_ble_eq_true rfl) (by simp [mj_recv, ho]) rfl (mj_Ok.up (by decide) (mj_Ok.and (mj_Ok.up (by decide) ((I1.callI jZ_pl (fun hr hI => rp_value (jr_of _) (jr_of _) (jr_of _) hI) (fun N => rfl)).qt rfl)) (YX.call (tm' := tm) (er' := er) (T' := T) E1 qy (sameQ.ag _ _ _) ((rx_value (jr_of _) (jr_of _) (jr_of _) J0).to (fun r k => rIx.z k ⟨rfl, rfl, rfl⟩)) (fun N => rfl)))) (fun v h2 hq => ?_) (fun i' h2 hq => by obtain ⟨hq, _⟩ := hq; obtain ⟨hq, _⟩ := hq; exact (by obtain ⟨_, hq, _⟩ := hq; cases hq))
  obtain ⟨hq, Y2⟩ := hq
  obtain ⟨hq, qx⟩ := hq
  have X2 := X1.qt qx
  obtain ⟨z2, hv, I2⟩ := hq
  cases hv
  refine mj_T.pl (loc' := [some (.ref 0), some (.ref 1), some (.ref 563), some (.ref 571), some (.int (jn i)), some (.int (jn z)), some (.int (jn z2)), l7, l8]) rfl rfl rfl rfl ?_
  refine mj_T.pl rfl rfl rfl rfl ?_
  exact k n1 tm er T h2 _ _ _ _ hn1 hn2 I2 X2 Y2
theorem jL_23 {n Lx : Nat} {xs : Nat → Int32} {tm er i : Int} {T : Nat → Int} {h : mj_H} {l5 l6 l7 l8 : Option Value} {Q : mj_R → Prop} (hi : 0 ≤ i ∧ i + 6 ≤ Lx) (hL : Lx ≤ 3072) (I : jLi cK cL cR (.inl (100, Lx, fun j => .int (xs j))) 571 563 n tm er T h) (X : jcx er tm T h) (Y : YX tm er T h) (k : ∀ (n' : Nat) (tm' er' : Int) (T' : Nat → Int) (h' : mj_H) (l5 l6 l7 l8 : Option Value), n ≤ n' → n' ≤ n + 1 → jLi cK cL cR (.inl (100, Lx, fun j => .int (xs j))) 571 563 n' tm' er' T' h' → jcx er' tm' T' h' → YX tm' er' T' h' → mj_T 100 mj_mK 2072 [some (.ref 0), some (.ref 1), some (.ref 563), some (.ref 571), some (.int (jn i)), l5, l6, l7, l8] [] h' Q) : mj_T 100 mj_mK 1214 [some (.ref 0), some (.ref 1), some (.ref 563), some (.ref 571), some (.int (jn i)), l5, l6, l7, l8] [] h Q := by
  obtain ⟨N0, u0, H0, hr0, s0, E0, J0⟩ := Y
  have A0 := J0.AS
  refine mj_T.pl rfl rfl rfl rfl ?_
  refine jL.arg (k := 1) I.2.1 hi hL ⟨by decide, by decide⟩ rfl rfl rfl rfl rfl ?_
  refine jT.asJ ?_
  refine mj_T.eq (pc2 := 1221) ?_ rfl rfl rfl rfl
  refine jL.arg (k := 2) I.2.1 hi hL ⟨by decide, by decide⟩ rfl rfl rfl rfl rfl ?_
  refine jT.asJ ?_
  refine mj_T.eq (pc2 := 1227) ?_ rfl rfl rfl rfl
  refine mj_T.pl rfl rfl rfl rfl ?_
  refine mj_T.call rfl rfl (Nat.le_of_ble_eq_true rfl) (Nat.le_of_ble_eq_true rfl) rfl rfl (mj_Ok.up (by decide) (mj_Ok.and (mj_Ok.up (by decide) ((jw_331 (D := 0) cTY I.1 ck0.2 (jr_of' _) (jr_of' _)).qt rfl)) (jy_331 I.1 (jr_of' _) (jr_of' _) (yr_125 A0 s0 I.1 (jr_of' _) (jr_of' _))))) (fun v h1 hq => ?_) (fun i' h1 hq => by obtain ⟨hq, _⟩ := hq; obtain ⟨hq, _⟩ := hq; exact (by obtain ⟨_, hq, _⟩ := hq; cases hq))
  obtain ⟨hq, qy⟩ := hq
  obtain ⟨hq, qx⟩ := hq
  have X1 := X.qt qx
  obtain ⟨z, hv, ⟨n1, hn1, hn2, w1⟩, f1⟩ := hq
  cases hv
  have I1 := I.cls jZ_pl w1 hn1 f1
  have E1 := E0.frame jZ_pl f1 (by have e1 := I.1.1.1; have e2 := w1.1.1; have e3 := hn1; omega)
  refine mj_T.pl (loc' := [some (.ref 0), some (.ref 1), some (.ref 563), some (.ref 571), some (.int (jn i)), some (.int (jn z)), l6, l7, l8]) rfl rfl rfl rfl ?_
  refine mj_T.pl rfl rfl rfl rfl ?_
  refine jL.arg (k := 1) I1.2.1 hi hL ⟨by decide, by decide⟩ rfl rfl rfl rfl rfl ?_
  refine jT.asJ ?_
  refine mj_T.eq (pc2 := 1240) ?_ rfl rfl rfl rfl
  refine jL.arg (k := 2) I1.2.1 hi hL ⟨by decide, by decide⟩ rfl rfl rfl rfl rfl ?_
  refine jT.asJ ?_
  refine mj_T.eq (pc2 := 1246) ?_ rfl rfl rfl rfl
  obtain ⟨fs, ho⟩ := I1.obj
  refine mj_T.call rfl rfl (Nat.le_of_ble_eq_true rfl) (Nat.le_of_ble_eq_true rfl) (by simp [mj_recv, ho]) rfl (mj_Ok.up (by decide) (mj_Ok.and (mj_Ok.up (by decide) ((I1.callI jZ_pl (fun hr hI => rp_divides (jr_of _) (jr_of _) hI) (fun N => rfl)).qt rfl)) (YX.call (tm' := tm) (er' := er) (T' := T) E1 qy (sameQ.ag _ _ _) ((rx_divides (jr_of _) (jr_of _) J0).to (fun r k => rIx.z k ⟨rfl, rfl, rfl⟩)) (fun N => rfl)))) (fun v h2 hq => ?_) (fun i' h2 hq => by obtain ⟨hq, _⟩ := hq; obtain ⟨hq, _⟩ := hq; exact (by obtain ⟨_, hq, _⟩ := hq; cases hq))
  obtain ⟨hq, Y2⟩ := hq
  obtain ⟨hq, qx⟩ := hq
  have X2 := X1.qt qx
  obtain ⟨z2, hv, I2⟩ := hq
  cases hv
  refine mj_T.pl (loc' := [some (.ref 0), some (.ref 1), some (.ref 563), some (.ref 571), some (.int (jn i)), some (.int (jn z)), some (.int (jn z2)), l7, l8]) rfl rfl rfl rfl ?_
  refine mj_T.pl rfl rfl rfl rfl ?_
  exact k n1 tm er T h2 _ _ _ _ hn1 hn2 I2 X2 Y2
theorem jL_24 {n Lx : Nat} {xs : Nat → Int32} {tm er i : Int} {T : Nat → Int} {h : mj_H} {l5 l6 l7 l8 : Option Value} {Q : mj_R → Prop} (hi : 0 ≤ i ∧ i + 6 ≤ Lx) (hL : Lx ≤ 3072) (I : jLi cK cL cR (.inl (100, Lx, fun j => .int (xs j))) 571 563 n tm er T h) (X : jcx er tm T h) (Y : YX tm er T h) (k : ∀ (n' : Nat) (tm' er' : Int) (T' : Nat → Int) (h' : mj_H) (l5 l6 l7 l8 : Option Value), n ≤ n' → n' ≤ n + 1 → jLi cK cL cR (.inl (100, Lx, fun j => .int (xs j))) 571 563 n' tm' er' T' h' → jcx er' tm' T' h' → YX tm' er' T' h' → mj_T 100 mj_mK 2072 [some (.ref 0), some (.ref 1), some (.ref 563), some (.ref 571), some (.int (jn i)), l5, l6, l7, l8] [] h' Q) : mj_T 100 mj_mK 1254 [some (.ref 0), some (.ref 1), some (.ref 563), some (.ref 571), some (.int (jn i)), l5, l6, l7, l8] [] h Q := by
  obtain ⟨N0, u0, H0, hr0, s0, E0, J0⟩ := Y
  have A0 := J0.AS
  refine mj_T.pl rfl rfl rfl rfl ?_
  refine jL.arg (k := 1) I.2.1 hi hL ⟨by decide, by decide⟩ rfl rfl rfl rfl rfl ?_
  refine jT.asJ ?_
  refine mj_T.eq (pc2 := 1261) ?_ rfl rfl rfl rfl
  refine jL.arg (k := 2) I.2.1 hi hL ⟨by decide, by decide⟩ rfl rfl rfl rfl rfl ?_
  refine jT.asJ ?_
  refine mj_T.eq (pc2 := 1267) ?_ rfl rfl rfl rfl
  refine mj_T.pl rfl rfl rfl rfl ?_
  refine mj_T.call rfl rfl (Nat.le_of_ble_eq_true rfl) (Nat.le_of_ble_eq_true rfl) rfl rfl (mj_Ok.up (by decide) (mj_Ok.and (mj_Ok.up (by decide) ((jw_332 (D := 0) cTY I.1 ck0.2 (jr_of' _) (jr_of' _)).qt rfl)) (jy_332 I.1 (jr_of' _) (jr_of' _) (yr_126 A0 s0 I.1 (jr_of' _) (jr_of' _))))) (fun v h1 hq => ?_) (fun i' h1 hq => by obtain ⟨hq, _⟩ := hq; obtain ⟨hq, _⟩ := hq; exact (by obtain ⟨_, hq, _⟩ := hq; cases hq))
  obtain ⟨hq, qy⟩ := hq
  obtain ⟨hq, qx⟩ := hq
  have X1 := X.qt qx
  obtain ⟨z, hv, ⟨n1, hn1, hn2, w1⟩, f1⟩ := hq
  cases hv
  have I1 := I.cls jZ_pl w1 hn1 f1
  have E1 := E0.frame jZ_pl f1 (by have e1 := I.1.1.1; have e2 := w1.1.1; have e3 := hn1; omega)
  refine mj_T.pl (loc' := [some (.ref 0), some (.ref 1), some (.ref 563), some (.ref 571), some (.int (jn i)), some (.int (jn z)), l6, l7, l8]) rfl rfl rfl rfl ?_
  refine mj_T.pl rfl rfl rfl rfl ?_
  refine jL.arg (k := 1) I1.2.1 hi hL ⟨by decide, by decide⟩ rfl rfl rfl rfl rfl ?_
  refine jT.asJ ?_
  refine mj_T.eq (pc2 := 1280) ?_ rfl rfl rfl rfl
  refine jL.arg (k := 2) I1.2.1 hi hL ⟨by decide, by decide⟩ rfl rfl rfl rfl rfl ?_
  refine jT.asJ ?_
  refine mj_T.eq (pc2 := 1286) ?_ rfl rfl rfl rfl
  obtain ⟨fs, ho⟩ := I1.obj
  refine mj_T.call rfl rfl (Nat.le_of_ble_eq_true rfl) (Nat.le_of_ble_eq_true rfl) (by simp [mj_recv, ho]) rfl (mj_Ok.up (by decide) (mj_Ok.and (mj_Ok.up (by decide) ((I1.callI jZ_pl (fun hr hI => rp_areSame (jr_of _) (jr_of _) hI) (fun N => rfl)).qt rfl)) (YX.call (tm' := tm) (er' := er) (T' := T) E1 qy (sameQ.ag _ _ _) ((rx_areSame (jr_of _) (jr_of _) J0).to (fun r k => rIx.z k ⟨rfl, rfl, rfl⟩)) (fun N => rfl)))) (fun v h2 hq => ?_) (fun i' h2 hq => by obtain ⟨hq, _⟩ := hq; obtain ⟨hq, _⟩ := hq; exact (by obtain ⟨_, hq, _⟩ := hq; cases hq))
  obtain ⟨hq, Y2⟩ := hq
  obtain ⟨hq, qx⟩ := hq
  have X2 := X1.qt qx
  obtain ⟨z2, hv, I2⟩ := hq
  cases hv
  refine mj_T.pl (loc' := [some (.ref 0), some (.ref 1), some (.ref 563), some (.ref 571), some (.int (jn i)), some (.int (jn z)), some (.int (jn z2)), l7, l8]) rfl rfl rfl rfl ?_
  refine mj_T.pl rfl rfl rfl rfl ?_
  exact k n1 tm er T h2 _ _ _ _ hn1 hn2 I2 X2 Y2
theorem jL_25 {n Lx : Nat} {xs : Nat → Int32} {tm er i : Int} {T : Nat → Int} {h : mj_H} {l5 l6 l7 l8 : Option Value} {Q : mj_R → Prop} (hi : 0 ≤ i ∧ i + 6 ≤ Lx) (hL : Lx ≤ 3072) (I : jLi cK cL cR (.inl (100, Lx, fun j => .int (xs j))) 571 563 n tm er T h) (X : jcx er tm T h) (Y : YX tm er T h) (k : ∀ (n' : Nat) (tm' er' : Int) (T' : Nat → Int) (h' : mj_H) (l5 l6 l7 l8 : Option Value), n ≤ n' → n' ≤ n + 1 → jLi cK cL cR (.inl (100, Lx, fun j => .int (xs j))) 571 563 n' tm' er' T' h' → jcx er' tm' T' h' → YX tm' er' T' h' → mj_T 100 mj_mK 2072 [some (.ref 0), some (.ref 1), some (.ref 563), some (.ref 571), some (.int (jn i)), l5, l6, l7, l8] [] h' Q) : mj_T 100 mj_mK 1294 [some (.ref 0), some (.ref 1), some (.ref 563), some (.ref 571), some (.int (jn i)), l5, l6, l7, l8] [] h Q := by
  obtain ⟨N0, u0, H0, hr0, s0, E0, J0⟩ := Y
  have A0 := J0.AS
  refine mj_T.pl rfl rfl rfl rfl ?_
  refine jL.arg (k := 1) I.2.1 hi hL ⟨by decide, by decide⟩ rfl rfl rfl rfl rfl ?_
  refine jT.asJ ?_
  refine mj_T.eq (pc2 := 1301) ?_ rfl rfl rfl rfl
  refine jL.arg (k := 2) I.2.1 hi hL ⟨by decide, by decide⟩ rfl rfl rfl rfl rfl ?_
  refine jT.asJ ?_
  refine mj_T.eq (pc2 := 1307) ?_ rfl rfl rfl rfl
  refine mj_T.pl rfl rfl rfl rfl ?_
  refine mj_T.call rfl rfl (Nat.le_of_ble_eq_true rfl) (Nat.le_of_ble_eq_true rfl) rfl rfl (mj_Ok.up (by decide) (mj_Ok.and (mj_Ok.up (by decide) ((jw_333 (D := 0) cTY I.1 ck0.2 (jr_of' _) (jr_of' _)).qt rfl)) (jy_333 I.1 (jr_of' _) (jr_of' _) (yr_127 A0 s0 I.1 (jr_of' _) (jr_of' _))))) (fun v h1 hq => ?_) (fun i' h1 hq => by obtain ⟨hq, _⟩ := hq; obtain ⟨hq, _⟩ := hq; exact (by obtain ⟨_, hq, _⟩ := hq; cases hq))
  obtain ⟨hq, qy⟩ := hq
  obtain ⟨hq, qx⟩ := hq
  have X1 := X.qt qx
  obtain ⟨z, hv, ⟨n1, hn1, hn2, w1⟩, f1⟩ := hq
  cases hv
  have I1 := I.cls jZ_pl w1 hn1 f1
  have E1 := E0.frame jZ_pl f1 (by have e1 := I.1.1.1; have e2 := w1.1.1; have e3 := hn1; omega)
  refine mj_T.pl (loc' := [some (.ref 0), some (.ref 1), some (.ref 563), some (.ref 571), some (.int (jn i)), some (.int (jn z)), l6, l7, l8]) rfl rfl rfl rfl ?_
  refine mj_T.pl rfl rfl rfl rfl ?_
  refine jL.arg (k := 1) I1.2.1 hi hL ⟨by decide, by decide⟩ rfl rfl rfl rfl rfl ?_
  refine jT.asJ ?_
  refine mj_T.eq (pc2 := 1320) ?_ rfl rfl rfl rfl
  refine jL.arg (k := 2) I1.2.1 hi hL ⟨by decide, by decide⟩ rfl rfl rfl rfl rfl ?_
  refine jT.asJ ?_
  refine mj_T.eq (pc2 := 1326) ?_ rfl rfl rfl rfl
  obtain ⟨fs, ho⟩ := I1.obj
  refine mj_T.call rfl rfl (Nat.le_of_ble_eq_true rfl) (Nat.le_of_ble_eq_true rfl) (by simp [mj_recv, ho]) rfl (mj_Ok.up (by decide) (mj_Ok.and (mj_Ok.up (by decide) ((I1.callI jZ_pl (fun hr hI => rp_agreements (jr_of _) (jr_of _) hI) (fun N => rfl)).qt rfl)) (YX.call (tm' := tm) (er' := er) (T' := T) E1 qy (sameQ.ag _ _ _) ((rx_agreements (jr_of _) (jr_of _) J0).to (fun r k => rIx.z k ⟨rfl, rfl, rfl⟩)) (fun N => rfl)))) (fun v h2 hq => ?_) (fun i' h2 hq => by obtain ⟨hq, _⟩ := hq; obtain ⟨hq, _⟩ := hq; exact (by obtain ⟨_, hq, _⟩ := hq; cases hq))
  obtain ⟨hq, Y2⟩ := hq
  obtain ⟨hq, qx⟩ := hq
  have X2 := X1.qt qx
  obtain ⟨z2, hv, I2⟩ := hq
  cases hv
  refine mj_T.pl (loc' := [some (.ref 0), some (.ref 1), some (.ref 563), some (.ref 571), some (.int (jn i)), some (.int (jn z)), some (.int (jn z2)), l7, l8]) rfl rfl rfl rfl ?_
  refine mj_T.pl rfl rfl rfl rfl ?_
  exact k n1 tm er T h2 _ _ _ _ hn1 hn2 I2 X2 Y2
