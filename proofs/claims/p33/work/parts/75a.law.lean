/-! Rounds of the law. -/
theorem jLi.hT {K L : Nat → Nat} {R : Nat → Nat → Nat} {e0 : mj_E} {q m n tm0 : Nat} {er : Int} {T : Nat → Int} {h : mj_H} (I : jLi K L R e0 q m n (tm0 : Int) er T h) : ∀ j : Nat, j < tm0 → 1 ≤ T j ∧ T j ≤ 255 := by
  obtain ⟨_, _, hr, _, S, N, B, X, V, hs, K⟩ := I
  exact fun j hj => K.2.2.2.2.2.2.2.2 j (by omega)
theorem jLi.er {K L : Nat → Nat} {R : Nat → Nat → Nat} {e0 : mj_E} {q m n : Nat} {tm er : Int} {T : Nat → Int} {h : mj_H} (I : jLi K L R e0 q m n tm er T h) : -2147483648 ≤ er ∧ er ≤ 2147483647 := by
  obtain ⟨_, _, hr, _, S, N, B, X, V, hs, K⟩ := I
  have h1 := K.2.2.2.2.1
  have h2 := K.2.2.2.2.2.2.1 12
  rw [h1] at h2
  exact ⟨h2.1, by have := h2.2; omega⟩
theorem jL_0 {n Lx : Nat} {xs : Nat → Int32} {tm er i : Int} {T : Nat → Int} {h : mj_H} {l5 l6 l7 l8 : Option Value} {Q : mj_R → Prop} (hi : 0 ≤ i ∧ i + 6 ≤ Lx) (hL : Lx ≤ 3072) (I : jLi cK cL cR (.inl (100, Lx, fun j => .int (xs j))) 571 563 n tm er T h) (X : jcx er tm T h) (Y : YX tm er T h) (k : ∀ (n' : Nat) (tm' er' : Int) (T' : Nat → Int) (h' : mj_H) (l5 l6 l7 l8 : Option Value), n ≤ n' → n' ≤ n + 1 → jLi cK cL cR (.inl (100, Lx, fun j => .int (xs j))) 571 563 n' tm' er' T' h' → jcx er' tm' T' h' → YX tm' er' T' h' → mj_T 100 mj_mK 2100 [some (.ref 0), some (.ref 1), some (.ref 563), some (.ref 571), some (.int (jn i)), l5, l6, l7, l8] [] h' Q) : mj_T 100 mj_mK 244 [some (.ref 0), some (.ref 1), some (.ref 563), some (.ref 571), some (.int (jn i)), l5, l6, l7, l8] [] h Q := by
  obtain ⟨N0, u0, H0, hr0, s0, E0, J0⟩ := Y
  have A0 := J0.AS
  refine mj_T.pl rfl rfl rfl rfl ?_
  refine jL.arg (k := 1) I.2.1 hi hL ⟨by decide, by decide⟩ rfl rfl rfl rfl rfl ?_
  refine jT.asJ ?_
  refine mj_T.eq (pc2 := 251) ?_ rfl rfl rfl rfl
  refine jL.arg (k := 2) I.2.1 hi hL ⟨by decide, by decide⟩ rfl rfl rfl rfl rfl ?_
  refine jT.asJ ?_
  refine mj_T.eq (pc2 := 257) ?_ rfl rfl rfl rfl
  refine jL.arg (k := 3) I.2.1 hi hL ⟨by decide, by decide⟩ rfl rfl rfl rfl rfl ?_
  refine jT.asJ ?_
  refine mj_T.eq (pc2 := 263) ?_ rfl rfl rfl rfl
  refine mj_T.pl rfl rfl rfl rfl ?_
  refine mj_T.call rfl rfl (Nat.le_of_ble_eq_true rfl) (Nat.le_of_ble_eq_true rfl) rfl rfl (mj_Ok.up (by decide) (mj_Ok.and (mj_Ok.up (by decide) ((jw_310 (D := 0) cTY I.1 ck0.2 (jr_of' _) (jr_of' _) (jr_of' _)).qt rfl)) (jy_310 I.1 (jr_of' _) (jr_of' _) (jr_of' _) ((cz_102 A0 s0 (jr_of' _) (jr_of' _) (jr_of' _)).to (fun _ y => y.yz))))) (fun v h1 hq => ?_) (fun i' h1 hq => by obtain ⟨hq, _⟩ := hq; obtain ⟨hq, _⟩ := hq; exact (by obtain ⟨_, hq, _⟩ := hq; cases hq))
  obtain ⟨hq, qy⟩ := hq
  obtain ⟨hq, qx⟩ := hq
  have X1 := X.qt qx
  obtain ⟨z, hv, ⟨n1, hn1, hn2, w1⟩, f1⟩ := hq
  cases hv
  have I1 := I.cls jZ_pl w1 hn1 f1
  have E1 := E0.frame jZ_pl f1 (by have e1 := I.1.1.1; have e2 := w1.1.1; have e3 := hn1; omega)
  refine mj_T.pl (loc' := [some (.ref 0), some (.ref 1), some (.ref 563), some (.ref 571), some (.int (jn i)), some (.int (jn z)), l6, l7, l8]) rfl rfl rfl rfl ?_
  refine mj_T.pl rfl rfl rfl rfl ?_
  refine jL.arg (k := 1) I1.2.1 hi hL ⟨by decide, by decide⟩ rfl rfl rfl rfl rfl ?_
  refine jT.asJ ?_
  refine mj_T.eq (pc2 := 276) ?_ rfl rfl rfl rfl
  refine jL.arg (k := 2) I1.2.1 hi hL ⟨by decide, by decide⟩ rfl rfl rfl rfl rfl ?_
  refine jT.asJ ?_
  refine mj_T.eq (pc2 := 282) ?_ rfl rfl rfl rfl
  refine jL.arg (k := 3) I1.2.1 hi hL ⟨by decide, by decide⟩ rfl rfl rfl rfl rfl ?_
  refine jT.asJ ?_
  refine mj_T.eq (pc2 := 288) ?_ rfl rfl rfl rfl
  obtain ⟨fs, ho⟩ := I1.obj
  refine mj_T.call rfl rfl (Nat.le_of_ble_eq_true rfl) (Nat.le_of_ble_eq_true rfl) (by simp [mj_recv, ho]) rfl (mj_Ok.up (by decide) (mj_Ok.and (mj_Ok.up (by decide) ((I1.callI jZ_pl (fun hr hI => rp_add (jr_of _) (jr_of _) (jr_of _) hI) (fun N => rfl)).qt rfl)) (YX.call (tm' := tm) (er' := er) (T' := T) E1 qy (Q_sum.ag _ _ _ _) (rz_add (jr_of _) (jr_of _) (jr_of _) J0) (fun N => rfl)))) (fun v h2 hq => ?_) (fun i' h2 hq => by obtain ⟨hq, _⟩ := hq; obtain ⟨hq, _⟩ := hq; exact (by obtain ⟨_, hq, _⟩ := hq; cases hq))
  obtain ⟨hq, Y2⟩ := hq
  obtain ⟨hq, qx⟩ := hq
  have X2 := X1.qt qx
  obtain ⟨z2, hv, I2⟩ := hq
  cases hv
  refine mj_T.pl (loc' := [some (.ref 0), some (.ref 1), some (.ref 563), some (.ref 571), some (.int (jn i)), some (.int (jn z)), some (.int (jn z2)), l7, l8]) rfl rfl rfl rfl ?_
  refine mj_T.pl rfl rfl rfl rfl ?_
  exact k n1 tm er T h2 _ _ _ _ hn1 hn2 I2 X2 Y2
theorem jL_1 {n Lx : Nat} {xs : Nat → Int32} {tm er i : Int} {T : Nat → Int} {h : mj_H} {l5 l6 l7 l8 : Option Value} {Q : mj_R → Prop} (hi : 0 ≤ i ∧ i + 6 ≤ Lx) (hL : Lx ≤ 3072) (I : jLi cK cL cR (.inl (100, Lx, fun j => .int (xs j))) 571 563 n tm er T h) (X : jcx er tm T h) (Y : YX tm er T h) (k : ∀ (n' : Nat) (tm' er' : Int) (T' : Nat → Int) (h' : mj_H) (l5 l6 l7 l8 : Option Value), n ≤ n' → n' ≤ n + 1 → jLi cK cL cR (.inl (100, Lx, fun j => .int (xs j))) 571 563 n' tm' er' T' h' → jcx er' tm' T' h' → YX tm' er' T' h' → mj_T 100 mj_mK 2100 [some (.ref 0), some (.ref 1), some (.ref 563), some (.ref 571), some (.int (jn i)), l5, l6, l7, l8] [] h' Q) : mj_T 100 mj_mK 296 [some (.ref 0), some (.ref 1), some (.ref 563), some (.ref 571), some (.int (jn i)), l5, l6, l7, l8] [] h Q := by
  obtain ⟨N0, u0, H0, hr0, s0, E0, J0⟩ := Y
  have A0 := J0.AS
  refine mj_T.pl rfl rfl rfl rfl ?_
  refine jL.arg (k := 1) I.2.1 hi hL ⟨by decide, by decide⟩ rfl rfl rfl rfl rfl ?_
  refine jT.asJ ?_
  refine mj_T.eq (pc2 := 303) ?_ rfl rfl rfl rfl
  refine jL.arg (k := 2) I.2.1 hi hL ⟨by decide, by decide⟩ rfl rfl rfl rfl rfl ?_
  refine jT.asJ ?_
  refine mj_T.eq (pc2 := 309) ?_ rfl rfl rfl rfl
  refine jL.arg (k := 3) I.2.1 hi hL ⟨by decide, by decide⟩ rfl rfl rfl rfl rfl ?_
  refine jT.asJ ?_
  refine mj_T.eq (pc2 := 315) ?_ rfl rfl rfl rfl
  refine mj_T.pl rfl rfl rfl rfl ?_
  refine mj_T.call rfl rfl (Nat.le_of_ble_eq_true rfl) (Nat.le_of_ble_eq_true rfl) rfl rfl (mj_Ok.up (by decide) (mj_Ok.and (mj_Ok.up (by decide) ((jw_311 (D := 0) cTY I.1 ck0.2 (jr_of' _) (jr_of' _) (jr_of' _)).qt rfl)) (jy_311 I.1 (jr_of' _) (jr_of' _) (jr_of' _) ((cz_103 A0 s0 (jr_of' _) (jr_of' _) (jr_of' _)).to (fun _ y => y.yz))))) (fun v h1 hq => ?_) (fun i' h1 hq => by obtain ⟨hq, _⟩ := hq; obtain ⟨hq, _⟩ := hq; exact (by obtain ⟨_, hq, _⟩ := hq; cases hq))
  obtain ⟨hq, qy⟩ := hq
  obtain ⟨hq, qx⟩ := hq
  have X1 := X.qt qx
  obtain ⟨z, hv, ⟨n1, hn1, hn2, w1⟩, f1⟩ := hq
  cases hv
  have I1 := I.cls jZ_pl w1 hn1 f1
  have E1 := E0.frame jZ_pl f1 (by have e1 := I.1.1.1; have e2 := w1.1.1; have e3 := hn1; omega)
  refine mj_T.pl (loc' := [some (.ref 0), some (.ref 1), some (.ref 563), some (.ref 571), some (.int (jn i)), some (.int (jn z)), l6, l7, l8]) rfl rfl rfl rfl ?_
  refine mj_T.pl rfl rfl rfl rfl ?_
  refine jL.arg (k := 1) I1.2.1 hi hL ⟨by decide, by decide⟩ rfl rfl rfl rfl rfl ?_
  refine jT.asJ ?_
  refine mj_T.eq (pc2 := 328) ?_ rfl rfl rfl rfl
  refine jL.arg (k := 2) I1.2.1 hi hL ⟨by decide, by decide⟩ rfl rfl rfl rfl rfl ?_
  refine jT.asJ ?_
  refine mj_T.eq (pc2 := 334) ?_ rfl rfl rfl rfl
  refine jL.arg (k := 3) I1.2.1 hi hL ⟨by decide, by decide⟩ rfl rfl rfl rfl rfl ?_
  refine jT.asJ ?_
  refine mj_T.eq (pc2 := 340) ?_ rfl rfl rfl rfl
  obtain ⟨fs, ho⟩ := I1.obj
  refine mj_T.call rfl rfl (Nat.le_of_ble_eq_true rfl) (Nat.le_of_ble_eq_true rfl) (by simp [mj_recv, ho]) rfl (mj_Ok.up (by decide) (mj_Ok.and (mj_Ok.up (by decide) ((I1.callI jZ_pl (fun hr hI => rp_subtract (jr_of _) (jr_of _) (jr_of _) hI) (fun N => rfl)).qt rfl)) (YX.call (tm' := tm) (er' := er) (T' := T) E1 qy (Q_sum.ag _ _ _ _) (rz_subtract (jr_of _) (jr_of _) (jr_of _) J0) (fun N => rfl)))) (fun v h2 hq => ?_) (fun i' h2 hq => by obtain ⟨hq, _⟩ := hq; obtain ⟨hq, _⟩ := hq; exact (by obtain ⟨_, hq, _⟩ := hq; cases hq))
  obtain ⟨hq, Y2⟩ := hq
  obtain ⟨hq, qx⟩ := hq
  have X2 := X1.qt qx
  obtain ⟨z2, hv, I2⟩ := hq
  cases hv
  refine mj_T.pl (loc' := [some (.ref 0), some (.ref 1), some (.ref 563), some (.ref 571), some (.int (jn i)), some (.int (jn z)), some (.int (jn z2)), l7, l8]) rfl rfl rfl rfl ?_
  refine mj_T.pl rfl rfl rfl rfl ?_
  exact k n1 tm er T h2 _ _ _ _ hn1 hn2 I2 X2 Y2
theorem jL_2 {n Lx : Nat} {xs : Nat → Int32} {tm er i : Int} {T : Nat → Int} {h : mj_H} {l5 l6 l7 l8 : Option Value} {Q : mj_R → Prop} (hi : 0 ≤ i ∧ i + 6 ≤ Lx) (hL : Lx ≤ 3072) (I : jLi cK cL cR (.inl (100, Lx, fun j => .int (xs j))) 571 563 n tm er T h) (X : jcx er tm T h) (Y : YX tm er T h) (k : ∀ (n' : Nat) (tm' er' : Int) (T' : Nat → Int) (h' : mj_H) (l5 l6 l7 l8 : Option Value), n ≤ n' → n' ≤ n + 1 → jLi cK cL cR (.inl (100, Lx, fun j => .int (xs j))) 571 563 n' tm' er' T' h' → jcx er' tm' T' h' → YX tm' er' T' h' → mj_T 100 mj_mK 2100 [some (.ref 0), some (.ref 1), some (.ref 563), some (.ref 571), some (.int (jn i)), l5, l6, l7, l8] [] h' Q) : mj_T 100 mj_mK 348 [some (.ref 0), some (.ref 1), some (.ref 563), some (.ref 571), some (.int (jn i)), l5, l6, l7, l8] [] h Q := by
  obtain ⟨N0, u0, H0, hr0, s0, E0, J0⟩ := Y
  have A0 := J0.AS
  refine mj_T.pl rfl rfl rfl rfl ?_
  refine jL.arg (k := 1) I.2.1 hi hL ⟨by decide, by decide⟩ rfl rfl rfl rfl rfl ?_
  refine jT.asJ ?_
  refine mj_T.eq (pc2 := 355) ?_ rfl rfl rfl rfl
  refine jL.arg (k := 2) I.2.1 hi hL ⟨by decide, by decide⟩ rfl rfl rfl rfl rfl ?_
  refine jT.asJ ?_
  refine mj_T.eq (pc2 := 361) ?_ rfl rfl rfl rfl
  refine jL.arg (k := 3) I.2.1 hi hL ⟨by decide, by decide⟩ rfl rfl rfl rfl rfl ?_
  refine jT.asJ ?_
  refine mj_T.eq (pc2 := 367) ?_ rfl rfl rfl rfl
  refine mj_T.pl rfl rfl rfl rfl ?_
  refine mj_T.call rfl rfl (Nat.le_of_ble_eq_true rfl) (Nat.le_of_ble_eq_true rfl) rfl rfl (mj_Ok.up (by decide) (mj_Ok.and (mj_Ok.up (by decide) ((jw_312 (D := 0) cTY I.1 ck0.2 (jr_of' _) (jr_of' _) (jr_of' _)).qt rfl)) (jy_312 I.1 (jr_of' _) (jr_of' _) (jr_of' _) ((cz_104 A0 s0 (jr_of' _) (jr_of' _) (jr_of' _)).to (fun _ y => y.yz))))) (fun v h1 hq => ?_) (fun i' h1 hq => by obtain ⟨hq, _⟩ := hq; obtain ⟨hq, _⟩ := hq; exact (by obtain ⟨_, hq, _⟩ := hq; cases hq))
  obtain ⟨hq, qy⟩ := hq
  obtain ⟨hq, qx⟩ := hq
  have X1 := X.qt qx
  obtain ⟨z, hv, ⟨n1, hn1, hn2, w1⟩, f1⟩ := hq
  cases hv
  have I1 := I.cls jZ_pl w1 hn1 f1
  have E1 := E0.frame jZ_pl f1 (by have e1 := I.1.1.1; have e2 := w1.1.1; have e3 := hn1; omega)
  refine mj_T.pl (loc' := [some (.ref 0), some (.ref 1), some (.ref 563), some (.ref 571), some (.int (jn i)), some (.int (jn z)), l6, l7, l8]) rfl rfl rfl rfl ?_
  refine mj_T.pl rfl rfl rfl rfl ?_
  refine jL.arg (k := 1) I1.2.1 hi hL ⟨by decide, by decide⟩ rfl rfl rfl rfl rfl ?_
  refine jT.asJ ?_
  refine mj_T.eq (pc2 := 380) ?_ rfl rfl rfl rfl
  refine jL.arg (k := 2) I1.2.1 hi hL ⟨by decide, by decide⟩ rfl rfl rfl rfl rfl ?_
  refine jT.asJ ?_
  refine mj_T.eq (pc2 := 386) ?_ rfl rfl rfl rfl
  refine jL.arg (k := 3) I1.2.1 hi hL ⟨by decide, by decide⟩ rfl rfl rfl rfl rfl ?_
  refine jT.asJ ?_
  refine mj_T.eq (pc2 := 392) ?_ rfl rfl rfl rfl
  obtain ⟨fs, ho⟩ := I1.obj
  refine mj_T.call rfl rfl (Nat.le_of_ble_eq_true rfl) (Nat.le_of_ble_eq_true rfl) (by simp [mj_recv, ho]) rfl (mj_Ok.up (by decide) (mj_Ok.and (mj_Ok.up (by decide) ((I1.callI jZ_pl (fun hr hI => rp_multiply (jr_of _) (jr_of _) (jr_of _) hI) (fun N => rfl)).qt rfl)) (YX.call (tm' := tm) (er' := er) (T' := T) E1 qy (Q_multiply.ag _ _ _) (rz_multiply (jr_of _) (jr_of _) (jr_of _) J0) (fun N => rfl)))) (fun v h2 hq => ?_) (fun i' h2 hq => by obtain ⟨hq, _⟩ := hq; obtain ⟨hq, _⟩ := hq; exact (by obtain ⟨_, hq, _⟩ := hq; cases hq))
  obtain ⟨hq, Y2⟩ := hq
  obtain ⟨hq, qx⟩ := hq
  have X2 := X1.qt qx
  obtain ⟨z2, hv, I2⟩ := hq
  cases hv
  refine mj_T.pl (loc' := [some (.ref 0), some (.ref 1), some (.ref 563), some (.ref 571), some (.int (jn i)), some (.int (jn z)), some (.int (jn z2)), l7, l8]) rfl rfl rfl rfl ?_
  refine mj_T.pl rfl rfl rfl rfl ?_
  exact k n1 tm er T h2 _ _ _ _ hn1 hn2 I2 X2 Y2
theorem jL_3 {n Lx : Nat} {xs : Nat → Int32} {tm er i : Int} {T : Nat → Int} {h : mj_H} {l5 l6 l7 l8 : Option Value} {Q : mj_R → Prop} (hi : 0 ≤ i ∧ i + 6 ≤ Lx) (hL : Lx ≤ 3072) (I : jLi cK cL cR (.inl (100, Lx, fun j => .int (xs j))) 571 563 n tm er T h) (X : jcx er tm T h) (Y : YX tm er T h) (k : ∀ (n' : Nat) (tm' er' : Int) (T' : Nat → Int) (h' : mj_H) (l5 l6 l7 l8 : Option Value), n ≤ n' → n' ≤ n + 1 → jLi cK cL cR (.inl (100, Lx, fun j => .int (xs j))) 571 563 n' tm' er' T' h' → jcx er' tm' T' h' → YX tm' er' T' h' → mj_T 100 mj_mK 2100 [some (.ref 0), some (.ref 1), some (.ref 563), some (.ref 571), some (.int (jn i)), l5, l6, l7, l8] [] h' Q) : mj_T 100 mj_mK 400 [some (.ref 0), some (.ref 1), some (.ref 563), some (.ref 571), some (.int (jn i)), l5, l6, l7, l8] [] h Q := by
  obtain ⟨N0, u0, H0, hr0, s0, E0, J0⟩ := Y
  have A0 := J0.AS
  refine mj_T.pl rfl rfl rfl rfl ?_
  refine jL.arg (k := 1) I.2.1 hi hL ⟨by decide, by decide⟩ rfl rfl rfl rfl rfl ?_
  refine jT.asJ ?_
  refine mj_T.eq (pc2 := 407) ?_ rfl rfl rfl rfl
  refine jL.arg (k := 2) I.2.1 hi hL ⟨by decide, by decide⟩ rfl rfl rfl rfl rfl ?_
  refine jT.asJ ?_
  refine mj_T.eq (pc2 := 413) ?_ rfl rfl rfl rfl
  refine jL.arg (k := 3) I.2.1 hi hL ⟨by decide, by decide⟩ rfl rfl rfl rfl rfl ?_
  refine jT.asJ ?_
  refine mj_T.eq (pc2 := 419) ?_ rfl rfl rfl rfl
  refine mj_T.pl rfl rfl rfl rfl ?_
  refine mj_T.call rfl rfl (Nat.le_of_ble_eq_true rfl) (Nat.le_of_ble_eq_true rfl) rfl rfl (mj_Ok.up (by decide) (mj_Ok.and (mj_Ok.up (by decide) ((jw_313 (D := 0) cTY I.1 ck0.2 (jr_of' _) (jr_of' _) (jr_of' _)).qt rfl)) (jy_313 I.1 (jr_of' _) (jr_of' _) (jr_of' _) ((cz_105 A0 s0 (jr_of' _) (jr_of' _) (jr_of' _)).to (fun _ y => y.yz))))) (fun v h1 hq => ?_) (fun i' h1 hq => by obtain ⟨hq, _⟩ := hq; obtain ⟨hq, _⟩ := hq; exact (by obtain ⟨_, hq, _⟩ := hq; cases hq))
  obtain ⟨hq, qy⟩ := hq
  obtain ⟨hq, qx⟩ := hq
  have X1 := X.qt qx
  obtain ⟨z, hv, ⟨n1, hn1, hn2, w1⟩, f1⟩ := hq
  cases hv
  have I1 := I.cls jZ_pl w1 hn1 f1
  have E1 := E0.frame jZ_pl f1 (by have e1 := I.1.1.1; have e2 := w1.1.1; have e3 := hn1; omega)
  refine mj_T.pl (loc' := [some (.ref 0), some (.ref 1), some (.ref 563), some (.ref 571), some (.int (jn i)), some (.int (jn z)), l6, l7, l8]) rfl rfl rfl rfl ?_
  refine mj_T.pl rfl rfl rfl rfl ?_
  refine jL.arg (k := 1) I1.2.1 hi hL ⟨by decide, by decide⟩ rfl rfl rfl rfl rfl ?_
  refine jT.asJ ?_
  refine mj_T.eq (pc2 := 432) ?_ rfl rfl rfl rfl
  refine jL.arg (k := 2) I1.2.1 hi hL ⟨by decide, by decide⟩ rfl rfl rfl rfl rfl ?_
  refine jT.asJ ?_
  refine mj_T.eq (pc2 := 438) ?_ rfl rfl rfl rfl
  refine jL.arg (k := 3) I1.2.1 hi hL ⟨by decide, by decide⟩ rfl rfl rfl rfl rfl ?_
  refine jT.asJ ?_
  refine mj_T.eq (pc2 := 444) ?_ rfl rfl rfl rfl
  obtain ⟨fs, ho⟩ := I1.obj
  refine mj_T.call rfl rfl (Nat.le_of_ble_eq_true rfl) (Nat.le_of_ble_eq_true rfl) (by simp [mj_recv, ho]) rfl (mj_Ok.up (by decide) (mj_Ok.and (mj_Ok.up (by decide) ((I1.callI jZ_pl (fun hr hI => rp_power (jr_of _) (jr_of _) (jr_of _) hI) (fun N => rfl)).qt rfl)) (YX.call (tm' := tm) (er' := er) (T' := T) E1 qy (Q_power.ag _ _ _) (rz_power (jr_of _) (jr_of _) (jr_of _) J0) (fun N => rfl)))) (fun v h2 hq => ?_) (fun i' h2 hq => by obtain ⟨hq, _⟩ := hq; obtain ⟨hq, _⟩ := hq; exact (by obtain ⟨_, hq, _⟩ := hq; cases hq))
  obtain ⟨hq, Y2⟩ := hq
  obtain ⟨hq, qx⟩ := hq
  have X2 := X1.qt qx
  obtain ⟨z2, hv, I2⟩ := hq
  cases hv
  refine mj_T.pl (loc' := [some (.ref 0), some (.ref 1), some (.ref 563), some (.ref 571), some (.int (jn i)), some (.int (jn z)), some (.int (jn z2)), l7, l8]) rfl rfl rfl rfl ?_
  refine mj_T.pl rfl rfl rfl rfl ?_
  exact k n1 tm er T h2 _ _ _ _ hn1 hn2 I2 X2 Y2
theorem jL_4 {n Lx : Nat} {xs : Nat → Int32} {tm er i : Int} {T : Nat → Int} {h : mj_H} {l5 l6 l7 l8 : Option Value} {Q : mj_R → Prop} (hi : 0 ≤ i ∧ i + 6 ≤ Lx) (hL : Lx ≤ 3072) (I : jLi cK cL cR (.inl (100, Lx, fun j => .int (xs j))) 571 563 n tm er T h) (X : jcx er tm T h) (Y : YX tm er T h) (k : ∀ (n' : Nat) (tm' er' : Int) (T' : Nat → Int) (h' : mj_H) (l5 l6 l7 l8 : Option Value), n ≤ n' → n' ≤ n + 1 → jLi cK cL cR (.inl (100, Lx, fun j => .int (xs j))) 571 563 n' tm' er' T' h' → jcx er' tm' T' h' → YX tm' er' T' h' → mj_T 100 mj_mK 2100 [some (.ref 0), some (.ref 1), some (.ref 563), some (.ref 571), some (.int (jn i)), l5, l6, l7, l8] [] h' Q) : mj_T 100 mj_mK 452 [some (.ref 0), some (.ref 1), some (.ref 563), some (.ref 571), some (.int (jn i)), l5, l6, l7, l8] [] h Q := by
  obtain ⟨N0, u0, H0, hr0, s0, E0, J0⟩ := Y
  have A0 := J0.AS
  refine mj_T.pl rfl rfl rfl rfl ?_
  refine jL.arg (k := 1) I.2.1 hi hL ⟨by decide, by decide⟩ rfl rfl rfl rfl rfl ?_
  refine jT.asJ ?_
  refine mj_T.eq (pc2 := 459) ?_ rfl rfl rfl rfl
  refine jL.arg (k := 2) I.2.1 hi hL ⟨by decide, by decide⟩ rfl rfl rfl rfl rfl ?_
  refine jT.asJ ?_
  refine mj_T.eq (pc2 := 465) ?_ rfl rfl rfl rfl
  refine mj_T.pl rfl rfl rfl rfl ?_
  refine mj_T.call rfl rfl (Nat.le_of_ble_eq_true rfl) (Nat.le_of_ble_eq_true rfl) rfl rfl (mj_Ok.up (by decide) (mj_Ok.and (mj_Ok.up (by decide) ((jw_314 (D := 0) cTY I.1 ck0.2 (jr_of' _) (jr_of' _)).qt rfl)) (jy_314 I.1 (jr_of' _) (jr_of' _) ((cz_106 A0 s0 (jr_of' _) (jr_of' _)).to (fun _ y => y.yz))))) (fun v h1 hq => ?_) (fun i' h1 hq => by obtain ⟨hq, _⟩ := hq; obtain ⟨hq, _⟩ := hq; exact (by obtain ⟨_, hq, _⟩ := hq; cases hq))
  obtain ⟨hq, qy⟩ := hq
  obtain ⟨hq, qx⟩ := hq
  have X1 := X.qt qx
  obtain ⟨z, hv, ⟨n1, hn1, hn2, w1⟩, f1⟩ := hq
  cases hv
  have I1 := I.cls jZ_pl w1 hn1 f1
  have E1 := E0.frame jZ_pl f1 (by have e1 := I.1.1.1; have e2 := w1.1.1; have e3 := hn1; omega)
  refine mj_T.pl (loc' := [some (.ref 0), some (.ref 1), some (.ref 563), some (.ref 571), some (.int (jn i)), some (.int (jn z)), l6, l7, l8]) rfl rfl rfl rfl ?_
  refine mj_T.pl rfl rfl rfl rfl ?_
  refine jL.arg (k := 1) I1.2.1 hi hL ⟨by decide, by decide⟩ rfl rfl rfl rfl rfl ?_
  refine jT.asJ ?_
  refine mj_T.eq (pc2 := 478) ?_ rfl rfl rfl rfl
  refine jL.arg (k := 2) I1.2.1 hi hL ⟨by decide, by decide⟩ rfl rfl rfl rfl rfl ?_
  refine jT.asJ ?_
  refine mj_T.eq (pc2 := 484) ?_ rfl rfl rfl rfl
  obtain ⟨fs, ho⟩ := I1.obj
  refine mj_T.call rfl rfl (Nat.le_of_ble_eq_true rfl) (Nat.le_of_ble_eq_true rfl) (by simp [mj_recv, ho]) rfl (mj_Ok.up (by decide) (mj_Ok.and (mj_Ok.up (by decide) ((I1.callI jZ_pl (fun hr hI => rp_derive (jr_of _) (jr_of _) hI) (fun N => rfl)).qt rfl)) (YX.call (tm' := tm) (er' := er) (T' := T) E1 qy (Q_derive.ag _ _) (rz_derive (jr_of _) (jr_of _) J0) (fun N => rfl)))) (fun v h2 hq => ?_) (fun i' h2 hq => by obtain ⟨hq, _⟩ := hq; obtain ⟨hq, _⟩ := hq; exact (by obtain ⟨_, hq, _⟩ := hq; cases hq))
  obtain ⟨hq, Y2⟩ := hq
  obtain ⟨hq, qx⟩ := hq
  have X2 := X1.qt qx
  obtain ⟨z2, hv, I2⟩ := hq
  cases hv
  refine mj_T.pl (loc' := [some (.ref 0), some (.ref 1), some (.ref 563), some (.ref 571), some (.int (jn i)), some (.int (jn z)), some (.int (jn z2)), l7, l8]) rfl rfl rfl rfl ?_
  refine mj_T.pl rfl rfl rfl rfl ?_
  exact k n1 tm er T h2 _ _ _ _ hn1 hn2 I2 X2 Y2
theorem jL_5 {n Lx : Nat} {xs : Nat → Int32} {tm er i : Int} {T : Nat → Int} {h : mj_H} {l5 l6 l7 l8 : Option Value} {Q : mj_R → Prop} (hi : 0 ≤ i ∧ i + 6 ≤ Lx) (hL : Lx ≤ 3072) (I : jLi cK cL cR (.inl (100, Lx, fun j => .int (xs j))) 571 563 n tm er T h) (X : jcx er tm T h) (Y : YX tm er T h) (k : ∀ (n' : Nat) (tm' er' : Int) (T' : Nat → Int) (h' : mj_H) (l5 l6 l7 l8 : Option Value), n ≤ n' → n' ≤ n + 1 → jLi cK cL cR (.inl (100, Lx, fun j => .int (xs j))) 571 563 n' tm' er' T' h' → jcx er' tm' T' h' → YX tm' er' T' h' → mj_T 100 mj_mK 2100 [some (.ref 0), some (.ref 1), some (.ref 563), some (.ref 571), some (.int (jn i)), l5, l6, l7, l8] [] h' Q) : mj_T 100 mj_mK 492 [some (.ref 0), some (.ref 1), some (.ref 563), some (.ref 571), some (.int (jn i)), l5, l6, l7, l8] [] h Q := by
  obtain ⟨N0, u0, H0, hr0, s0, E0, J0⟩ := Y
  have A0 := J0.AS
  refine mj_T.pl rfl rfl rfl rfl ?_
  refine jL.arg (k := 1) I.2.1 hi hL ⟨by decide, by decide⟩ rfl rfl rfl rfl rfl ?_
  refine jT.asJ ?_
  refine mj_T.eq (pc2 := 499) ?_ rfl rfl rfl rfl
  refine jL.arg (k := 2) I.2.1 hi hL ⟨by decide, by decide⟩ rfl rfl rfl rfl rfl ?_
  refine jT.asJ ?_
  refine mj_T.eq (pc2 := 505) ?_ rfl rfl rfl rfl
  refine jL.arg (k := 3) I.2.1 hi hL ⟨by decide, by decide⟩ rfl rfl rfl rfl rfl ?_
  refine jT.asJ ?_
  refine mj_T.eq (pc2 := 511) ?_ rfl rfl rfl rfl
  refine mj_T.pl rfl rfl rfl rfl ?_
  refine mj_T.call rfl rfl (Nat.le_of_ble_eq_true rfl) (Nat.le_of_ble_eq_true rfl) rfl rfl (mj_Ok.up (by decide) (mj_Ok.and (mj_Ok.up (by decide) ((jw_315 (D := 0) cTY I.1 ck0.2 (jr_of' _) (jr_of' _) (jr_of' _)).qt rfl)) (jy_315 I.1 (jr_of' _) (jr_of' _) (jr_of' _) ((cz_107 A0 s0 (jr_of' _) (jr_of' _) (jr_of' _)).to (fun _ y => y.yz))))) (fun v h1 hq => ?_) (fun i' h1 hq => by obtain ⟨hq, _⟩ := hq; obtain ⟨hq, _⟩ := hq; exact (by obtain ⟨_, hq, _⟩ := hq; cases hq))
  obtain ⟨hq, qy⟩ := hq
  obtain ⟨hq, qx⟩ := hq
  have X1 := X.qt qx
  obtain ⟨z, hv, ⟨n1, hn1, hn2, w1⟩, f1⟩ := hq
  cases hv
  have I1 := I.cls jZ_pl w1 hn1 f1
  have E1 := E0.frame jZ_pl f1 (by have e1 := I.1.1.1; have e2 := w1.1.1; have e3 := hn1; omega)
  refine mj_T.pl (loc' := [some (.ref 0), some (.ref 1), some (.ref 563), some (.ref 571), some (.int (jn i)), some (.int (jn z)), l6, l7, l8]) rfl rfl rfl rfl ?_
  refine mj_T.pl rfl rfl rfl rfl ?_
  refine jL.arg (k := 1) I1.2.1 hi hL ⟨by decide, by decide⟩ rfl rfl rfl rfl rfl ?_
  refine jT.asJ ?_
  refine mj_T.eq (pc2 := 524) ?_ rfl rfl rfl rfl
  refine jL.arg (k := 2) I1.2.1 hi hL ⟨by decide, by decide⟩ rfl rfl rfl rfl rfl ?_
  refine jT.asJ ?_
  refine mj_T.eq (pc2 := 530) ?_ rfl rfl rfl rfl
  refine jL.arg (k := 3) I1.2.1 hi hL ⟨by decide, by decide⟩ rfl rfl rfl rfl rfl ?_
  refine jT.asJ ?_
  refine mj_T.eq (pc2 := 536) ?_ rfl rfl rfl rfl
  obtain ⟨fs, ho⟩ := I1.obj
  refine mj_T.call rfl rfl (Nat.le_of_ble_eq_true rfl) (Nat.le_of_ble_eq_true rfl) (by simp [mj_recv, ho]) rfl (mj_Ok.up (by decide) (mj_Ok.and (mj_Ok.up (by decide) ((I1.callI jZ_pl (fun hr hI => rp_substitute (jr_of _) (jr_of _) (jr_of _) hI) (fun N => rfl)).qt rfl)) (YX.call (tm' := tm) (er' := er) (T' := T) E1 qy (Q_substitute.ag _ _ _) (rz_substitute (jr_of _) (jr_of _) (jr_of _) J0) (fun N => rfl)))) (fun v h2 hq => ?_) (fun i' h2 hq => by obtain ⟨hq, _⟩ := hq; obtain ⟨hq, _⟩ := hq; exact (by obtain ⟨_, hq, _⟩ := hq; cases hq))
  obtain ⟨hq, Y2⟩ := hq
  obtain ⟨hq, qx⟩ := hq
  have X2 := X1.qt qx
  obtain ⟨z2, hv, I2⟩ := hq
  cases hv
  refine mj_T.pl (loc' := [some (.ref 0), some (.ref 1), some (.ref 563), some (.ref 571), some (.int (jn i)), some (.int (jn z)), some (.int (jn z2)), l7, l8]) rfl rfl rfl rfl ?_
  refine mj_T.pl rfl rfl rfl rfl ?_
  exact k n1 tm er T h2 _ _ _ _ hn1 hn2 I2 X2 Y2
theorem jL_6 {n Lx : Nat} {xs : Nat → Int32} {tm er i : Int} {T : Nat → Int} {h : mj_H} {l5 l6 l7 l8 : Option Value} {Q : mj_R → Prop} (hi : 0 ≤ i ∧ i + 6 ≤ Lx) (hL : Lx ≤ 3072) (I : jLi cK cL cR (.inl (100, Lx, fun j => .int (xs j))) 571 563 n tm er T h) (X : jcx er tm T h) (Y : YX tm er T h) (k : ∀ (n' : Nat) (tm' er' : Int) (T' : Nat → Int) (h' : mj_H) (l5 l6 l7 l8 : Option Value), n ≤ n' → n' ≤ n + 1 → jLi cK cL cR (.inl (100, Lx, fun j => .int (xs j))) 571 563 n' tm' er' T' h' → jcx er' tm' T' h' → YX tm' er' T' h' → mj_T 100 mj_mK 2100 [some (.ref 0), some (.ref 1), some (.ref 563), some (.ref 571), some (.int (jn i)), l5, l6, l7, l8] [] h' Q) : mj_T 100 mj_mK 544 [some (.ref 0), some (.ref 1), some (.ref 563), some (.ref 571), some (.int (jn i)), l5, l6, l7, l8] [] h Q := by
  obtain ⟨N0, u0, H0, hr0, s0, E0, J0⟩ := Y
  have A0 := J0.AS
  refine mj_T.pl rfl rfl rfl rfl ?_
  refine jL.arg (k := 1) I.2.1 hi hL ⟨by decide, by decide⟩ rfl rfl rfl rfl rfl ?_
  refine jT.asJ ?_
  refine mj_T.eq (pc2 := 551) ?_ rfl rfl rfl rfl
  refine jL.arg (k := 2) I.2.1 hi hL ⟨by decide, by decide⟩ rfl rfl rfl rfl rfl ?_
  refine jT.asJ ?_
  refine mj_T.eq (pc2 := 557) ?_ rfl rfl rfl rfl
  refine jL.arg (k := 3) I.2.1 hi hL ⟨by decide, by decide⟩ rfl rfl rfl rfl rfl ?_
  refine jT.asJ ?_
  refine mj_T.eq (pc2 := 563) ?_ rfl rfl rfl rfl
  refine jL.arg (k := 4) I.2.1 hi hL ⟨by decide, by decide⟩ rfl rfl rfl rfl rfl ?_
  refine jT.asJ ?_
  refine mj_T.eq (pc2 := 569) ?_ rfl rfl rfl rfl
  refine mj_T.pl rfl rfl rfl rfl ?_
  refine mj_T.call rfl rfl (Nat.le_of_ble_eq_true rfl) (Nat.le_of_ble_eq_true rfl) rfl rfl (mj_Ok.up (by decide) (mj_Ok.and (mj_Ok.up (by decide) ((jw_316 (D := 0) cTY I.1 ck0.2 (jr_of' _) (jr_of' _) (jr_of' _) (jr_of' _)).qt rfl)) (jy_316 I.1 (jr_of' _) (jr_of' _) (jr_of' _) (jr_of' _) ((cz_108 A0 s0 (jr_of' _) (jr_of' _) (jr_of' _) (jr_of' _)).to (fun _ y => y.yz))))) (fun v h1 hq => ?_) (fun i' h1 hq => by obtain ⟨hq, _⟩ := hq; obtain ⟨hq, _⟩ := hq; exact (by obtain ⟨_, hq, _⟩ := hq; cases hq))
  obtain ⟨hq, qy⟩ := hq
  obtain ⟨hq, qx⟩ := hq
  have X1 := X.qt qx
  obtain ⟨z, hv, ⟨n1, hn1, hn2, w1⟩, f1⟩ := hq
  cases hv
  have I1 := I.cls jZ_pl w1 hn1 f1
  have E1 := E0.frame jZ_pl f1 (by have e1 := I.1.1.1; have e2 := w1.1.1; have e3 := hn1; omega)
  refine mj_T.pl (loc' := [some (.ref 0), some (.ref 1), some (.ref 563), some (.ref 571), some (.int (jn i)), some (.int (jn z)), l6, l7, l8]) rfl rfl rfl rfl ?_
  refine mj_T.pl rfl rfl rfl rfl ?_
  refine jL.arg (k := 1) I1.2.1 hi hL ⟨by decide, by decide⟩ rfl rfl rfl rfl rfl ?_
  refine jT.asJ ?_
  refine mj_T.eq (pc2 := 582) ?_ rfl rfl rfl rfl
  refine jL.arg (k := 2) I1.2.1 hi hL ⟨by decide, by decide⟩ rfl rfl rfl rfl rfl ?_
  refine jT.asJ ?_
  refine mj_T.eq (pc2 := 588) ?_ rfl rfl rfl rfl
  refine jL.arg (k := 3) I1.2.1 hi hL ⟨by decide, by decide⟩ rfl rfl rfl rfl rfl ?_
  refine jT.asJ ?_
  refine mj_T.eq (pc2 := 594) ?_ rfl rfl rfl rfl
  refine jL.arg (k := 4) I1.2.1 hi hL ⟨by decide, by decide⟩ rfl rfl rfl rfl rfl ?_
  refine jT.asJ ?_
  refine mj_T.eq (pc2 := 600) ?_ rfl rfl rfl rfl
  obtain ⟨fs, ho⟩ := I1.obj
  refine mj_T.call rfl rfl (Nat.le_of_ble_eq_true rfl) (Nat.le_of_ble_eq_true rfl) (by simp [mj_recv, ho]) rfl (mj_Ok.up (by decide) (mj_Ok.and (mj_Ok.up (by decide) ((I1.callI jZ_pl (fun hr hI => rp_divide (jr_of _) (jr_of _) (jr_of _) (jr_of _) hI) (fun N => rfl)).qt rfl)) (YX.call (tm' := tm) (er' := er) (T' := T) E1 qy (Q_divide.ag _ _ _ _) (rz_divide (jr_of _) (jr_of _) (jr_of _) (jr_of _) J0) (fun N => rfl)))) (fun v h2 hq => ?_) (fun i' h2 hq => by obtain ⟨hq, _⟩ := hq; obtain ⟨hq, _⟩ := hq; exact (by obtain ⟨_, hq, _⟩ := hq; cases hq))
  obtain ⟨hq, Y2⟩ := hq
  obtain ⟨hq, qx⟩ := hq
  have X2 := X1.qt qx
  obtain ⟨z2, hv, I2⟩ := hq
  cases hv
  refine mj_T.pl (loc' := [some (.ref 0), some (.ref 1), some (.ref 563), some (.ref 571), some (.int (jn i)), some (.int (jn z)), some (.int (jn z2)), l7, l8]) rfl rfl rfl rfl ?_
  refine mj_T.pl rfl rfl rfl rfl ?_
  exact k n1 tm er T h2 _ _ _ _ hn1 hn2 I2 X2 Y2
theorem jL_7 {n Lx : Nat} {xs : Nat → Int32} {tm er i : Int} {T : Nat → Int} {h : mj_H} {l5 l6 l7 l8 : Option Value} {Q : mj_R → Prop} (hi : 0 ≤ i ∧ i + 6 ≤ Lx) (hL : Lx ≤ 3072) (I : jLi cK cL cR (.inl (100, Lx, fun j => .int (xs j))) 571 563 n tm er T h) (X : jcx er tm T h) (Y : YX tm er T h) (k : ∀ (n' : Nat) (tm' er' : Int) (T' : Nat → Int) (h' : mj_H) (l5 l6 l7 l8 : Option Value), n ≤ n' → n' ≤ n + 1 → jLi cK cL cR (.inl (100, Lx, fun j => .int (xs j))) 571 563 n' tm' er' T' h' → jcx er' tm' T' h' → YX tm' er' T' h' → mj_T 100 mj_mK 2100 [some (.ref 0), some (.ref 1), some (.ref 563), some (.ref 571), some (.int (jn i)), l5, l6, l7, l8] [] h' Q) : mj_T 100 mj_mK 608 [some (.ref 0), some (.ref 1), some (.ref 563), some (.ref 571), some (.int (jn i)), l5, l6, l7, l8] [] h Q := by
  obtain ⟨N0, u0, H0, hr0, s0, E0, J0⟩ := Y
  have A0 := J0.AS
  refine mj_T.pl rfl rfl rfl rfl ?_
  refine jL.arg (k := 1) I.2.1 hi hL ⟨by decide, by decide⟩ rfl rfl rfl rfl rfl ?_
  refine jT.asJ ?_
  refine mj_T.eq (pc2 := 615) ?_ rfl rfl rfl rfl
  refine jL.arg (k := 2) I.2.1 hi hL ⟨by decide, by decide⟩ rfl rfl rfl rfl rfl ?_
  refine jT.asJ ?_
  refine mj_T.eq (pc2 := 621) ?_ rfl rfl rfl rfl
  refine jL.arg (k := 3) I.2.1 hi hL ⟨by decide, by decide⟩ rfl rfl rfl rfl rfl ?_
  refine jT.asJ ?_
  refine mj_T.eq (pc2 := 627) ?_ rfl rfl rfl rfl
  refine mj_T.pl rfl rfl rfl rfl ?_
  refine mj_T.call rfl rfl (Nat.le_of_ble_eq_true rfl) (Nat.le_of_ble_eq_true rfl) rfl rfl (mj_Ok.up (by decide) (mj_Ok.and (mj_Ok.up (by decide) ((jw_317 (D := 0) cTY I.1 ck0.2 (jr_of' _) (jr_of' _) (jr_of' _)).qt rfl)) (jy_317 I.1 (jr_of' _) (jr_of' _) (jr_of' _) ((cz_109 A0 s0 (jr_of' _) (jr_of' _) (jr_of' _)).to (fun _ y => y.yz))))) (fun v h1 hq => ?_) (fun i' h1 hq => by obtain ⟨hq, _⟩ := hq; obtain ⟨hq, _⟩ := hq; exact (by obtain ⟨_, hq, _⟩ := hq; cases hq))
  obtain ⟨hq, qy⟩ := hq
  obtain ⟨hq, qx⟩ := hq
  have X1 := X.qt qx
  obtain ⟨z, hv, ⟨n1, hn1, hn2, w1⟩, f1⟩ := hq
  cases hv
  have I1 := I.cls jZ_pl w1 hn1 f1
  have E1 := E0.frame jZ_pl f1 (by have e1 := I.1.1.1; have e2 := w1.1.1; have e3 := hn1; omega)
  refine mj_T.pl (loc' := [some (.ref 0), some (.ref 1), some (.ref 563), some (.ref 571), some (.int (jn i)), some (.int (jn z)), l6, l7, l8]) rfl rfl rfl rfl ?_
  refine mj_T.pl rfl rfl rfl rfl ?_
  refine jL.arg (k := 1) I1.2.1 hi hL ⟨by decide, by decide⟩ rfl rfl rfl rfl rfl ?_
  refine jT.asJ ?_
  refine mj_T.eq (pc2 := 640) ?_ rfl rfl rfl rfl
  refine jL.arg (k := 2) I1.2.1 hi hL ⟨by decide, by decide⟩ rfl rfl rfl rfl rfl ?_
  refine jT.asJ ?_
  refine mj_T.eq (pc2 := 646) ?_ rfl rfl rfl rfl
  refine jL.arg (k := 3) I1.2.1 hi hL ⟨by decide, by decide⟩ rfl rfl rfl rfl rfl ?_
  refine jT.asJ ?_
  refine mj_T.eq (pc2 := 652) ?_ rfl rfl rfl rfl
  obtain ⟨fs, ho⟩ := I1.obj
  refine mj_T.call rfl rfl (Nat.le_of_ble_eq_true rfl) (Nat.le_of_ble_eq_true rfl) (by simp [mj_recv, ho]) rfl (mj_Ok.up (by decide) (mj_Ok.and (mj_Ok.up (by decide) ((I1.callI jZ_pl (fun hr hI => rp_gcd (jr_of _) (jr_of _) (jr_of _) hI) (fun N => rfl)).qt rfl)) (YX.call (tm' := tm) (er' := er) (T' := T) E1 qy (Q_gcd.ag _ _ _) (rz_gcd (jr_of _) (jr_of _) (jr_of _) J0) (fun N => rfl)))) (fun v h2 hq => ?_) (fun i' h2 hq => by obtain ⟨hq, _⟩ := hq; obtain ⟨hq, _⟩ := hq; exact (by obtain ⟨_, hq, _⟩ := hq; cases hq))
  obtain ⟨hq, Y2⟩ := hq
  obtain ⟨hq, qx⟩ := hq
  have X2 := X1.qt qx
  obtain ⟨z2, hv, I2⟩ := hq
  cases hv
  refine mj_T.pl (loc' := [some (.ref 0), some (.ref 1), some (.ref 563), some (.ref 571), some (.int (jn i)), some (.int (jn z)), some (.int (jn z2)), l7, l8]) rfl rfl rfl rfl ?_
  refine mj_T.pl rfl rfl rfl rfl ?_
  exact k n1 tm er T h2 _ _ _ _ hn1 hn2 I2 X2 Y2
theorem jL_8 {n Lx : Nat} {xs : Nat → Int32} {tm er i : Int} {T : Nat → Int} {h : mj_H} {l5 l6 l7 l8 : Option Value} {Q : mj_R → Prop} (hi : 0 ≤ i ∧ i + 6 ≤ Lx) (hL : Lx ≤ 3072) (I : jLi cK cL cR (.inl (100, Lx, fun j => .int (xs j))) 571 563 n tm er T h) (X : jcx er tm T h) (Y : YX tm er T h) (k : ∀ (n' : Nat) (tm' er' : Int) (T' : Nat → Int) (h' : mj_H) (l5 l6 l7 l8 : Option Value), n ≤ n' → n' ≤ n + 1 → jLi cK cL cR (.inl (100, Lx, fun j => .int (xs j))) 571 563 n' tm' er' T' h' → jcx er' tm' T' h' → YX tm' er' T' h' → mj_T 100 mj_mK 2100 [some (.ref 0), some (.ref 1), some (.ref 563), some (.ref 571), some (.int (jn i)), l5, l6, l7, l8] [] h' Q) : mj_T 100 mj_mK 660 [some (.ref 0), some (.ref 1), some (.ref 563), some (.ref 571), some (.int (jn i)), l5, l6, l7, l8] [] h Q := by
  obtain ⟨N0, u0, H0, hr0, s0, E0, J0⟩ := Y
  have A0 := J0.AS
  refine mj_T.pl rfl rfl rfl rfl ?_
  refine jL.arg (k := 1) I.2.1 hi hL ⟨by decide, by decide⟩ rfl rfl rfl rfl rfl ?_
  refine jT.asJ ?_
  refine mj_T.eq (pc2 := 667) ?_ rfl rfl rfl rfl
  refine jL.arg (k := 2) I.2.1 hi hL ⟨by decide, by decide⟩ rfl rfl rfl rfl rfl ?_
  refine jT.asJ ?_
  refine mj_T.eq (pc2 := 673) ?_ rfl rfl rfl rfl
  refine mj_T.pl rfl rfl rfl rfl ?_
  refine mj_T.call rfl rfl (Nat.le_of_ble_eq_true rfl) (Nat.le_of_ble_eq_true rfl) rfl rfl (mj_Ok.up (by decide) (mj_Ok.and (mj_Ok.up (by decide) ((jw_318 (D := 0) cTY I.1 ck0.2 (jr_of' _) (jr_of' _)).qt rfl)) (jy_318 I.1 (jr_of' _) (jr_of' _) ((cz_110 A0 s0 (jr_of' _) (jr_of' _)).to (fun _ y => y.yz))))) (fun v h1 hq => ?_) (fun i' h1 hq => by obtain ⟨hq, _⟩ := hq; obtain ⟨hq, _⟩ := hq; exact (by obtain ⟨_, hq, _⟩ := hq; cases hq))
  obtain ⟨hq, qy⟩ := hq
  obtain ⟨hq, qx⟩ := hq
  have X1 := X.qt qx
  obtain ⟨z, hv, ⟨n1, hn1, hn2, w1⟩, f1⟩ := hq
  cases hv
  have I1 := I.cls jZ_pl w1 hn1 f1
  have E1 := E0.frame jZ_pl f1 (by have e1 := I.1.1.1; have e2 := w1.1.1; have e3 := hn1; omega)
  refine mj_T.pl (loc' := [some (.ref 0), some (.ref 1), some (.ref 563), some (.ref 571), some (.int (jn i)), some (.int (jn z)), l6, l7, l8]) rfl rfl rfl rfl ?_
  refine mj_T.pl rfl rfl rfl rfl ?_
  refine jL.arg (k := 1) I1.2.1 hi hL ⟨by decide, by decide⟩ rfl rfl rfl rfl rfl ?_
  refine jT.asJ ?_
  refine mj_T.eq (pc2 := 686) ?_ rfl rfl rfl rfl
  refine jL.arg (k := 2) I1.2.1 hi hL ⟨by decide, by decide⟩ rfl rfl rfl rfl rfl ?_
  refine jT.asJ ?_
  refine mj_T.eq (pc2 := 692) ?_ rfl rfl rfl rfl
  obtain ⟨fs, ho⟩ := I1.obj
  refine mj_T.call rfl rfl (Nat.le_of_ble_eq_true rfl) (Nat.le_of_ble_eq_true rfl) (by simp [mj_recv, ho]) rfl (mj_Ok.up (by decide) (mj_Ok.and (mj_Ok.up (by decide) ((I1.callI jZ_pl (fun hr hI => rp_primitive (jr_of _) (jr_of _) hI) (fun N => rfl)).qt rfl)) (YX.call (tm' := tm) (er' := er) (T' := T) E1 qy (Q_primitive.ag _ _) (rz_primitive (jr_of _) (jr_of _) J0) (fun N => rfl)))) (fun v h2 hq => ?_) (fun i' h2 hq => by obtain ⟨hq, _⟩ := hq; obtain ⟨hq, _⟩ := hq; exact (by obtain ⟨_, hq, _⟩ := hq; cases hq))
  obtain ⟨hq, Y2⟩ := hq
  obtain ⟨hq, qx⟩ := hq
  have X2 := X1.qt qx
  obtain ⟨z2, hv, I2⟩ := hq
  cases hv
  refine mj_T.pl (loc' := [some (.ref 0), some (.ref 1), some (.ref 563), some (.ref 571), some (.int (jn i)), some (.int (jn z)), some (.int (jn z2)), l7, l8]) rfl rfl rfl rfl ?_
  refine mj_T.pl rfl rfl rfl rfl ?_
  exact k n1 tm er T h2 _ _ _ _ hn1 hn2 I2 X2 Y2
theorem jL_9 {n Lx : Nat} {xs : Nat → Int32} {tm er i : Int} {T : Nat → Int} {h : mj_H} {l5 l6 l7 l8 : Option Value} {Q : mj_R → Prop} (hi : 0 ≤ i ∧ i + 6 ≤ Lx) (hL : Lx ≤ 3072) (I : jLi cK cL cR (.inl (100, Lx, fun j => .int (xs j))) 571 563 n tm er T h) (X : jcx er tm T h) (Y : YX tm er T h) (k : ∀ (n' : Nat) (tm' er' : Int) (T' : Nat → Int) (h' : mj_H) (l5 l6 l7 l8 : Option Value), n ≤ n' → n' ≤ n + 1 → jLi cK cL cR (.inl (100, Lx, fun j => .int (xs j))) 571 563 n' tm' er' T' h' → jcx er' tm' T' h' → YX tm' er' T' h' → mj_T 100 mj_mK 2100 [some (.ref 0), some (.ref 1), some (.ref 563), some (.ref 571), some (.int (jn i)), l5, l6, l7, l8] [] h' Q) : mj_T 100 mj_mK 700 [some (.ref 0), some (.ref 1), some (.ref 563), some (.ref 571), some (.int (jn i)), l5, l6, l7, l8] [] h Q := by
  obtain ⟨N0, u0, H0, hr0, s0, E0, J0⟩ := Y
  have A0 := J0.AS
  refine mj_T.pl rfl rfl rfl rfl ?_
  refine jL.arg (k := 1) I.2.1 hi hL ⟨by decide, by decide⟩ rfl rfl rfl rfl rfl ?_
  refine jT.asJ ?_
  refine mj_T.eq (pc2 := 707) ?_ rfl rfl rfl rfl
  refine jL.arg (k := 2) I.2.1 hi hL ⟨by decide, by decide⟩ rfl rfl rfl rfl rfl ?_
  refine jT.asJ ?_
  refine mj_T.eq (pc2 := 713) ?_ rfl rfl rfl rfl
  refine mj_T.pl rfl rfl rfl rfl ?_
  refine mj_T.call rfl rfl (Nat.le_of_ble_eq_true rfl) (Nat.le_of_ble_eq_true rfl) rfl rfl (mj_Ok.up (by decide) (mj_Ok.and (mj_Ok.up (by decide) ((jw_319 (D := 0) cTY I.1 ck0.2 (jr_of' _) (jr_of' _)).qt rfl)) (jy_319 I.1 (jr_of' _) (jr_of' _) ((cz_111 A0 s0 (jr_of' _) (jr_of' _)).to (fun _ y => y.yz))))) (fun v h1 hq => ?_) (fun i' h1 hq => by obtain ⟨hq, _⟩ := hq; obtain ⟨hq, _⟩ := hq; exact (by obtain ⟨_, hq, _⟩ := hq; cases hq))
  obtain ⟨hq, qy⟩ := hq
  obtain ⟨hq, qx⟩ := hq
  have X1 := X.qt qx
  obtain ⟨z, hv, ⟨n1, hn1, hn2, w1⟩, f1⟩ := hq
  cases hv
  have I1 := I.cls jZ_pl w1 hn1 f1
  have E1 := E0.frame jZ_pl f1 (by have e1 := I.1.1.1; have e2 := w1.1.1; have e3 := hn1; omega)
  refine mj_T.pl (loc' := [some (.ref 0), some (.ref 1), some (.ref 563), some (.ref 571), some (.int (jn i)), some (.int (jn z)), l6, l7, l8]) rfl rfl rfl rfl ?_
  refine mj_T.pl rfl rfl rfl rfl ?_
  refine jL.arg (k := 1) I1.2.1 hi hL ⟨by decide, by decide⟩ rfl rfl rfl rfl rfl ?_
  refine jT.asJ ?_
  refine mj_T.eq (pc2 := 726) ?_ rfl rfl rfl rfl
  refine jL.arg (k := 2) I1.2.1 hi hL ⟨by decide, by decide⟩ rfl rfl rfl rfl rfl ?_
  refine jT.asJ ?_
  refine mj_T.eq (pc2 := 732) ?_ rfl rfl rfl rfl
  obtain ⟨fs, ho⟩ := I1.obj
  refine mj_T.call rfl rfl (Nat.le_of_ble_eq_true rfl) (Nat.le_of_ble_eq_true rfl) (by simp [mj_recv, ho]) rfl (mj_Ok.up (by decide) (mj_Ok.and (mj_Ok.up (by decide) ((I1.callI jZ_pl (fun hr hI => rp_simple (jr_of _) (jr_of _) hI) (fun N => rfl)).qt rfl)) (YX.call (tm' := tm) (er' := er) (T' := T) E1 qy (Q_simple.ag _ _) (rz_simple (jr_of _) (jr_of _) J0) (fun N => rfl)))) (fun v h2 hq => ?_) (fun i' h2 hq => by obtain ⟨hq, _⟩ := hq; obtain ⟨hq, _⟩ := hq; exact (by obtain ⟨_, hq, _⟩ := hq; cases hq))
  obtain ⟨hq, Y2⟩ := hq
  obtain ⟨hq, qx⟩ := hq
  have X2 := X1.qt qx
  obtain ⟨z2, hv, I2⟩ := hq
  cases hv
  refine mj_T.pl (loc' := [some (.ref 0), some (.ref 1), some (.ref 563), some (.ref 571), some (.int (jn i)), some (.int (jn z)), some (.int (jn z2)), l7, l8]) rfl rfl rfl rfl ?_
  refine mj_T.pl rfl rfl rfl rfl ?_
  exact k n1 tm er T h2 _ _ _ _ hn1 hn2 I2 X2 Y2
theorem jL_10 {n Lx : Nat} {xs : Nat → Int32} {tm er i : Int} {T : Nat → Int} {h : mj_H} {l5 l6 l7 l8 : Option Value} {Q : mj_R → Prop} (hi : 0 ≤ i ∧ i + 6 ≤ Lx) (hL : Lx ≤ 3072) (I : jLi cK cL cR (.inl (100, Lx, fun j => .int (xs j))) 571 563 n tm er T h) (X : jcx er tm T h) (Y : YX tm er T h) (k : ∀ (n' : Nat) (tm' er' : Int) (T' : Nat → Int) (h' : mj_H) (l5 l6 l7 l8 : Option Value), n ≤ n' → n' ≤ n + 1 → jLi cK cL cR (.inl (100, Lx, fun j => .int (xs j))) 571 563 n' tm' er' T' h' → jcx er' tm' T' h' → YX tm' er' T' h' → mj_T 100 mj_mK 2100 [some (.ref 0), some (.ref 1), some (.ref 563), some (.ref 571), some (.int (jn i)), l5, l6, l7, l8] [] h' Q) : mj_T 100 mj_mK 740 [some (.ref 0), some (.ref 1), some (.ref 563), some (.ref 571), some (.int (jn i)), l5, l6, l7, l8] [] h Q := by
  obtain ⟨N0, u0, H0, hr0, s0, E0, J0⟩ := Y
  have A0 := J0.AS
  refine mj_T.pl rfl rfl rfl rfl ?_
  refine jL.arg (k := 1) I.2.1 hi hL ⟨by decide, by decide⟩ rfl rfl rfl rfl rfl ?_
  refine jT.asJ ?_
  refine mj_T.eq (pc2 := 747) ?_ rfl rfl rfl rfl
  refine jL.arg (k := 2) I.2.1 hi hL ⟨by decide, by decide⟩ rfl rfl rfl rfl rfl ?_
  refine jT.asJ ?_
  refine mj_T.eq (pc2 := 753) ?_ rfl rfl rfl rfl
  refine jL.arg (k := 3) I.2.1 hi hL ⟨by decide, by decide⟩ rfl rfl rfl rfl rfl ?_
  refine jT.asJ ?_
  refine mj_T.eq (pc2 := 759) ?_ rfl rfl rfl rfl
  refine mj_T.pl rfl rfl rfl rfl ?_
  refine mj_T.call rfl rfl (Nat.le_of_ble_eq_true rfl) (Nat.le_of_ble_eq_true rfl) rfl rfl (mj_Ok.up (by decide) (mj_Ok.and (mj_Ok.up (by decide) ((jw_320 (D := 0) cTY I.1 ck0.2 (jr_of' _) (jr_of' _) (jr_of' _)).qt rfl)) (jy_320 I.1 (jr_of' _) (jr_of' _) (jr_of' _) ((cz_112 A0 s0 (jr_of' _) (jr_of' _) (jr_of' _)).to (fun _ y => y.yz))))) (fun v h1 hq => ?_) (fun i' h1 hq => by obtain ⟨hq, _⟩ := hq; obtain ⟨hq, _⟩ := hq; exact (by obtain ⟨_, hq, _⟩ := hq; cases hq))
  obtain ⟨hq, qy⟩ := hq
  obtain ⟨hq, qx⟩ := hq
  have X1 := X.qt qx
  obtain ⟨z, hv, ⟨n1, hn1, hn2, w1⟩, f1⟩ := hq
  cases hv
  have I1 := I.cls jZ_pl w1 hn1 f1
  have E1 := E0.frame jZ_pl f1 (by have e1 := I.1.1.1; have e2 := w1.1.1; have e3 := hn1; omega)
  refine mj_T.pl (loc' := [some (.ref 0), some (.ref 1), some (.ref 563), some (.ref 571), some (.int (jn i)), some (.int (jn z)), l6, l7, l8]) rfl rfl rfl rfl ?_
  refine mj_T.pl rfl rfl rfl rfl ?_
  refine jL.arg (k := 1) I1.2.1 hi hL ⟨by decide, by decide⟩ rfl rfl rfl rfl rfl ?_
  refine jT.asJ ?_
  refine mj_T.eq (pc2 := 772) ?_ rfl rfl rfl rfl
  refine jL.arg (k := 2) I1.2.1 hi hL ⟨by decide, by decide⟩ rfl rfl rfl rfl rfl ?_
  refine jT.asJ ?_
  refine mj_T.eq (pc2 := 778) ?_ rfl rfl rfl rfl
  refine jL.arg (k := 3) I1.2.1 hi hL ⟨by decide, by decide⟩ rfl rfl rfl rfl rfl ?_
  refine jT.asJ ?_
  refine mj_T.eq (pc2 := 784) ?_ rfl rfl rfl rfl
  obtain ⟨fs, ho⟩ := I1.obj
  refine mj_T.call rfl rfl (Nat.le_of_ble_eq_true rfl) (Nat.le_of_ble_eq_true rfl) (by simp [mj_recv, ho]) rfl (mj_Ok.up (by decide) (mj_Ok.and (mj_Ok.up (by decide) ((I1.callI jZ_pl (fun hr hI => rp_residue (jr_of _) (jr_of _) (jr_of _) hI) (fun N => rfl)).qt rfl)) (YX.call (tm' := tm) (er' := er) (T' := T) E1 qy (Q_residue.ag _ _ _) (rz_residue (jr_of _) (jr_of _) (jr_of _) J0) (fun N => rfl)))) (fun v h2 hq => ?_) (fun i' h2 hq => by obtain ⟨hq, _⟩ := hq; obtain ⟨hq, _⟩ := hq; exact (by obtain ⟨_, hq, _⟩ := hq; cases hq))
  obtain ⟨hq, Y2⟩ := hq
  obtain ⟨hq, qx⟩ := hq
  have X2 := X1.qt qx
  obtain ⟨z2, hv, I2⟩ := hq
  cases hv
  refine mj_T.pl (loc' := [some (.ref 0), some (.ref 1), some (.ref 563), some (.ref 571), some (.int (jn i)), some (.int (jn z)), some (.int (jn z2)), l7, l8]) rfl rfl rfl rfl ?_
  refine mj_T.pl rfl rfl rfl rfl ?_
  exact k n1 tm er T h2 _ _ _ _ hn1 hn2 I2 X2 Y2
/-! Rounds of the law. -/
theorem jL_13 {n Lx : Nat} {xs : Nat → Int32} {tm er i : Int} {T : Nat → Int} {h : mj_H} {l5 l6 l7 l8 : Option Value} {Q : mj_R → Prop} (hi : 0 ≤ i ∧ i + 6 ≤ Lx) (hL : Lx ≤ 3072) (I : jLi cK cL cR (.inl (100, Lx, fun j => .int (xs j))) 571 563 n tm er T h) (X : jcx er tm T h) (Y : YX tm er T h) (k : ∀ (n' : Nat) (tm' er' : Int) (T' : Nat → Int) (h' : mj_H) (l5 l6 l7 l8 : Option Value), n ≤ n' → n' ≤ n + 1 → jLi cK cL cR (.inl (100, Lx, fun j => .int (xs j))) 571 563 n' tm' er' T' h' → jcx er' tm' T' h' → YX tm' er' T' h' → mj_T 100 mj_mK 2100 [some (.ref 0), some (.ref 1), some (.ref 563), some (.ref 571), some (.int (jn i)), l5, l6, l7, l8] [] h' Q) : mj_T 100 mj_mK 904 [some (.ref 0), some (.ref 1), some (.ref 563), some (.ref 571), some (.int (jn i)), l5, l6, l7, l8] [] h Q := by
  obtain ⟨N0, u0, H0, hr0, s0, E0, J0⟩ := Y
  have A0 := J0.AS
  refine mj_T.pl rfl rfl rfl rfl ?_
  refine jL.arg (k := 1) I.2.1 hi hL ⟨by decide, by decide⟩ rfl rfl rfl rfl rfl ?_
  refine jT.asJ ?_
  refine mj_T.eq (pc2 := 911) ?_ rfl rfl rfl rfl
  refine jL.arg (k := 2) I.2.1 hi hL ⟨by decide, by decide⟩ rfl rfl rfl rfl rfl ?_
  refine jT.asJ ?_
  refine mj_T.eq (pc2 := 917) ?_ rfl rfl rfl rfl
  refine mj_T.pl rfl rfl rfl rfl ?_
  refine mj_T.call rfl rfl (Nat.le_of_ble_eq_true rfl) (Nat.le_of_ble_eq_true rfl) rfl rfl (mj_Ok.up (by decide) (mj_Ok.and (mj_Ok.up (by decide) ((jw_323 (D := 0) cTY I.1 ck0.2 (jr_of' _) (jr_of' _)).qt rfl)) (jy_323 I.1 (jr_of' _) (jr_of' _) ((cz_115 A0 s0 (jr_of' _) (jr_of' _)).to (fun _ y => y.yz))))) (fun v h1 hq => ?_) (fun i' h1 hq => by obtain ⟨hq, _⟩ := hq; obtain ⟨hq, _⟩ := hq; exact (by obtain ⟨_, hq, _⟩ := hq; cases hq))
  obtain ⟨hq, qy⟩ := hq
  obtain ⟨hq, qx⟩ := hq
  have X1 := X.qt qx
  obtain ⟨z, hv, ⟨n1, hn1, hn2, w1⟩, f1⟩ := hq
  cases hv
  have I1 := I.cls jZ_pl w1 hn1 f1
  have E1 := E0.frame jZ_pl f1 (by have e1 := I.1.1.1; have e2 := w1.1.1; have e3 := hn1; omega)
  refine mj_T.pl (loc' := [some (.ref 0), some (.ref 1), some (.ref 563), some (.ref 571), some (.int (jn i)), some (.int (jn z)), l6, l7, l8]) rfl rfl rfl rfl ?_
  refine mj_T.pl rfl rfl rfl rfl ?_
  refine jL.arg (k := 1) I1.2.1 hi hL ⟨by decide, by decide⟩ rfl rfl rfl rfl rfl ?_
  refine jT.asJ ?_
  refine mj_T.eq (pc2 := 930) ?_ rfl rfl rfl rfl
  refine jL.arg (k := 2) I1.2.1 hi hL ⟨by decide, by decide⟩ rfl rfl rfl rfl rfl ?_
  refine jT.asJ ?_
  refine mj_T.eq (pc2 := 936) ?_ rfl rfl rfl rfl
  obtain ⟨fs, ho⟩ := I1.obj
  refine mj_T.call rfl rfl (Nat.le_of_ble_eq_true rfl) (Nat.le_of_ble_eq_true rfl) (by simp [mj_recv, ho]) rfl (mj_Ok.up (by decide) (mj_Ok.and (mj_Ok.up (by decide) ((I1.callI jZ_pl (fun hr hI => rp_addPoint (jr_of _) (jr_of _) hI) (fun N => rfl)).qt rfl)) (YX.call (tm' := tm) (er' := er) (T' := T) E1 qy (Q_addPoint.ag _ _) (rz_addPoint (jr_of _) (jr_of _) J0) (fun N => rfl)))) (fun v h2 hq => ?_) (fun i' h2 hq => by obtain ⟨hq, _⟩ := hq; obtain ⟨hq, _⟩ := hq; exact (by obtain ⟨_, hq, _⟩ := hq; cases hq))
  obtain ⟨hq, Y2⟩ := hq
  obtain ⟨hq, qx⟩ := hq
  have X2 := X1.qt qx
  obtain ⟨z2, hv, I2⟩ := hq
  cases hv
  refine mj_T.pl (loc' := [some (.ref 0), some (.ref 1), some (.ref 563), some (.ref 571), some (.int (jn i)), some (.int (jn z)), some (.int (jn z2)), l7, l8]) rfl rfl rfl rfl ?_
  refine mj_T.pl rfl rfl rfl rfl ?_
  exact k n1 tm er T h2 _ _ _ _ hn1 hn2 I2 X2 Y2
theorem jL_15 {n Lx : Nat} {xs : Nat → Int32} {tm er i : Int} {T : Nat → Int} {h : mj_H} {l5 l6 l7 l8 : Option Value} {Q : mj_R → Prop} (hi : 0 ≤ i ∧ i + 6 ≤ Lx) (hL : Lx ≤ 3072) (I : jLi cK cL cR (.inl (100, Lx, fun j => .int (xs j))) 571 563 n tm er T h) (X : jcx er tm T h) (Y : YX tm er T h) (k : ∀ (n' : Nat) (tm' er' : Int) (T' : Nat → Int) (h' : mj_H) (l5 l6 l7 l8 : Option Value), n ≤ n' → n' ≤ n + 1 → jLi cK cL cR (.inl (100, Lx, fun j => .int (xs j))) 571 563 n' tm' er' T' h' → jcx er' tm' T' h' → YX tm' er' T' h' → mj_T 100 mj_mK 2100 [some (.ref 0), some (.ref 1), some (.ref 563), some (.ref 571), some (.int (jn i)), l5, l6, l7, l8] [] h' Q) : mj_T 100 mj_mK 957 [some (.ref 0), some (.ref 1), some (.ref 563), some (.ref 571), some (.int (jn i)), l5, l6, l7, l8] [] h Q := by
  obtain ⟨N0, u0, H0, hr0, s0, E0, J0⟩ := Y
  have A0 := J0.AS
  refine mj_T.pl rfl rfl rfl rfl ?_
  refine jL.arg (k := 1) I.2.1 hi hL ⟨by decide, by decide⟩ rfl rfl rfl rfl rfl ?_
  refine jT.asJ ?_
  refine mj_T.eq (pc2 := 964) ?_ rfl rfl rfl rfl
  refine mj_T.pl rfl rfl rfl rfl ?_
  refine mj_T.call rfl rfl (Nat.le_of_ble_eq_true rfl) (Nat.le_of_ble_eq_true rfl) rfl rfl (mj_Ok.up (by decide) (mj_Ok.and (mj_Ok.up (by decide) ((jw_324 (D := 0) cTY I.1 ck0.2 (jr_of' _)).qt rfl)) (jy_324 I.1 (jr_of' _) ((cz_117 A0 s0 (jr_of' _)).to (fun _ y => y.yz))))) (fun v h1 hq => ?_) (fun i' h1 hq => by obtain ⟨hq, _⟩ := hq; obtain ⟨hq, _⟩ := hq; exact (by obtain ⟨_, hq, _⟩ := hq; cases hq))
  obtain ⟨hq, qy⟩ := hq
  obtain ⟨hq, qx⟩ := hq
  have X1 := X.qt qx
  obtain ⟨z, hv, ⟨n1, hn1, hn2, w1⟩, f1⟩ := hq
  cases hv
  have I1 := I.cls jZ_pl w1 hn1 f1
  have E1 := E0.frame jZ_pl f1 (by have e1 := I.1.1.1; have e2 := w1.1.1; have e3 := hn1; omega)
  refine mj_T.pl (loc' := [some (.ref 0), some (.ref 1), some (.ref 563), some (.ref 571), some (.int (jn i)), some (.int (jn z)), l6, l7, l8]) rfl rfl rfl rfl ?_
  refine mj_T.pl rfl rfl rfl rfl ?_
  refine jL.arg (k := 1) I1.2.1 hi hL ⟨by decide, by decide⟩ rfl rfl rfl rfl rfl ?_
  refine jT.asJ ?_
  refine mj_T.eq (pc2 := 977) ?_ rfl rfl rfl rfl
  obtain ⟨fs, ho⟩ := I1.obj
  refine mj_T.call rfl rfl (Nat.le_of_ble_eq_true rfl) (Nat.le_of_ble_eq_true rfl) (by simp [mj_recv, ho]) rfl (mj_Ok.up (by decide) (mj_Ok.and (mj_Ok.up (by decide) ((I1.callJ jZ_pl (fun hr hI => rp_interpolate (jr_of _) hI) (fun N => rfl)).qt rfl)) (YX.call (tm' := tm) (er' := er) (T' := T) E1 qy (Q_interpolate.ag A0.1 _) (rz_interpolate (jr_of _) J0) (fun N => rfl)))) (fun v h2 hq => ?_) (fun i' h2 hq => by obtain ⟨hq, _⟩ := hq; obtain ⟨hq, _⟩ := hq; exact (by obtain ⟨_, hq, _⟩ := hq; cases hq))
  obtain ⟨hq, Y2⟩ := hq
  obtain ⟨hq, qx⟩ := hq
  have X2 := X1.qt qx
  obtain ⟨z2, hv, I2⟩ := hq
  cases hv
  refine mj_T.pl (loc' := [some (.ref 0), some (.ref 1), some (.ref 563), some (.ref 571), some (.int (jn i)), some (.int (jn z)), some (.long (jl z2)), none, l8]) rfl rfl rfl rfl ?_
  refine mj_T.pl rfl rfl rfl rfl ?_
  exact k n1 tm er T h2 _ _ _ _ hn1 hn2 I2 X2 Y2
theorem jL_17 {n Lx : Nat} {xs : Nat → Int32} {tm er i : Int} {T : Nat → Int} {h : mj_H} {l5 l6 l7 l8 : Option Value} {Q : mj_R → Prop} (hi : 0 ≤ i ∧ i + 6 ≤ Lx) (hL : Lx ≤ 3072) (I : jLi cK cL cR (.inl (100, Lx, fun j => .int (xs j))) 571 563 n tm er T h) (X : jcx er tm T h) (Y : YX tm er T h) (k : ∀ (n' : Nat) (tm' er' : Int) (T' : Nat → Int) (h' : mj_H) (l5 l6 l7 l8 : Option Value), n ≤ n' → n' ≤ n + 1 → jLi cK cL cR (.inl (100, Lx, fun j => .int (xs j))) 571 563 n' tm' er' T' h' → jcx er' tm' T' h' → YX tm' er' T' h' → mj_T 100 mj_mK 2100 [some (.ref 0), some (.ref 1), some (.ref 563), some (.ref 571), some (.int (jn i)), l5, l6, l7, l8] [] h' Q) : mj_T 100 mj_mK 998 [some (.ref 0), some (.ref 1), some (.ref 563), some (.ref 571), some (.int (jn i)), l5, l6, l7, l8] [] h Q := by
  obtain ⟨N0, u0, H0, hr0, s0, E0, J0⟩ := Y
  have A0 := J0.AS
  refine mj_T.pl rfl rfl rfl rfl ?_
  refine jL.arg (k := 1) I.2.1 hi hL ⟨by decide, by decide⟩ rfl rfl rfl rfl rfl ?_
  refine jT.asJ ?_
  refine mj_T.eq (pc2 := 1005) ?_ rfl rfl rfl rfl
  refine mj_T.pl rfl rfl rfl rfl ?_
  refine mj_T.call rfl rfl (Nat.le_of_ble_eq_true rfl) (Nat.le_of_ble_eq_true rfl) rfl rfl (mj_Ok.up (by decide) (mj_Ok.and (mj_Ok.up (by decide) ((jw_325 (D := 0) cTY I.1 ck0.2 (jr_of' _)).qt rfl)) (jy_325 I.1 (jr_of' _) (yr_119 A0 s0 I.1 (jr_of' _))))) (fun v h1 hq => ?_) (fun i' h1 hq => by obtain ⟨hq, _⟩ := hq; obtain ⟨hq, _⟩ := hq; exact (by obtain ⟨_, hq, _⟩ := hq; cases hq))
  obtain ⟨hq, qy⟩ := hq
  obtain ⟨hq, qx⟩ := hq
  have X1 := X.qt qx
  obtain ⟨z, hv, ⟨n1, hn1, hn2, w1⟩, f1⟩ := hq
  cases hv
  have I1 := I.cls jZ_pl w1 hn1 f1
  have E1 := E0.frame jZ_pl f1 (by have e1 := I.1.1.1; have e2 := w1.1.1; have e3 := hn1; omega)
  refine mj_T.pl (loc' := [some (.ref 0), some (.ref 1), some (.ref 563), some (.ref 571), some (.int (jn i)), some (.int (jn z)), l6, l7, l8]) rfl rfl rfl rfl ?_
  refine mj_T.pl rfl rfl rfl rfl ?_
  refine jL.arg (k := 1) I1.2.1 hi hL ⟨by decide, by decide⟩ rfl rfl rfl rfl rfl ?_
  refine jT.asJ ?_
  refine mj_T.eq (pc2 := 1018) ?_ rfl rfl rfl rfl
  obtain ⟨fs, ho⟩ := I1.obj
  refine mj_T.call rfl rfl (Nat.le_of_ble_eq_true rfl) (Nat.le_of_ble_eq_true rfl) (by simp [mj_recv, ho]) rfl (mj_Ok.up (by decide) (mj_Ok.and (mj_Ok.up (by decide) ((I1.callI jZ_pl (fun hr hI => rp_degree (jr_of _) hI) (fun N => rfl)).qt rfl)) (YX.call (tm' := tm) (er' := er) (T' := T) E1 qy (sameQ.ag _ _ _) ((rx_degree (jr_of _) J0).to (fun r k => rIx.z k ⟨rfl, rfl, rfl⟩)) (fun N => rfl)))) (fun v h2 hq => ?_) (fun i' h2 hq => by obtain ⟨hq, _⟩ := hq; obtain ⟨hq, _⟩ := hq; exact (by obtain ⟨_, hq, _⟩ := hq; cases hq))
  obtain ⟨hq, Y2⟩ := hq
  obtain ⟨hq, qx⟩ := hq
  have X2 := X1.qt qx
  obtain ⟨z2, hv, I2⟩ := hq
  cases hv
  refine mj_T.pl (loc' := [some (.ref 0), some (.ref 1), some (.ref 563), some (.ref 571), some (.int (jn i)), some (.int (jn z)), some (.int (jn z2)), l7, l8]) rfl rfl rfl rfl ?_
  refine mj_T.pl rfl rfl rfl rfl ?_
  exact k n1 tm er T h2 _ _ _ _ hn1 hn2 I2 X2 Y2
theorem jL_18 {n Lx : Nat} {xs : Nat → Int32} {tm er i : Int} {T : Nat → Int} {h : mj_H} {l5 l6 l7 l8 : Option Value} {Q : mj_R → Prop} (hi : 0 ≤ i ∧ i + 6 ≤ Lx) (hL : Lx ≤ 3072) (I : jLi cK cL cR (.inl (100, Lx, fun j => .int (xs j))) 571 563 n tm er T h) (X : jcx er tm T h) (Y : YX tm er T h) (k : ∀ (n' : Nat) (tm' er' : Int) (T' : Nat → Int) (h' : mj_H) (l5 l6 l7 l8 : Option Value), n ≤ n' → n' ≤ n + 1 → jLi cK cL cR (.inl (100, Lx, fun j => .int (xs j))) 571 563 n' tm' er' T' h' → jcx er' tm' T' h' → YX tm' er' T' h' → mj_T 100 mj_mK 2100 [some (.ref 0), some (.ref 1), some (.ref 563), some (.ref 571), some (.int (jn i)), l5, l6, l7, l8] [] h' Q) : mj_T 100 mj_mK 1026 [some (.ref 0), some (.ref 1), some (.ref 563), some (.ref 571), some (.int (jn i)), l5, l6, l7, l8] [] h Q := by
  obtain ⟨N0, u0, H0, hr0, s0, E0, J0⟩ := Y
  have A0 := J0.AS
  refine mj_T.pl rfl rfl rfl rfl ?_
  refine jL.arg (k := 1) I.2.1 hi hL ⟨by decide, by decide⟩ rfl rfl rfl rfl rfl ?_
  refine jT.asJ ?_
  refine mj_T.eq (pc2 := 1033) ?_ rfl rfl rfl rfl
  refine mj_T.pl rfl rfl rfl rfl ?_
  refine mj_T.call rfl rfl (Nat.le_of_ble_eq_true rfl) (Nat.le_of_ble_eq_true rfl) rfl rfl (mj_Ok.up (by decide) (mj_Ok.and (mj_Ok.up (by decide) ((jw_326 (D := 0) cTY I.1 ck0.2 (jr_of' _)).qt rfl)) (jy_326 I.1 (jr_of' _) (yr_120 A0 s0 I.1 (jr_of' _))))) (fun v h1 hq => ?_) (fun i' h1 hq => by obtain ⟨hq, _⟩ := hq; obtain ⟨hq, _⟩ := hq; exact (by obtain ⟨_, hq, _⟩ := hq; cases hq))
  obtain ⟨hq, qy⟩ := hq
  obtain ⟨hq, qx⟩ := hq
  have X1 := X.qt qx
  obtain ⟨z, hv, ⟨n1, hn1, hn2, w1⟩, f1⟩ := hq
  cases hv
  have I1 := I.cls jZ_pl w1 hn1 f1
  have E1 := E0.frame jZ_pl f1 (by have e1 := I.1.1.1; have e2 := w1.1.1; have e3 := hn1; omega)
  refine mj_T.pl (loc' := [some (.ref 0), some (.ref 1), some (.ref 563), some (.ref 571), some (.int (jn i)), some (.int (jn z)), l6, l7, l8]) rfl rfl rfl rfl ?_
  refine mj_T.pl rfl rfl rfl rfl ?_
  refine jL.arg (k := 1) I1.2.1 hi hL ⟨by decide, by decide⟩ rfl rfl rfl rfl rfl ?_
  refine jT.asJ ?_
  refine mj_T.eq (pc2 := 1046) ?_ rfl rfl rfl rfl
  obtain ⟨fs, ho⟩ := I1.obj
  refine mj_T.call rfl rfl (Nat.le_of_ble_eq_true rfl) (Nat.le_of_ble_eq_true rfl) (by simp [mj_recv, ho]) rfl (mj_Ok.up (by decide) (mj_Ok.and (mj_Ok.up (by decide) ((I1.callI jZ_pl (fun hr hI => rp_terms (jr_of _) hI) (fun N => rfl)).qt rfl)) (YX.call (tm' := tm) (er' := er) (T' := T) E1 qy (sameQ.ag _ _ _) ((rx_terms (jr_of _) J0).to (fun r k => rIx.z k ⟨rfl, rfl, rfl⟩)) (fun N => rfl)))) (fun v h2 hq => ?_) (fun i' h2 hq => by obtain ⟨hq, _⟩ := hq; obtain ⟨hq, _⟩ := hq; exact (by obtain ⟨_, hq, _⟩ := hq; cases hq))
  obtain ⟨hq, Y2⟩ := hq
  obtain ⟨hq, qx⟩ := hq
  have X2 := X1.qt qx
  obtain ⟨z2, hv, I2⟩ := hq
  cases hv
  refine mj_T.pl (loc' := [some (.ref 0), some (.ref 1), some (.ref 563), some (.ref 571), some (.int (jn i)), some (.int (jn z)), some (.int (jn z2)), l7, l8]) rfl rfl rfl rfl ?_
  refine mj_T.pl rfl rfl rfl rfl ?_
  exact k n1 tm er T h2 _ _ _ _ hn1 hn2 I2 X2 Y2
theorem jL_19 {n Lx : Nat} {xs : Nat → Int32} {tm er i : Int} {T : Nat → Int} {h : mj_H} {l5 l6 l7 l8 : Option Value} {Q : mj_R → Prop} (hi : 0 ≤ i ∧ i + 6 ≤ Lx) (hL : Lx ≤ 3072) (I : jLi cK cL cR (.inl (100, Lx, fun j => .int (xs j))) 571 563 n tm er T h) (X : jcx er tm T h) (Y : YX tm er T h) (k : ∀ (n' : Nat) (tm' er' : Int) (T' : Nat → Int) (h' : mj_H) (l5 l6 l7 l8 : Option Value), n ≤ n' → n' ≤ n + 1 → jLi cK cL cR (.inl (100, Lx, fun j => .int (xs j))) 571 563 n' tm' er' T' h' → jcx er' tm' T' h' → YX tm' er' T' h' → mj_T 100 mj_mK 2100 [some (.ref 0), some (.ref 1), some (.ref 563), some (.ref 571), some (.int (jn i)), l5, l6, l7, l8] [] h' Q) : mj_T 100 mj_mK 1054 [some (.ref 0), some (.ref 1), some (.ref 563), some (.ref 571), some (.int (jn i)), l5, l6, l7, l8] [] h Q := by
  obtain ⟨N0, u0, H0, hr0, s0, E0, J0⟩ := Y
  have A0 := J0.AS
  refine mj_T.pl rfl rfl rfl rfl ?_
  refine jL.arg (k := 1) I.2.1 hi hL ⟨by decide, by decide⟩ rfl rfl rfl rfl rfl ?_
  refine jT.asJ ?_
  refine mj_T.eq (pc2 := 1061) ?_ rfl rfl rfl rfl
  refine jL.arg (k := 2) I.2.1 hi hL ⟨by decide, by decide⟩ rfl rfl rfl rfl rfl ?_
  refine jT.asJ ?_
  refine mj_T.eq (pc2 := 1067) ?_ rfl rfl rfl rfl
  refine mj_T.pl rfl rfl rfl rfl ?_
  refine mj_T.call rfl rfl (Nat.le_of_ble_eq_true rfl) (Nat.le_of_ble_eq_true rfl) rfl rfl (mj_Ok.up (by decide) (mj_Ok.and (mj_Ok.up (by decide) ((jw_327 (D := 0) cTY I.1 ck0.2 (jr_of' _) (jr_of' _)).qt rfl)) (jy_327 I.1 (jr_of' _) (jr_of' _) (yr_121 A0 s0 I.1 (jr_of' _) (jr_of' _))))) (fun v h1 hq => ?_) (fun i' h1 hq => by obtain ⟨hq, _⟩ := hq; obtain ⟨hq, _⟩ := hq; exact (by obtain ⟨_, hq, _⟩ := hq; cases hq))
  obtain ⟨hq, qy⟩ := hq
  obtain ⟨hq, qx⟩ := hq
  have X1 := X.qt qx
  obtain ⟨z, hv, ⟨n1, hn1, hn2, w1⟩, f1⟩ := hq
  cases hv
  have I1 := I.cls jZ_pl w1 hn1 f1
  have E1 := E0.frame jZ_pl f1 (by have e1 := I.1.1.1; have e2 := w1.1.1; have e3 := hn1; omega)
  refine mj_T.pl (loc' := [some (.ref 0), some (.ref 1), some (.ref 563), some (.ref 571), some (.int (jn i)), some (.int (jn z)), l6, l7, l8]) rfl rfl rfl rfl ?_
  refine mj_T.pl rfl rfl rfl rfl ?_
  refine jL.arg (k := 1) I1.2.1 hi hL ⟨by decide, by decide⟩ rfl rfl rfl rfl rfl ?_
  refine jT.asJ ?_
  refine mj_T.eq (pc2 := 1080) ?_ rfl rfl rfl rfl
  refine jL.arg (k := 2) I1.2.1 hi hL ⟨by decide, by decide⟩ rfl rfl rfl rfl rfl ?_
  refine jT.asJ ?_
  refine mj_T.eq (pc2 := 1086) ?_ rfl rfl rfl rfl
  obtain ⟨fs, ho⟩ := I1.obj
  refine mj_T.call rfl rfl (Nat.le_of_ble_eq_true rfl) (Nat.le_of_ble_eq_true rfl) (by simp [mj_recv, ho]) rfl (mj_Ok.up (by decide) (mj_Ok.and (mj_Ok.up (by decide) ((I1.callI jZ_pl (fun hr hI => rp_exponent (jr_of _) (jr_of _) hI) (fun N => rfl)).qt rfl)) (YX.call (tm' := tm) (er' := er) (T' := T) E1 qy (sameQ.ag _ _ _) ((rx_exponent (jr_of _) (jr_of _) J0).to (fun r k => rIx.z k ⟨rfl, rfl, rfl⟩)) (fun N => rfl)))) (fun v h2 hq => ?_) (fun i' h2 hq => by obtain ⟨hq, _⟩ := hq; obtain ⟨hq, _⟩ := hq; exact (by obtain ⟨_, hq, _⟩ := hq; cases hq))
  obtain ⟨hq, Y2⟩ := hq
  obtain ⟨hq, qx⟩ := hq
  have X2 := X1.qt qx
  obtain ⟨z2, hv, I2⟩ := hq
  cases hv
  refine mj_T.pl (loc' := [some (.ref 0), some (.ref 1), some (.ref 563), some (.ref 571), some (.int (jn i)), some (.int (jn z)), some (.int (jn z2)), l7, l8]) rfl rfl rfl rfl ?_
  refine mj_T.pl rfl rfl rfl rfl ?_
  exact k n1 tm er T h2 _ _ _ _ hn1 hn2 I2 X2 Y2
theorem jL_20 {n Lx : Nat} {xs : Nat → Int32} {tm er i : Int} {T : Nat → Int} {h : mj_H} {l5 l6 l7 l8 : Option Value} {Q : mj_R → Prop} (hi : 0 ≤ i ∧ i + 6 ≤ Lx) (hL : Lx ≤ 3072) (I : jLi cK cL cR (.inl (100, Lx, fun j => .int (xs j))) 571 563 n tm er T h) (X : jcx er tm T h) (Y : YX tm er T h) (k : ∀ (n' : Nat) (tm' er' : Int) (T' : Nat → Int) (h' : mj_H) (l5 l6 l7 l8 : Option Value), n ≤ n' → n' ≤ n + 1 → jLi cK cL cR (.inl (100, Lx, fun j => .int (xs j))) 571 563 n' tm' er' T' h' → jcx er' tm' T' h' → YX tm' er' T' h' → mj_T 100 mj_mK 2100 [some (.ref 0), some (.ref 1), some (.ref 563), some (.ref 571), some (.int (jn i)), l5, l6, l7, l8] [] h' Q) : mj_T 100 mj_mK 1094 [some (.ref 0), some (.ref 1), some (.ref 563), some (.ref 571), some (.int (jn i)), l5, l6, l7, l8] [] h Q := by
  obtain ⟨N0, u0, H0, hr0, s0, E0, J0⟩ := Y
  have A0 := J0.AS
  refine mj_T.pl rfl rfl rfl rfl ?_
  refine jL.arg (k := 1) I.2.1 hi hL ⟨by decide, by decide⟩ rfl rfl rfl rfl rfl ?_
  refine jT.asJ ?_
  refine mj_T.eq (pc2 := 1101) ?_ rfl rfl rfl rfl
  refine jL.arg (k := 2) I.2.1 hi hL ⟨by decide, by decide⟩ rfl rfl rfl rfl rfl ?_
  refine jT.asJ ?_
  refine mj_T.eq (pc2 := 1107) ?_ rfl rfl rfl rfl
  refine mj_T.pl rfl rfl rfl rfl ?_
  refine mj_T.call rfl rfl (Nat.le_of_ble_eq_true rfl) (Nat.le_of_ble_eq_true rfl) rfl rfl (mj_Ok.up (by decide) (mj_Ok.and (mj_Ok.up (by decide) ((jw_328 (D := 0) cTY I.1 ck0.2 (jr_of' _) (jr_of' _)).qt rfl)) (jy_328 I.1 (jr_of' _) (jr_of' _) (yr_122 A0 s0 I.1 (jr_of' _) (jr_of' _))))) (fun v h1 hq => ?_) (fun i' h1 hq => by obtain ⟨hq, _⟩ := hq; obtain ⟨hq, _⟩ := hq; exact (by obtain ⟨_, hq, _⟩ := hq; cases hq))
  obtain ⟨hq, qy⟩ := hq
  obtain ⟨hq, qx⟩ := hq
  have X1 := X.qt qx
  obtain ⟨z, hv, ⟨n1, hn1, hn2, w1⟩, f1⟩ := hq
  cases hv
  have I1 := I.cls jZ_pl w1 hn1 f1
  have E1 := E0.frame jZ_pl f1 (by have e1 := I.1.1.1; have e2 := w1.1.1; have e3 := hn1; omega)
  refine mj_T.pl (loc' := [some (.ref 0), some (.ref 1), some (.ref 563), some (.ref 571), some (.int (jn i)), some (.int (jn z)), l6, l7, l8]) rfl rfl rfl rfl ?_
  refine mj_T.pl rfl rfl rfl rfl ?_
  refine jL.arg (k := 1) I1.2.1 hi hL ⟨by decide, by decide⟩ rfl rfl rfl rfl rfl ?_
  refine jT.asJ ?_
  refine mj_T.eq (pc2 := 1120) ?_ rfl rfl rfl rfl
  refine jL.arg (k := 2) I1.2.1 hi hL ⟨by decide, by decide⟩ rfl rfl rfl rfl rfl ?_
  refine jT.asJ ?_
  refine mj_T.eq (pc2 := 1126) ?_ rfl rfl rfl rfl
  obtain ⟨fs, ho⟩ := I1.obj
  refine mj_T.call rfl rfl (Nat.le_of_ble_eq_true rfl) (Nat.le_of_ble_eq_true rfl) (by simp [mj_recv, ho]) rfl (mj_Ok.up (by decide) (mj_Ok.and (mj_Ok.up (by decide) ((I1.callI jZ_pl (fun hr hI => rp_coefficient (jr_of _) (jr_of _) hI) (fun N => rfl)).qt rfl)) (YX.call (tm' := tm) (er' := er) (T' := T) E1 qy (sameQ.ag _ _ _) ((rx_coefficient (jr_of _) (jr_of _) J0).to (fun r k => rIx.z k ⟨rfl, rfl, rfl⟩)) (fun N => rfl)))) (fun v h2 hq => ?_) (fun i' h2 hq => by obtain ⟨hq, _⟩ := hq; obtain ⟨hq, _⟩ := hq; exact (by obtain ⟨_, hq, _⟩ := hq; cases hq))
  obtain ⟨hq, Y2⟩ := hq
  obtain ⟨hq, qx⟩ := hq
  have X2 := X1.qt qx
  obtain ⟨z2, hv, I2⟩ := hq
  cases hv
  refine mj_T.pl (loc' := [some (.ref 0), some (.ref 1), some (.ref 563), some (.ref 571), some (.int (jn i)), some (.int (jn z)), some (.int (jn z2)), l7, l8]) rfl rfl rfl rfl ?_
  refine mj_T.pl rfl rfl rfl rfl ?_
  exact k n1 tm er T h2 _ _ _ _ hn1 hn2 I2 X2 Y2
theorem jL_21 {n Lx : Nat} {xs : Nat → Int32} {tm er i : Int} {T : Nat → Int} {h : mj_H} {l5 l6 l7 l8 : Option Value} {Q : mj_R → Prop} (hi : 0 ≤ i ∧ i + 6 ≤ Lx) (hL : Lx ≤ 3072) (I : jLi cK cL cR (.inl (100, Lx, fun j => .int (xs j))) 571 563 n tm er T h) (X : jcx er tm T h) (Y : YX tm er T h) (k : ∀ (n' : Nat) (tm' er' : Int) (T' : Nat → Int) (h' : mj_H) (l5 l6 l7 l8 : Option Value), n ≤ n' → n' ≤ n + 1 → jLi cK cL cR (.inl (100, Lx, fun j => .int (xs j))) 571 563 n' tm' er' T' h' → jcx er' tm' T' h' → YX tm' er' T' h' → mj_T 100 mj_mK 2100 [some (.ref 0), some (.ref 1), some (.ref 563), some (.ref 571), some (.int (jn i)), l5, l6, l7, l8] [] h' Q) : mj_T 100 mj_mK 1134 [some (.ref 0), some (.ref 1), some (.ref 563), some (.ref 571), some (.int (jn i)), l5, l6, l7, l8] [] h Q := by
  obtain ⟨N0, u0, H0, hr0, s0, E0, J0⟩ := Y
  have A0 := J0.AS
  refine mj_T.pl rfl rfl rfl rfl ?_
  refine jL.arg (k := 1) I.2.1 hi hL ⟨by decide, by decide⟩ rfl rfl rfl rfl rfl ?_
  refine jT.asJ ?_
  refine mj_T.eq (pc2 := 1141) ?_ rfl rfl rfl rfl
  refine mj_T.pl rfl rfl rfl rfl ?_
  refine mj_T.call rfl rfl (Nat.le_of_ble_eq_true rfl) (Nat.le_of_ble_eq_true rfl) rfl rfl (mj_Ok.up (by decide) (mj_Ok.and (mj_Ok.up (by decide) ((jw_329 (D := 0) cTY I.1 ck0.2 (jr_of' _)).qt rfl)) (jy_329 I.1 (jr_of' _) (yr_123 A0 s0 I.1 (jr_of' _))))) (fun v h1 hq => ?_) (fun i' h1 hq => by obtain ⟨hq, _⟩ := hq; obtain ⟨hq, _⟩ := hq; exact (by obtain ⟨_, hq, _⟩ := hq; cases hq))
  obtain ⟨hq, qy⟩ := hq
  obtain ⟨hq, qx⟩ := hq
  have X1 := X.qt qx
  obtain ⟨z, hv, ⟨n1, hn1, hn2, w1⟩, f1⟩ := hq
  cases hv
  have I1 := I.cls jZ_pl w1 hn1 f1
  have E1 := E0.frame jZ_pl f1 (by have e1 := I.1.1.1; have e2 := w1.1.1; have e3 := hn1; omega)
  refine mj_T.pl (loc' := [some (.ref 0), some (.ref 1), some (.ref 563), some (.ref 571), some (.int (jn i)), some (.int (jn z)), l6, l7, l8]) rfl rfl rfl rfl ?_
  refine mj_T.pl rfl rfl rfl rfl ?_
  refine jL.arg (k := 1) I1.2.1 hi hL ⟨by decide, by decide⟩ rfl rfl rfl rfl rfl ?_
  refine jT.asJ ?_
  refine mj_T.eq (pc2 := 1154) ?_ rfl rfl rfl rfl
  obtain ⟨fs, ho⟩ := I1.obj
  refine mj_T.call rfl rfl (Nat.le_of_ble_eq_true rfl) (Nat.le_of_ble_eq_true rfl) (by simp [mj_recv, ho]) rfl (mj_Ok.up (by decide) (mj_Ok.and (mj_Ok.up (by decide) ((I1.callI jZ_pl (fun hr hI => rp_content (jr_of _) hI) (fun N => rfl)).qt rfl)) (YX.call (tm' := tm) (er' := er) (T' := T) E1 qy (sameQ.ag _ _ _) ((rx_content (jr_of _) J0).to (fun r k => rIx.z k ⟨rfl, rfl, rfl⟩)) (fun N => rfl)))) (fun v h2 hq => ?_) (fun i' h2 hq => by obtain ⟨hq, _⟩ := hq; obtain ⟨hq, _⟩ := hq; exact (by obtain ⟨_, hq, _⟩ := hq; cases hq))
  obtain ⟨hq, Y2⟩ := hq
  obtain ⟨hq, qx⟩ := hq
  have X2 := X1.qt qx
  obtain ⟨z2, hv, I2⟩ := hq
  cases hv
  refine mj_T.pl (loc' := [some (.ref 0), some (.ref 1), some (.ref 563), some (.ref 571), some (.int (jn i)), some (.int (jn z)), some (.int (jn z2)), l7, l8]) rfl rfl rfl rfl ?_
  refine mj_T.pl rfl rfl rfl rfl ?_
  exact k n1 tm er T h2 _ _ _ _ hn1 hn2 I2 X2 Y2
theorem jL_22 {n Lx : Nat} {xs : Nat → Int32} {tm er i : Int} {T : Nat → Int} {h : mj_H} {l5 l6 l7 l8 : Option Value} {Q : mj_R → Prop} (hi : 0 ≤ i ∧ i + 6 ≤ Lx) (hL : Lx ≤ 3072) (I : jLi cK cL cR (.inl (100, Lx, fun j => .int (xs j))) 571 563 n tm er T h) (X : jcx er tm T h) (Y : YX tm er T h) (k : ∀ (n' : Nat) (tm' er' : Int) (T' : Nat → Int) (h' : mj_H) (l5 l6 l7 l8 : Option Value), n ≤ n' → n' ≤ n + 1 → jLi cK cL cR (.inl (100, Lx, fun j => .int (xs j))) 571 563 n' tm' er' T' h' → jcx er' tm' T' h' → YX tm' er' T' h' → mj_T 100 mj_mK 2100 [some (.ref 0), some (.ref 1), some (.ref 563), some (.ref 571), some (.int (jn i)), l5, l6, l7, l8] [] h' Q) : mj_T 100 mj_mK 1162 [some (.ref 0), some (.ref 1), some (.ref 563), some (.ref 571), some (.int (jn i)), l5, l6, l7, l8] [] h Q := by
  obtain ⟨N0, u0, H0, hr0, s0, E0, J0⟩ := Y
  have A0 := J0.AS
  refine mj_T.pl rfl rfl rfl rfl ?_
  refine jL.arg (k := 1) I.2.1 hi hL ⟨by decide, by decide⟩ rfl rfl rfl rfl rfl ?_
  refine jT.asJ ?_
  refine mj_T.eq (pc2 := 1169) ?_ rfl rfl rfl rfl
  refine jL.arg (k := 2) I.2.1 hi hL ⟨by decide, by decide⟩ rfl rfl rfl rfl rfl ?_
  refine jT.asJ ?_
  refine mj_T.eq (pc2 := 1175) ?_ rfl rfl rfl rfl
  refine jL.arg (k := 3) I.2.1 hi hL ⟨by decide, by decide⟩ rfl rfl rfl rfl rfl ?_
  refine jT.asJ ?_
  refine mj_T.eq (pc2 := 1181) ?_ rfl rfl rfl rfl
  refine mj_T.pl rfl rfl rfl rfl ?_
  refine mj_T.call rfl rfl (Nat.le_of_ble_eq_true rfl) (Nat.le_of_ble_eq_true rfl) rfl rfl (mj_Ok.up (by decide) (mj_Ok.and (mj_Ok.up (by decide) ((jw_330 (D := 0) cTY I.1 ck0.2 (jr_of' _) (jr_of' _) (jr_of' _)).qt rfl)) (jy_330 I.1 (jr_of' _) (jr_of' _) (jr_of' _) (yr_124 A0 s0 I.1 (jr_of' _) (jr_of' _) (jr_of' _))))) (fun v h1 hq => ?_) (fun i' h1 hq => by obtain ⟨hq, _⟩ := hq; obtain ⟨hq, _⟩ := hq; exact (by obtain ⟨_, hq, _⟩ := hq; cases hq))
  obtain ⟨hq, qy⟩ := hq
  obtain ⟨hq, qx⟩ := hq
  have X1 := X.qt qx
  obtain ⟨z, hv, ⟨n1, hn1, hn2, w1⟩, f1⟩ := hq
  cases hv
  have I1 := I.cls jZ_pl w1 hn1 f1
  have E1 := E0.frame jZ_pl f1 (by have e1 := I.1.1.1; have e2 := w1.1.1; have e3 := hn1; omega)
  refine mj_T.pl (loc' := [some (.ref 0), some (.ref 1), some (.ref 563), some (.ref 571), some (.int (jn i)), some (.int (jn z)), l6, l7, l8]) rfl rfl rfl rfl ?_
  refine mj_T.pl rfl rfl rfl rfl ?_
  refine jL.arg (k := 1) I1.2.1 hi hL ⟨by decide, by decide⟩ rfl rfl rfl rfl rfl ?_
  refine jT.asJ ?_
  refine mj_T.eq (pc2 := 1194) ?_ rfl rfl rfl rfl
  refine jL.arg (k := 2) I1.2.1 hi hL ⟨by decide, by decide⟩ rfl rfl rfl rfl rfl ?_
  refine jT.asJ ?_
  refine mj_T.eq (pc2 := 1200) ?_ rfl rfl rfl rfl
  refine jL.arg (k := 3) I1.2.1 hi hL ⟨by decide, by decide⟩ rfl rfl rfl rfl rfl ?_
  refine jT.asJ ?_
  refine mj_T.eq (pc2 := 1206) ?_ rfl rfl rfl rfl
  obtain ⟨fs, ho⟩ := I1.obj
  refine mj_T.call rfl rfl (Nat.le_of_ble_eq_true rfl) (Nat.le_of_ble_eq_true rfl) (by simp [mj_recv, ho]) rfl (mj_Ok.up (by decide) (mj_Ok.and (mj_Ok.up (by decide) ((I1.callI jZ_pl (fun hr hI => rp_value (jr_of _) (jr_of _) (jr_of _) hI) (fun N => rfl)).qt rfl)) (YX.call (tm' := tm) (er' := er) (T' := T) E1 qy (sameQ.ag _ _ _) ((rx_value (jr_of _) (jr_of _) (jr_of _) J0).to (fun r k => rIx.z k ⟨rfl, rfl, rfl⟩)) (fun N => rfl)))) (fun v h2 hq => ?_) (fun i' h2 hq => by obtain ⟨hq, _⟩ := hq; obtain ⟨hq, _⟩ := hq; exact (by obtain ⟨_, hq, _⟩ := hq; cases hq))
  obtain ⟨hq, Y2⟩ := hq
  obtain ⟨hq, qx⟩ := hq
  have X2 := X1.qt qx
  obtain ⟨z2, hv, I2⟩ := hq
  cases hv
  refine mj_T.pl (loc' := [some (.ref 0), some (.ref 1), some (.ref 563), some (.ref 571), some (.int (jn i)), some (.int (jn z)), some (.int (jn z2)), l7, l8]) rfl rfl rfl rfl ?_
  refine mj_T.pl rfl rfl rfl rfl ?_
  exact k n1 tm er T h2 _ _ _ _ hn1 hn2 I2 X2 Y2
theorem jL_23 {n Lx : Nat} {xs : Nat → Int32} {tm er i : Int} {T : Nat → Int} {h : mj_H} {l5 l6 l7 l8 : Option Value} {Q : mj_R → Prop} (hi : 0 ≤ i ∧ i + 6 ≤ Lx) (hL : Lx ≤ 3072) (I : jLi cK cL cR (.inl (100, Lx, fun j => .int (xs j))) 571 563 n tm er T h) (X : jcx er tm T h) (Y : YX tm er T h) (k : ∀ (n' : Nat) (tm' er' : Int) (T' : Nat → Int) (h' : mj_H) (l5 l6 l7 l8 : Option Value), n ≤ n' → n' ≤ n + 1 → jLi cK cL cR (.inl (100, Lx, fun j => .int (xs j))) 571 563 n' tm' er' T' h' → jcx er' tm' T' h' → YX tm' er' T' h' → mj_T 100 mj_mK 2100 [some (.ref 0), some (.ref 1), some (.ref 563), some (.ref 571), some (.int (jn i)), l5, l6, l7, l8] [] h' Q) : mj_T 100 mj_mK 1214 [some (.ref 0), some (.ref 1), some (.ref 563), some (.ref 571), some (.int (jn i)), l5, l6, l7, l8] [] h Q := by
  obtain ⟨N0, u0, H0, hr0, s0, E0, J0⟩ := Y
  have A0 := J0.AS
  refine mj_T.pl rfl rfl rfl rfl ?_
  refine jL.arg (k := 1) I.2.1 hi hL ⟨by decide, by decide⟩ rfl rfl rfl rfl rfl ?_
  refine jT.asJ ?_
  refine mj_T.eq (pc2 := 1221) ?_ rfl rfl rfl rfl
  refine jL.arg (k := 2) I.2.1 hi hL ⟨by decide, by decide⟩ rfl rfl rfl rfl rfl ?_
  refine jT.asJ ?_
  refine mj_T.eq (pc2 := 1227) ?_ rfl rfl rfl rfl
  refine mj_T.pl rfl rfl rfl rfl ?_
  refine mj_T.call rfl rfl (Nat.le_of_ble_eq_true rfl) (Nat.le_of_ble_eq_true rfl) rfl rfl (mj_Ok.up (by decide) (mj_Ok.and (mj_Ok.up (by decide) ((jw_331 (D := 0) cTY I.1 ck0.2 (jr_of' _) (jr_of' _)).qt rfl)) (jy_331 I.1 (jr_of' _) (jr_of' _) (yr_125 A0 s0 I.1 (jr_of' _) (jr_of' _))))) (fun v h1 hq => ?_) (fun i' h1 hq => by obtain ⟨hq, _⟩ := hq; obtain ⟨hq, _⟩ := hq; exact (by obtain ⟨_, hq, _⟩ := hq; cases hq))
  obtain ⟨hq, qy⟩ := hq
  obtain ⟨hq, qx⟩ := hq
  have X1 := X.qt qx
  obtain ⟨z, hv, ⟨n1, hn1, hn2, w1⟩, f1⟩ := hq
  cases hv
  have I1 := I.cls jZ_pl w1 hn1 f1
  have E1 := E0.frame jZ_pl f1 (by have e1 := I.1.1.1; have e2 := w1.1.1; have e3 := hn1; omega)
  refine mj_T.pl (loc' := [some (.ref 0), some (.ref 1), some (.ref 563), some (.ref 571), some (.int (jn i)), some (.int (jn z)), l6, l7, l8]) rfl rfl rfl rfl ?_
  refine mj_T.pl rfl rfl rfl rfl ?_
  refine jL.arg (k := 1) I1.2.1 hi hL ⟨by decide, by decide⟩ rfl rfl rfl rfl rfl ?_
  refine jT.asJ ?_
  refine mj_T.eq (pc2 := 1240) ?_ rfl rfl rfl rfl
  refine jL.arg (k := 2) I1.2.1 hi hL ⟨by decide, by decide⟩ rfl rfl rfl rfl rfl ?_
  refine jT.asJ ?_
  refine mj_T.eq (pc2 := 1246) ?_ rfl rfl rfl rfl
  obtain ⟨fs, ho⟩ := I1.obj
  refine mj_T.call rfl rfl (Nat.le_of_ble_eq_true rfl) (Nat.le_of_ble_eq_true rfl) (by simp [mj_recv, ho]) rfl (mj_Ok.up (by decide) (mj_Ok.and (mj_Ok.up (by decide) ((I1.callI jZ_pl (fun hr hI => rp_divides (jr_of _) (jr_of _) hI) (fun N => rfl)).qt rfl)) (YX.call (tm' := tm) (er' := er) (T' := T) E1 qy (sameQ.ag _ _ _) ((rx_divides (jr_of _) (jr_of _) J0).to (fun r k => rIx.z k ⟨rfl, rfl, rfl⟩)) (fun N => rfl)))) (fun v h2 hq => ?_) (fun i' h2 hq => by obtain ⟨hq, _⟩ := hq; obtain ⟨hq, _⟩ := hq; exact (by obtain ⟨_, hq, _⟩ := hq; cases hq))
  obtain ⟨hq, Y2⟩ := hq
  obtain ⟨hq, qx⟩ := hq
  have X2 := X1.qt qx
  obtain ⟨z2, hv, I2⟩ := hq
  cases hv
  refine mj_T.pl (loc' := [some (.ref 0), some (.ref 1), some (.ref 563), some (.ref 571), some (.int (jn i)), some (.int (jn z)), some (.int (jn z2)), l7, l8]) rfl rfl rfl rfl ?_
  refine mj_T.pl rfl rfl rfl rfl ?_
  exact k n1 tm er T h2 _ _ _ _ hn1 hn2 I2 X2 Y2
theorem jL_24 {n Lx : Nat} {xs : Nat → Int32} {tm er i : Int} {T : Nat → Int} {h : mj_H} {l5 l6 l7 l8 : Option Value} {Q : mj_R → Prop} (hi : 0 ≤ i ∧ i + 6 ≤ Lx) (hL : Lx ≤ 3072) (I : jLi cK cL cR (.inl (100, Lx, fun j => .int (xs j))) 571 563 n tm er T h) (X : jcx er tm T h) (Y : YX tm er T h) (k : ∀ (n' : Nat) (tm' er' : Int) (T' : Nat → Int) (h' : mj_H) (l5 l6 l7 l8 : Option Value), n ≤ n' → n' ≤ n + 1 → jLi cK cL cR (.inl (100, Lx, fun j => .int (xs j))) 571 563 n' tm' er' T' h' → jcx er' tm' T' h' → YX tm' er' T' h' → mj_T 100 mj_mK 2100 [some (.ref 0), some (.ref 1), some (.ref 563), some (.ref 571), some (.int (jn i)), l5, l6, l7, l8] [] h' Q) : mj_T 100 mj_mK 1254 [some (.ref 0), some (.ref 1), some (.ref 563), some (.ref 571), some (.int (jn i)), l5, l6, l7, l8] [] h Q := by
  obtain ⟨N0, u0, H0, hr0, s0, E0, J0⟩ := Y
  have A0 := J0.AS
  refine mj_T.pl rfl rfl rfl rfl ?_
  refine jL.arg (k := 1) I.2.1 hi hL ⟨by decide, by decide⟩ rfl rfl rfl rfl rfl ?_
  refine jT.asJ ?_
  refine mj_T.eq (pc2 := 1261) ?_ rfl rfl rfl rfl
  refine jL.arg (k := 2) I.2.1 hi hL ⟨by decide, by decide⟩ rfl rfl rfl rfl rfl ?_
  refine jT.asJ ?_
  refine mj_T.eq (pc2 := 1267) ?_ rfl rfl rfl rfl
  refine mj_T.pl rfl rfl rfl rfl ?_
  refine mj_T.call rfl rfl (Nat.le_of_ble_eq_true rfl) (Nat.le_of_ble_eq_true rfl) rfl rfl (mj_Ok.up (by decide) (mj_Ok.and (mj_Ok.up (by decide) ((jw_332 (D := 0) cTY I.1 ck0.2 (jr_of' _) (jr_of' _)).qt rfl)) (jy_332 I.1 (jr_of' _) (jr_of' _) (yr_126 A0 s0 I.1 (jr_of' _) (jr_of' _))))) (fun v h1 hq => ?_) (fun i' h1 hq => by obtain ⟨hq, _⟩ := hq; obtain ⟨hq, _⟩ := hq; exact (by obtain ⟨_, hq, _⟩ := hq; cases hq))
  obtain ⟨hq, qy⟩ := hq
  obtain ⟨hq, qx⟩ := hq
  have X1 := X.qt qx
  obtain ⟨z, hv, ⟨n1, hn1, hn2, w1⟩, f1⟩ := hq
  cases hv
  have I1 := I.cls jZ_pl w1 hn1 f1
  have E1 := E0.frame jZ_pl f1 (by have e1 := I.1.1.1; have e2 := w1.1.1; have e3 := hn1; omega)
  refine mj_T.pl (loc' := [some (.ref 0), some (.ref 1), some (.ref 563), some (.ref 571), some (.int (jn i)), some (.int (jn z)), l6, l7, l8]) rfl rfl rfl rfl ?_
  refine mj_T.pl rfl rfl rfl rfl ?_
  refine jL.arg (k := 1) I1.2.1 hi hL ⟨by decide, by decide⟩ rfl rfl rfl rfl rfl ?_
  refine jT.asJ ?_
  refine mj_T.eq (pc2 := 1280) ?_ rfl rfl rfl rfl
  refine jL.arg (k := 2) I1.2.1 hi hL ⟨by decide, by decide⟩ rfl rfl rfl rfl rfl ?_
  refine jT.asJ ?_
  refine mj_T.eq (pc2 := 1286) ?_ rfl rfl rfl rfl
  obtain ⟨fs, ho⟩ := I1.obj
  refine mj_T.call rfl rfl (Nat.le_of_ble_eq_true rfl) (Nat.le_of_ble_eq_true rfl) (by simp [mj_recv, ho]) rfl (mj_Ok.up (by decide) (mj_Ok.and (mj_Ok.up (by decide) ((I1.callI jZ_pl (fun hr hI => rp_areSame (jr_of _) (jr_of _) hI) (fun N => rfl)).qt rfl)) (YX.call (tm' := tm) (er' := er) (T' := T) E1 qy (sameQ.ag _ _ _) ((rx_areSame (jr_of _) (jr_of _) J0).to (fun r k => rIx.z k ⟨rfl, rfl, rfl⟩)) (fun N => rfl)))) (fun v h2 hq => ?_) (fun i' h2 hq => by obtain ⟨hq, _⟩ := hq; obtain ⟨hq, _⟩ := hq; exact (by obtain ⟨_, hq, _⟩ := hq; cases hq))
  obtain ⟨hq, Y2⟩ := hq
  obtain ⟨hq, qx⟩ := hq
  have X2 := X1.qt qx
  obtain ⟨z2, hv, I2⟩ := hq
  cases hv
  refine mj_T.pl (loc' := [some (.ref 0), some (.ref 1), some (.ref 563), some (.ref 571), some (.int (jn i)), some (.int (jn z)), some (.int (jn z2)), l7, l8]) rfl rfl rfl rfl ?_
  refine mj_T.pl rfl rfl rfl rfl ?_
  exact k n1 tm er T h2 _ _ _ _ hn1 hn2 I2 X2 Y2
theorem jL_25 {n Lx : Nat} {xs : Nat → Int32} {tm er i : Int} {T : Nat → Int} {h : mj_H} {l5 l6 l7 l8 : Option Value} {Q : mj_R → Prop} (hi : 0 ≤ i ∧ i + 6 ≤ Lx) (hL : Lx ≤ 3072) (I : jLi cK cL cR (.inl (100, Lx, fun j => .int (xs j))) 571 563 n tm er T h) (X : jcx er tm T h) (Y : YX tm er T h) (k : ∀ (n' : Nat) (tm' er' : Int) (T' : Nat → Int) (h' : mj_H) (l5 l6 l7 l8 : Option Value), n ≤ n' → n' ≤ n + 1 → jLi cK cL cR (.inl (100, Lx, fun j => .int (xs j))) 571 563 n' tm' er' T' h' → jcx er' tm' T' h' → YX tm' er' T' h' → mj_T 100 mj_mK 2100 [some (.ref 0), some (.ref 1), some (.ref 563), some (.ref 571), some (.int (jn i)), l5, l6, l7, l8] [] h' Q) : mj_T 100 mj_mK 1294 [some (.ref 0), some (.ref 1), some (.ref 563), some (.ref 571), some (.int (jn i)), l5, l6, l7, l8] [] h Q := by
  obtain ⟨N0, u0, H0, hr0, s0, E0, J0⟩ := Y
  have A0 := J0.AS
  refine mj_T.pl rfl rfl rfl rfl ?_
  refine jL.arg (k := 1) I.2.1 hi hL ⟨by decide, by decide⟩ rfl rfl rfl rfl rfl ?_
  refine jT.asJ ?_
  refine mj_T.eq (pc2 := 1301) ?_ rfl rfl rfl rfl
  refine jL.arg (k := 2) I.2.1 hi hL ⟨by decide, by decide⟩ rfl rfl rfl rfl rfl ?_
  refine jT.asJ ?_
  refine mj_T.eq (pc2 := 1307) ?_ rfl rfl rfl rfl
  refine mj_T.pl rfl rfl rfl rfl ?_
  refine mj_T.call rfl rfl (Nat.le_of_ble_eq_true rfl) (Nat.le_of_ble_eq_true rfl) rfl rfl (mj_Ok.up (by decide) (mj_Ok.and (mj_Ok.up (by decide) ((jw_333 (D := 0) cTY I.1 ck0.2 (jr_of' _) (jr_of' _)).qt rfl)) (jy_333 I.1 (jr_of' _) (jr_of' _) (yr_127 A0 s0 I.1 (jr_of' _) (jr_of' _))))) (fun v h1 hq => ?_) (fun i' h1 hq => by obtain ⟨hq, _⟩ := hq; obtain ⟨hq, _⟩ := hq; exact (by obtain ⟨_, hq, _⟩ := hq; cases hq))
  obtain ⟨hq, qy⟩ := hq
  obtain ⟨hq, qx⟩ := hq
  have X1 := X.qt qx
  obtain ⟨z, hv, ⟨n1, hn1, hn2, w1⟩, f1⟩ := hq
  cases hv
  have I1 := I.cls jZ_pl w1 hn1 f1
  have E1 := E0.frame jZ_pl f1 (by have e1 := I.1.1.1; have e2 := w1.1.1; have e3 := hn1; omega)
  refine mj_T.pl (loc' := [some (.ref 0), some (.ref 1), some (.ref 563), some (.ref 571), some (.int (jn i)), some (.int (jn z)), l6, l7, l8]) rfl rfl rfl rfl ?_
  refine mj_T.pl rfl rfl rfl rfl ?_
  refine jL.arg (k := 1) I1.2.1 hi hL ⟨by decide, by decide⟩ rfl rfl rfl rfl rfl ?_
  refine jT.asJ ?_
  refine mj_T.eq (pc2 := 1320) ?_ rfl rfl rfl rfl
  refine jL.arg (k := 2) I1.2.1 hi hL ⟨by decide, by decide⟩ rfl rfl rfl rfl rfl ?_
  refine jT.asJ ?_
  refine mj_T.eq (pc2 := 1326) ?_ rfl rfl rfl rfl
  obtain ⟨fs, ho⟩ := I1.obj
  refine mj_T.call rfl rfl (Nat.le_of_ble_eq_true rfl) (Nat.le_of_ble_eq_true rfl) (by simp [mj_recv, ho]) rfl (mj_Ok.up (by decide) (mj_Ok.and (mj_Ok.up (by decide) ((I1.callI jZ_pl (fun hr hI => rp_agreements (jr_of _) (jr_of _) hI) (fun N => rfl)).qt rfl)) (YX.call (tm' := tm) (er' := er) (T' := T) E1 qy (sameQ.ag _ _ _) ((rx_agreements (jr_of _) (jr_of _) J0).to (fun r k => rIx.z k ⟨rfl, rfl, rfl⟩)) (fun N => rfl)))) (fun v h2 hq => ?_) (fun i' h2 hq => by obtain ⟨hq, _⟩ := hq; obtain ⟨hq, _⟩ := hq; exact (by obtain ⟨_, hq, _⟩ := hq; cases hq))
  obtain ⟨hq, Y2⟩ := hq
  obtain ⟨hq, qx⟩ := hq
  have X2 := X1.qt qx
  obtain ⟨z2, hv, I2⟩ := hq
  cases hv
  refine mj_T.pl (loc' := [some (.ref 0), some (.ref 1), some (.ref 563), some (.ref 571), some (.int (jn i)), some (.int (jn z)), some (.int (jn z2)), l7, l8]) rfl rfl rfl rfl ?_
  refine mj_T.pl rfl rfl rfl rfl ?_
  exact k n1 tm er T h2 _ _ _ _ hn1 hn2 I2 X2 Y2
/-! Rounds of the law. -/
theorem jL_29 {n Lx : Nat} {xs : Nat → Int32} {tm er i : Int} {T : Nat → Int} {h : mj_H} {l5 l6 l7 l8 : Option Value} {Q : mj_R → Prop} (hi : 0 ≤ i ∧ i + 6 ≤ Lx) (hL : Lx ≤ 3072) (I : jLi cK cL cR (.inl (100, Lx, fun j => .int (xs j))) 571 563 n tm er T h) (X : jcx er tm T h) (Y : YX tm er T h) (k : ∀ (n' : Nat) (tm' er' : Int) (T' : Nat → Int) (h' : mj_H) (l5 l6 l7 l8 : Option Value), n ≤ n' → n' ≤ n + 1 → jLi cK cL cR (.inl (100, Lx, fun j => .int (xs j))) 571 563 n' tm' er' T' h' → jcx er' tm' T' h' → YX tm' er' T' h' → mj_T 100 mj_mK 2100 [some (.ref 0), some (.ref 1), some (.ref 563), some (.ref 571), some (.int (jn i)), l5, l6, l7, l8] [] h' Q) : mj_T 100 mj_mK 1472 [some (.ref 0), some (.ref 1), some (.ref 563), some (.ref 571), some (.int (jn i)), l5, l6, l7, l8] [] h Q := by
  obtain ⟨N0, u0, H0, hr0, s0, E0, J0⟩ := Y
  have A0 := J0.AS
  refine mj_T.pl rfl rfl rfl rfl ?_
  refine jL.arg (k := 1) I.2.1 hi hL ⟨by decide, by decide⟩ rfl rfl rfl rfl rfl ?_
  refine jT.asJ ?_
  refine mj_T.eq (pc2 := 1479) ?_ rfl rfl rfl rfl
  refine mj_T.pl rfl rfl rfl rfl ?_
  refine mj_T.call rfl rfl (Nat.le_of_ble_eq_true rfl) (Nat.le_of_ble_eq_true rfl) rfl rfl (mj_Ok.up (by decide) (mj_Ok.and (mj_Ok.up (by decide) ((jw_335 (D := 0) cTY I.1 ck0.2 (jr_of' _)).qt rfl)) (jy_335 I.1 (jr_of' _) (yr_131 A0 s0 I.1 (jr_of' _))))) (fun v h1 hq => ?_) (fun i' h1 hq => by obtain ⟨hq, _⟩ := hq; obtain ⟨hq, _⟩ := hq; exact (by obtain ⟨_, hq, _⟩ := hq; cases hq))
  obtain ⟨hq, qy⟩ := hq
  obtain ⟨hq, qx⟩ := hq
  have X1 := X.qt qx
  obtain ⟨z, hv, ⟨n1, hn1, hn2, w1⟩, f1⟩ := hq
  cases hv
  have I1 := I.cls jZ_pl w1 hn1 f1
  have E1 := E0.frame jZ_pl f1 (by have e1 := I.1.1.1; have e2 := w1.1.1; have e3 := hn1; omega)
  refine mj_T.pl (loc' := [some (.ref 0), some (.ref 1), some (.ref 563), some (.ref 571), some (.int (jn i)), some (.int (jn z)), l6, l7, l8]) rfl rfl rfl rfl ?_
  refine mj_T.pl rfl rfl rfl rfl ?_
  refine jL.arg (k := 1) I1.2.1 hi hL ⟨by decide, by decide⟩ rfl rfl rfl rfl rfl ?_
  refine jT.asJ ?_
  refine mj_T.eq (pc2 := 1492) ?_ rfl rfl rfl rfl
  obtain ⟨fs, ho⟩ := I1.obj
  refine mj_T.call rfl rfl (Nat.le_of_ble_eq_true rfl) (Nat.le_of_ble_eq_true rfl) (by simp [mj_recv, ho]) rfl (mj_Ok.up (by decide) (mj_Ok.and (mj_Ok.up (by decide) ((I1.callI jZ_pl (fun hr hI => rp_realRoots (jr_of _) hI) (fun N => rfl)).qt rfl)) (YX.call (tm' := tm) (er' := er) (T' := T) E1 qy (sameQ.ag _ _ _) ((rx_realRoots (jr_of _) J0).to (fun r k => rIx.z k ⟨rfl, rfl, rfl⟩)) (fun N => rfl)))) (fun v h2 hq => ?_) (fun i' h2 hq => by obtain ⟨hq, _⟩ := hq; obtain ⟨hq, _⟩ := hq; exact (by obtain ⟨_, hq, _⟩ := hq; cases hq))
  obtain ⟨hq, Y2⟩ := hq
  obtain ⟨hq, qx⟩ := hq
  have X2 := X1.qt qx
  obtain ⟨z2, hv, I2⟩ := hq
  cases hv
  refine mj_T.pl (loc' := [some (.ref 0), some (.ref 1), some (.ref 563), some (.ref 571), some (.int (jn i)), some (.int (jn z)), some (.int (jn z2)), l7, l8]) rfl rfl rfl rfl ?_
  refine mj_T.pl rfl rfl rfl rfl ?_
  exact k n1 tm er T h2 _ _ _ _ hn1 hn2 I2 X2 Y2
theorem jL_30 {n Lx : Nat} {xs : Nat → Int32} {tm er i : Int} {T : Nat → Int} {h : mj_H} {l5 l6 l7 l8 : Option Value} {Q : mj_R → Prop} (hi : 0 ≤ i ∧ i + 6 ≤ Lx) (hL : Lx ≤ 3072) (I : jLi cK cL cR (.inl (100, Lx, fun j => .int (xs j))) 571 563 n tm er T h) (X : jcx er tm T h) (Y : YX tm er T h) (k : ∀ (n' : Nat) (tm' er' : Int) (T' : Nat → Int) (h' : mj_H) (l5 l6 l7 l8 : Option Value), n ≤ n' → n' ≤ n + 1 → jLi cK cL cR (.inl (100, Lx, fun j => .int (xs j))) 571 563 n' tm' er' T' h' → jcx er' tm' T' h' → YX tm' er' T' h' → mj_T 100 mj_mK 2100 [some (.ref 0), some (.ref 1), some (.ref 563), some (.ref 571), some (.int (jn i)), l5, l6, l7, l8] [] h' Q) : mj_T 100 mj_mK 1500 [some (.ref 0), some (.ref 1), some (.ref 563), some (.ref 571), some (.int (jn i)), l5, l6, l7, l8] [] h Q := by
  obtain ⟨N0, u0, H0, hr0, s0, E0, J0⟩ := Y
  have A0 := J0.AS
  refine mj_T.pl rfl rfl rfl rfl ?_
  refine jL.arg (k := 1) I.2.1 hi hL ⟨by decide, by decide⟩ rfl rfl rfl rfl rfl ?_
  refine jT.asJ ?_
  refine mj_T.eq (pc2 := 1507) ?_ rfl rfl rfl rfl
  refine jL.arg (k := 2) I.2.1 hi hL ⟨by decide, by decide⟩ rfl rfl rfl rfl rfl ?_
  refine jT.asJ ?_
  refine mj_T.eq (pc2 := 1513) ?_ rfl rfl rfl rfl
  refine jL.arg (k := 3) I.2.1 hi hL ⟨by decide, by decide⟩ rfl rfl rfl rfl rfl ?_
  refine jT.asJ ?_
  refine mj_T.eq (pc2 := 1519) ?_ rfl rfl rfl rfl
  refine jL.arg (k := 4) I.2.1 hi hL ⟨by decide, by decide⟩ rfl rfl rfl rfl rfl ?_
  refine jT.asJ ?_
  refine mj_T.eq (pc2 := 1525) ?_ rfl rfl rfl rfl
  refine jL.arg (k := 5) I.2.1 hi hL ⟨by decide, by decide⟩ rfl rfl rfl rfl rfl ?_
  refine jT.asJ ?_
  refine mj_T.eq (pc2 := 1531) ?_ rfl rfl rfl rfl
  refine mj_T.pl rfl rfl rfl rfl ?_
  refine mj_T.call rfl rfl (Nat.le_of_ble_eq_true rfl) (Nat.le_of_ble_eq_true rfl) rfl rfl (mj_Ok.up (by decide) (mj_Ok.and (mj_Ok.up (by decide) ((jw_336 (D := 0) cTY I.1 ck0.2 (jr_of' _) (jr_of' _) (jr_of' _) (jr_of' _) (jr_of' _)).qt rfl)) (jy_336 I.1 (jr_of' _) (jr_of' _) (jr_of' _) (jr_of' _) (jr_of' _) (yr_132 A0 s0 I.1 (jr_of' _) (jr_of' _) (jr_of' _) (jr_of' _) (jr_of' _))))) (fun v h1 hq => ?_) (fun i' h1 hq => by obtain ⟨hq, _⟩ := hq; obtain ⟨hq, _⟩ := hq; exact (by obtain ⟨_, hq, _⟩ := hq; cases hq))
  obtain ⟨hq, qy⟩ := hq
  obtain ⟨hq, qx⟩ := hq
  have X1 := X.qt qx
  obtain ⟨z, hv, ⟨n1, hn1, hn2, w1⟩, f1⟩ := hq
  cases hv
  have I1 := I.cls jZ_pl w1 hn1 f1
  have E1 := E0.frame jZ_pl f1 (by have e1 := I.1.1.1; have e2 := w1.1.1; have e3 := hn1; omega)
  refine mj_T.pl (loc' := [some (.ref 0), some (.ref 1), some (.ref 563), some (.ref 571), some (.int (jn i)), some (.int (jn z)), l6, l7, l8]) rfl rfl rfl rfl ?_
  refine mj_T.pl rfl rfl rfl rfl ?_
  refine jL.arg (k := 1) I1.2.1 hi hL ⟨by decide, by decide⟩ rfl rfl rfl rfl rfl ?_
  refine jT.asJ ?_
  refine mj_T.eq (pc2 := 1544) ?_ rfl rfl rfl rfl
  refine jL.arg (k := 2) I1.2.1 hi hL ⟨by decide, by decide⟩ rfl rfl rfl rfl rfl ?_
  refine jT.asJ ?_
  refine mj_T.eq (pc2 := 1550) ?_ rfl rfl rfl rfl
  refine jL.arg (k := 3) I1.2.1 hi hL ⟨by decide, by decide⟩ rfl rfl rfl rfl rfl ?_
  refine jT.asJ ?_
  refine mj_T.eq (pc2 := 1556) ?_ rfl rfl rfl rfl
  refine jL.arg (k := 4) I1.2.1 hi hL ⟨by decide, by decide⟩ rfl rfl rfl rfl rfl ?_
  refine jT.asJ ?_
  refine mj_T.eq (pc2 := 1562) ?_ rfl rfl rfl rfl
  refine jL.arg (k := 5) I1.2.1 hi hL ⟨by decide, by decide⟩ rfl rfl rfl rfl rfl ?_
  refine jT.asJ ?_
  refine mj_T.eq (pc2 := 1568) ?_ rfl rfl rfl rfl
  obtain ⟨fs, ho⟩ := I1.obj
  refine mj_T.call rfl rfl (Nat.le_of_ble_eq_true rfl) (Nat.le_of_ble_eq_true rfl) (by simp [mj_recv, ho]) rfl (mj_Ok.up (by decide) (mj_Ok.and (mj_Ok.up (by decide) ((I1.callI jZ_pl (fun hr hI => rp_rootsBetween (jr_of _) (jr_of _) (jr_of _) (jr_of _) (jr_of _) hI) (fun N => rfl)).qt rfl)) (YX.call (tm' := tm) (er' := er) (T' := T) E1 qy (sameQ.ag _ _ _) ((rx_rootsBetween (jr_of _) (jr_of _) (jr_of _) (jr_of _) (jr_of _) J0).to (fun r k => rIx.z k ⟨rfl, rfl, rfl⟩)) (fun N => rfl)))) (fun v h2 hq => ?_) (fun i' h2 hq => by obtain ⟨hq, _⟩ := hq; obtain ⟨hq, _⟩ := hq; exact (by obtain ⟨_, hq, _⟩ := hq; cases hq))
  obtain ⟨hq, Y2⟩ := hq
  obtain ⟨hq, qx⟩ := hq
  have X2 := X1.qt qx
  obtain ⟨z2, hv, I2⟩ := hq
  cases hv
  refine mj_T.pl (loc' := [some (.ref 0), some (.ref 1), some (.ref 563), some (.ref 571), some (.int (jn i)), some (.int (jn z)), some (.int (jn z2)), l7, l8]) rfl rfl rfl rfl ?_
  refine mj_T.pl rfl rfl rfl rfl ?_
  exact k n1 tm er T h2 _ _ _ _ hn1 hn2 I2 X2 Y2
theorem jL_32 {n Lx : Nat} {xs : Nat → Int32} {tm er i : Int} {T : Nat → Int} {h : mj_H} {l5 l6 l7 l8 : Option Value} {Q : mj_R → Prop} (hi : 0 ≤ i ∧ i + 6 ≤ Lx) (hL : Lx ≤ 3072) (I : jLi cK cL cR (.inl (100, Lx, fun j => .int (xs j))) 571 563 n tm er T h) (X : jcx er tm T h) (Y : YX tm er T h) (k : ∀ (n' : Nat) (tm' er' : Int) (T' : Nat → Int) (h' : mj_H) (l5 l6 l7 l8 : Option Value), n ≤ n' → n' ≤ n + 1 → jLi cK cL cR (.inl (100, Lx, fun j => .int (xs j))) 571 563 n' tm' er' T' h' → jcx er' tm' T' h' → YX tm' er' T' h' → mj_T 100 mj_mK 2100 [some (.ref 0), some (.ref 1), some (.ref 563), some (.ref 571), some (.int (jn i)), l5, l6, l7, l8] [] h' Q) : mj_T 100 mj_mK 1632 [some (.ref 0), some (.ref 1), some (.ref 563), some (.ref 571), some (.int (jn i)), l5, l6, l7, l8] [] h Q := by
  obtain ⟨N0, u0, H0, hr0, s0, E0, J0⟩ := Y
  have A0 := J0.AS
  refine mj_T.pl rfl rfl rfl rfl ?_
  refine jL.arg (k := 1) I.2.1 hi hL ⟨by decide, by decide⟩ rfl rfl rfl rfl rfl ?_
  refine jT.asJ ?_
  refine mj_T.eq (pc2 := 1639) ?_ rfl rfl rfl rfl
  refine jL.arg (k := 2) I.2.1 hi hL ⟨by decide, by decide⟩ rfl rfl rfl rfl rfl ?_
  refine jT.asJ ?_
  refine mj_T.eq (pc2 := 1645) ?_ rfl rfl rfl rfl
  refine jL.arg (k := 3) I.2.1 hi hL ⟨by decide, by decide⟩ rfl rfl rfl rfl rfl ?_
  refine jT.asJ ?_
  refine mj_T.eq (pc2 := 1651) ?_ rfl rfl rfl rfl
  refine mj_T.pl rfl rfl rfl rfl ?_
  refine mj_T.call rfl rfl (Nat.le_of_ble_eq_true rfl) (Nat.le_of_ble_eq_true rfl) rfl rfl (mj_Ok.up (by decide) (mj_Ok.and (mj_Ok.up (by decide) ((jw_338 (D := 0) cTY I.1 ck0.2 (jr_of' _) (jr_of' _) (jr_of' _)).qt rfl)) (jy_338 I.1 (jr_of' _) (jr_of' _) (jr_of' _) (yr_134 A0 s0 I.1 (jr_of' _) (jr_of' _) (jr_of' _))))) (fun v h1 hq => ?_) (fun i' h1 hq => by obtain ⟨hq, _⟩ := hq; obtain ⟨hq, _⟩ := hq; exact (by obtain ⟨_, hq, _⟩ := hq; cases hq))
  obtain ⟨hq, qy⟩ := hq
  obtain ⟨hq, qx⟩ := hq
  have X1 := X.qt qx
  obtain ⟨z, hv, ⟨n1, hn1, hn2, w1⟩, f1⟩ := hq
  cases hv
  have I1 := I.cls jZ_pl w1 hn1 f1
  have E1 := E0.frame jZ_pl f1 (by have e1 := I.1.1.1; have e2 := w1.1.1; have e3 := hn1; omega)
  refine mj_T.pl (loc' := [some (.ref 0), some (.ref 1), some (.ref 563), some (.ref 571), some (.int (jn i)), some (.int (jn z)), l6, l7, l8]) rfl rfl rfl rfl ?_
  refine mj_T.pl rfl rfl rfl rfl ?_
  refine jL.arg (k := 1) I1.2.1 hi hL ⟨by decide, by decide⟩ rfl rfl rfl rfl rfl ?_
  refine jT.asJ ?_
  refine mj_T.eq (pc2 := 1664) ?_ rfl rfl rfl rfl
  refine jL.arg (k := 2) I1.2.1 hi hL ⟨by decide, by decide⟩ rfl rfl rfl rfl rfl ?_
  refine jT.asJ ?_
  refine mj_T.eq (pc2 := 1670) ?_ rfl rfl rfl rfl
  refine jL.arg (k := 3) I1.2.1 hi hL ⟨by decide, by decide⟩ rfl rfl rfl rfl rfl ?_
  refine jT.asJ ?_
  refine mj_T.eq (pc2 := 1676) ?_ rfl rfl rfl rfl
  obtain ⟨fs, ho⟩ := I1.obj
  refine mj_T.call rfl rfl (Nat.le_of_ble_eq_true rfl) (Nat.le_of_ble_eq_true rfl) (by simp [mj_recv, ho]) rfl (mj_Ok.up (by decide) (mj_Ok.and (mj_Ok.up (by decide) ((I1.callI jZ_pl (fun hr hI => rp_changes (jr_of _) (jr_of _) (jr_of _) hI) (fun N => rfl)).qt rfl)) (YX.call (tm' := tm) (er' := er) (T' := T) E1 qy (sameQ.ag _ _ _) ((rx_changes (jr_of _) (jr_of _) (jr_of _) J0).to (fun r k => rIx.z k ⟨rfl, rfl, rfl⟩)) (fun N => rfl)))) (fun v h2 hq => ?_) (fun i' h2 hq => by obtain ⟨hq, _⟩ := hq; obtain ⟨hq, _⟩ := hq; exact (by obtain ⟨_, hq, _⟩ := hq; cases hq))
  obtain ⟨hq, Y2⟩ := hq
  obtain ⟨hq, qx⟩ := hq
  have X2 := X1.qt qx
  obtain ⟨z2, hv, I2⟩ := hq
  cases hv
  refine mj_T.pl (loc' := [some (.ref 0), some (.ref 1), some (.ref 563), some (.ref 571), some (.int (jn i)), some (.int (jn z)), some (.int (jn z2)), l7, l8]) rfl rfl rfl rfl ?_
  refine mj_T.pl rfl rfl rfl rfl ?_
  exact k n1 tm er T h2 _ _ _ _ hn1 hn2 I2 X2 Y2
theorem jL_33 {n Lx : Nat} {xs : Nat → Int32} {tm er i : Int} {T : Nat → Int} {h : mj_H} {l5 l6 l7 l8 : Option Value} {Q : mj_R → Prop} (hi : 0 ≤ i ∧ i + 6 ≤ Lx) (hL : Lx ≤ 3072) (I : jLi cK cL cR (.inl (100, Lx, fun j => .int (xs j))) 571 563 n tm er T h) (X : jcx er tm T h) (Y : YX tm er T h) (k : ∀ (n' : Nat) (tm' er' : Int) (T' : Nat → Int) (h' : mj_H) (l5 l6 l7 l8 : Option Value), n ≤ n' → n' ≤ n + 1 → jLi cK cL cR (.inl (100, Lx, fun j => .int (xs j))) 571 563 n' tm' er' T' h' → jcx er' tm' T' h' → YX tm' er' T' h' → mj_T 100 mj_mK 2100 [some (.ref 0), some (.ref 1), some (.ref 563), some (.ref 571), some (.int (jn i)), l5, l6, l7, l8] [] h' Q) : mj_T 100 mj_mK 1684 [some (.ref 0), some (.ref 1), some (.ref 563), some (.ref 571), some (.int (jn i)), l5, l6, l7, l8] [] h Q := by
  obtain ⟨N0, u0, H0, hr0, s0, E0, J0⟩ := Y
  have A0 := J0.AS
  refine mj_T.pl rfl rfl rfl rfl ?_
  refine jL.arg (k := 1) I.2.1 hi hL ⟨by decide, by decide⟩ rfl rfl rfl rfl rfl ?_
  refine jT.asJ ?_
  refine mj_T.eq (pc2 := 1691) ?_ rfl rfl rfl rfl
  refine jL.arg (k := 2) I.2.1 hi hL ⟨by decide, by decide⟩ rfl rfl rfl rfl rfl ?_
  refine jT.asJ ?_
  refine mj_T.eq (pc2 := 1697) ?_ rfl rfl rfl rfl
  refine jL.arg (k := 3) I.2.1 hi hL ⟨by decide, by decide⟩ rfl rfl rfl rfl rfl ?_
  refine jT.asJ ?_
  refine mj_T.eq (pc2 := 1703) ?_ rfl rfl rfl rfl
  refine mj_T.pl rfl rfl rfl rfl ?_
  refine mj_T.call rfl rfl (Nat.le_of_ble_eq_true rfl) (Nat.le_of_ble_eq_true rfl) rfl rfl (mj_Ok.up (by decide) (mj_Ok.and (mj_Ok.up (by decide) ((jw_339 (D := 0) cTY I.1 ck0.2 (jr_of' _) (jr_of' _) (jr_of' _)).qt rfl)) (jy_339 I.1 (jr_of' _) (jr_of' _) (jr_of' _) (yr_135 A0 s0 I.1 (jr_of' _) (jr_of' _) (jr_of' _))))) (fun v h1 hq => ?_) (fun i' h1 hq => by obtain ⟨hq, _⟩ := hq; obtain ⟨hq, _⟩ := hq; exact (by obtain ⟨_, hq, _⟩ := hq; cases hq))
  obtain ⟨hq, qy⟩ := hq
  obtain ⟨hq, qx⟩ := hq
  have X1 := X.qt qx
  obtain ⟨z, hv, ⟨n1, hn1, hn2, w1⟩, f1⟩ := hq
  cases hv
  have I1 := I.cls jZ_pl w1 hn1 f1
  have E1 := E0.frame jZ_pl f1 (by have e1 := I.1.1.1; have e2 := w1.1.1; have e3 := hn1; omega)
  refine mj_T.pl (loc' := [some (.ref 0), some (.ref 1), some (.ref 563), some (.ref 571), some (.int (jn i)), some (.int (jn z)), l6, l7, l8]) rfl rfl rfl rfl ?_
  refine mj_T.pl rfl rfl rfl rfl ?_
  refine jL.arg (k := 1) I1.2.1 hi hL ⟨by decide, by decide⟩ rfl rfl rfl rfl rfl ?_
  refine jT.asJ ?_
  refine mj_T.eq (pc2 := 1716) ?_ rfl rfl rfl rfl
  refine jL.arg (k := 2) I1.2.1 hi hL ⟨by decide, by decide⟩ rfl rfl rfl rfl rfl ?_
  refine jT.asJ ?_
  refine mj_T.eq (pc2 := 1722) ?_ rfl rfl rfl rfl
  refine jL.arg (k := 3) I1.2.1 hi hL ⟨by decide, by decide⟩ rfl rfl rfl rfl rfl ?_
  refine jT.asJ ?_
  refine mj_T.eq (pc2 := 1728) ?_ rfl rfl rfl rfl
  obtain ⟨fs, ho⟩ := I1.obj
  refine mj_T.call rfl rfl (Nat.le_of_ble_eq_true rfl) (Nat.le_of_ble_eq_true rfl) (by simp [mj_recv, ho]) rfl (mj_Ok.up (by decide) (mj_Ok.and (mj_Ok.up (by decide) ((I1.callI jZ_pl (fun hr hI => rp_closeIn (jr_of _) (jr_of _) (jr_of _) hI) (fun N => rfl)).qt rfl)) (YX.call (tm' := tm) (er' := er) (T' := T) E1 qy (sameQ.ag _ _ _) ((rx_closeIn (jr_of _) (jr_of _) (jr_of _) J0).to (fun r k => rIx.z k ⟨rfl, rfl, rfl⟩)) (fun N => rfl)))) (fun v h2 hq => ?_) (fun i' h2 hq => by obtain ⟨hq, _⟩ := hq; obtain ⟨hq, _⟩ := hq; exact (by obtain ⟨_, hq, _⟩ := hq; cases hq))
  obtain ⟨hq, Y2⟩ := hq
  obtain ⟨hq, qx⟩ := hq
  have X2 := X1.qt qx
  obtain ⟨z2, hv, I2⟩ := hq
  cases hv
  refine mj_T.pl (loc' := [some (.ref 0), some (.ref 1), some (.ref 563), some (.ref 571), some (.int (jn i)), some (.int (jn z)), some (.int (jn z2)), l7, l8]) rfl rfl rfl rfl ?_
  refine mj_T.pl rfl rfl rfl rfl ?_
  exact k n1 tm er T h2 _ _ _ _ hn1 hn2 I2 X2 Y2
theorem jL_34 {n Lx : Nat} {xs : Nat → Int32} {tm er i : Int} {T : Nat → Int} {h : mj_H} {l5 l6 l7 l8 : Option Value} {Q : mj_R → Prop} (hi : 0 ≤ i ∧ i + 6 ≤ Lx) (hL : Lx ≤ 3072) (I : jLi cK cL cR (.inl (100, Lx, fun j => .int (xs j))) 571 563 n tm er T h) (X : jcx er tm T h) (Y : YX tm er T h) (k : ∀ (n' : Nat) (tm' er' : Int) (T' : Nat → Int) (h' : mj_H) (l5 l6 l7 l8 : Option Value), n ≤ n' → n' ≤ n + 1 → jLi cK cL cR (.inl (100, Lx, fun j => .int (xs j))) 571 563 n' tm' er' T' h' → jcx er' tm' T' h' → YX tm' er' T' h' → mj_T 100 mj_mK 2100 [some (.ref 0), some (.ref 1), some (.ref 563), some (.ref 571), some (.int (jn i)), l5, l6, l7, l8] [] h' Q) : mj_T 100 mj_mK 1736 [some (.ref 0), some (.ref 1), some (.ref 563), some (.ref 571), some (.int (jn i)), l5, l6, l7, l8] [] h Q := by
  obtain ⟨N0, u0, H0, hr0, s0, E0, J0⟩ := Y
  have A0 := J0.AS
  refine mj_T.pl rfl rfl rfl rfl ?_
  refine jL.arg (k := 1) I.2.1 hi hL ⟨by decide, by decide⟩ rfl rfl rfl rfl rfl ?_
  refine jT.asJ ?_
  refine mj_T.eq (pc2 := 1743) ?_ rfl rfl rfl rfl
  refine mj_T.pl rfl rfl rfl rfl ?_
  refine mj_T.call rfl rfl (Nat.le_of_ble_eq_true rfl) (Nat.le_of_ble_eq_true rfl) rfl rfl (mj_Ok.up (by decide) (mj_Ok.and (mj_Ok.up (by decide) ((jw_340 (D := 0) cTY I.1 ck0.2 (jr_of' _)).qt rfl)) (jy_340 I.1 (jr_of' _) (yr_136 A0 s0 I.1 (jr_of' _))))) (fun v h1 hq => ?_) (fun i' h1 hq => by obtain ⟨hq, _⟩ := hq; obtain ⟨hq, _⟩ := hq; exact (by obtain ⟨_, hq, _⟩ := hq; cases hq))
  obtain ⟨hq, qy⟩ := hq
  obtain ⟨hq, qx⟩ := hq
  have X1 := X.qt qx
  obtain ⟨z, hv, ⟨n1, hn1, hn2, w1⟩, f1⟩ := hq
  cases hv
  have I1 := I.cls jZ_pl w1 hn1 f1
  have E1 := E0.frame jZ_pl f1 (by have e1 := I.1.1.1; have e2 := w1.1.1; have e3 := hn1; omega)
  refine mj_T.pl (loc' := [some (.ref 0), some (.ref 1), some (.ref 563), some (.ref 571), some (.int (jn i)), some (.int (jn z)), l6, l7, l8]) rfl rfl rfl rfl ?_
  refine mj_T.pl rfl rfl rfl rfl ?_
  refine jL.arg (k := 1) I1.2.1 hi hL ⟨by decide, by decide⟩ rfl rfl rfl rfl rfl ?_
  refine jT.asJ ?_
  refine mj_T.eq (pc2 := 1756) ?_ rfl rfl rfl rfl
  obtain ⟨fs, ho⟩ := I1.obj
  refine mj_T.call rfl rfl (Nat.le_of_ble_eq_true rfl) (Nat.le_of_ble_eq_true rfl) (by simp [mj_recv, ho]) rfl (mj_Ok.up (by decide) (mj_Ok.and (mj_Ok.up (by decide) ((I1.callI jZ_pl (fun hr hI => rp_fractionRoots (jr_of _) hI) (fun N => rfl)).qt rfl)) (YX.call (tm' := tm) (er' := er) (T' := T) E1 qy (sameQ.ag _ _ _) ((rx_fractionRoots (jr_of _) J0).to (fun r k => rIx.z k ⟨rfl, rfl, rfl⟩)) (fun N => rfl)))) (fun v h2 hq => ?_) (fun i' h2 hq => by obtain ⟨hq, _⟩ := hq; obtain ⟨hq, _⟩ := hq; exact (by obtain ⟨_, hq, _⟩ := hq; cases hq))
  obtain ⟨hq, Y2⟩ := hq
  obtain ⟨hq, qx⟩ := hq
  have X2 := X1.qt qx
  obtain ⟨z2, hv, I2⟩ := hq
  cases hv
  refine mj_T.pl (loc' := [some (.ref 0), some (.ref 1), some (.ref 563), some (.ref 571), some (.int (jn i)), some (.int (jn z)), some (.int (jn z2)), l7, l8]) rfl rfl rfl rfl ?_
  refine mj_T.pl rfl rfl rfl rfl ?_
  exact k n1 tm er T h2 _ _ _ _ hn1 hn2 I2 X2 Y2
theorem jL_35 {n Lx : Nat} {xs : Nat → Int32} {tm er i : Int} {T : Nat → Int} {h : mj_H} {l5 l6 l7 l8 : Option Value} {Q : mj_R → Prop} (hi : 0 ≤ i ∧ i + 6 ≤ Lx) (hL : Lx ≤ 3072) (I : jLi cK cL cR (.inl (100, Lx, fun j => .int (xs j))) 571 563 n tm er T h) (X : jcx er tm T h) (Y : YX tm er T h) (k : ∀ (n' : Nat) (tm' er' : Int) (T' : Nat → Int) (h' : mj_H) (l5 l6 l7 l8 : Option Value), n ≤ n' → n' ≤ n + 1 → jLi cK cL cR (.inl (100, Lx, fun j => .int (xs j))) 571 563 n' tm' er' T' h' → jcx er' tm' T' h' → YX tm' er' T' h' → mj_T 100 mj_mK 2100 [some (.ref 0), some (.ref 1), some (.ref 563), some (.ref 571), some (.int (jn i)), l5, l6, l7, l8] [] h' Q) : mj_T 100 mj_mK 1764 [some (.ref 0), some (.ref 1), some (.ref 563), some (.ref 571), some (.int (jn i)), l5, l6, l7, l8] [] h Q := by
  obtain ⟨N0, u0, H0, hr0, s0, E0, J0⟩ := Y
  have A0 := J0.AS
  refine mj_T.pl rfl rfl rfl rfl ?_
  refine jL.arg (k := 1) I.2.1 hi hL ⟨by decide, by decide⟩ rfl rfl rfl rfl rfl ?_
  refine jT.asJ ?_
  refine mj_T.eq (pc2 := 1771) ?_ rfl rfl rfl rfl
  refine jL.arg (k := 2) I.2.1 hi hL ⟨by decide, by decide⟩ rfl rfl rfl rfl rfl ?_
  refine jT.asJ ?_
  refine mj_T.eq (pc2 := 1777) ?_ rfl rfl rfl rfl
  refine mj_T.pl rfl rfl rfl rfl ?_
  refine mj_T.call rfl rfl (Nat.le_of_ble_eq_true rfl) (Nat.le_of_ble_eq_true rfl) rfl rfl (mj_Ok.up (by decide) (mj_Ok.and (mj_Ok.up (by decide) ((jw_341 (D := 0) cTY I.1 ck0.2 (jr_of' _) (jr_of' _)).qt rfl)) (jy_341 I.1 (jr_of' _) (jr_of' _) (yr_137 A0 s0 I.1 (jr_of' _) (jr_of' _))))) (fun v h1 hq => ?_) (fun i' h1 hq => by obtain ⟨hq, _⟩ := hq; obtain ⟨hq, _⟩ := hq; exact (by obtain ⟨_, hq, _⟩ := hq; cases hq))
  obtain ⟨hq, qy⟩ := hq
  obtain ⟨hq, qx⟩ := hq
  have X1 := X.qt qx
  obtain ⟨z, hv, ⟨n1, hn1, hn2, w1⟩, f1⟩ := hq
  cases hv
  have I1 := I.cls jZ_pl w1 hn1 f1
  have E1 := E0.frame jZ_pl f1 (by have e1 := I.1.1.1; have e2 := w1.1.1; have e3 := hn1; omega)
  refine mj_T.pl (loc' := [some (.ref 0), some (.ref 1), some (.ref 563), some (.ref 571), some (.int (jn i)), some (.int (jn z)), l6, l7, l8]) rfl rfl rfl rfl ?_
  refine mj_T.pl rfl rfl rfl rfl ?_
  refine jL.arg (k := 1) I1.2.1 hi hL ⟨by decide, by decide⟩ rfl rfl rfl rfl rfl ?_
  refine jT.asJ ?_
  refine mj_T.eq (pc2 := 1790) ?_ rfl rfl rfl rfl
  refine jL.arg (k := 2) I1.2.1 hi hL ⟨by decide, by decide⟩ rfl rfl rfl rfl rfl ?_
  refine jT.asJ ?_
  refine mj_T.eq (pc2 := 1796) ?_ rfl rfl rfl rfl
  obtain ⟨fs, ho⟩ := I1.obj
  refine mj_T.call rfl rfl (Nat.le_of_ble_eq_true rfl) (Nat.le_of_ble_eq_true rfl) (by simp [mj_recv, ho]) rfl (mj_Ok.up (by decide) (mj_Ok.and (mj_Ok.up (by decide) ((I1.callI jZ_pl (fun hr hI => rp_fractionRoot (jr_of _) (jr_of _) hI) (fun N => rfl)).qt rfl)) (YX.call (tm' := tm) (er' := er) (T' := T) E1 qy (sameQ.ag _ _ _) ((rx_fractionRoot (jr_of _) (jr_of _) J0).to (fun r k => rIx.z k ⟨rfl, rfl, rfl⟩)) (fun N => rfl)))) (fun v h2 hq => ?_) (fun i' h2 hq => by obtain ⟨hq, _⟩ := hq; obtain ⟨hq, _⟩ := hq; exact (by obtain ⟨_, hq, _⟩ := hq; cases hq))
  obtain ⟨hq, Y2⟩ := hq
  obtain ⟨hq, qx⟩ := hq
  have X2 := X1.qt qx
  obtain ⟨z2, hv, I2⟩ := hq
  cases hv
  refine mj_T.pl (loc' := [some (.ref 0), some (.ref 1), some (.ref 563), some (.ref 571), some (.int (jn i)), some (.int (jn z)), some (.int (jn z2)), l7, l8]) rfl rfl rfl rfl ?_
  refine mj_T.pl rfl rfl rfl rfl ?_
  exact k n1 tm er T h2 _ _ _ _ hn1 hn2 I2 X2 Y2
theorem jL_36 {n Lx : Nat} {xs : Nat → Int32} {tm er i : Int} {T : Nat → Int} {h : mj_H} {l5 l6 l7 l8 : Option Value} {Q : mj_R → Prop} (hi : 0 ≤ i ∧ i + 6 ≤ Lx) (hL : Lx ≤ 3072) (I : jLi cK cL cR (.inl (100, Lx, fun j => .int (xs j))) 571 563 n tm er T h) (X : jcx er tm T h) (Y : YX tm er T h) (k : ∀ (n' : Nat) (tm' er' : Int) (T' : Nat → Int) (h' : mj_H) (l5 l6 l7 l8 : Option Value), n ≤ n' → n' ≤ n + 1 → jLi cK cL cR (.inl (100, Lx, fun j => .int (xs j))) 571 563 n' tm' er' T' h' → jcx er' tm' T' h' → YX tm' er' T' h' → mj_T 100 mj_mK 2100 [some (.ref 0), some (.ref 1), some (.ref 563), some (.ref 571), some (.int (jn i)), l5, l6, l7, l8] [] h' Q) : mj_T 100 mj_mK 1804 [some (.ref 0), some (.ref 1), some (.ref 563), some (.ref 571), some (.int (jn i)), l5, l6, l7, l8] [] h Q := by
  obtain ⟨N0, u0, H0, hr0, s0, E0, J0⟩ := Y
  have A0 := J0.AS
  refine mj_T.pl rfl rfl rfl rfl ?_
  refine jL.arg (k := 1) I.2.1 hi hL ⟨by decide, by decide⟩ rfl rfl rfl rfl rfl ?_
  refine jT.asJ ?_
  refine mj_T.eq (pc2 := 1811) ?_ rfl rfl rfl rfl
  refine jL.arg (k := 2) I.2.1 hi hL ⟨by decide, by decide⟩ rfl rfl rfl rfl rfl ?_
  refine jT.asJ ?_
  refine mj_T.eq (pc2 := 1817) ?_ rfl rfl rfl rfl
  refine mj_T.pl rfl rfl rfl rfl ?_
  refine mj_T.call rfl rfl (Nat.le_of_ble_eq_true rfl) (Nat.le_of_ble_eq_true rfl) rfl rfl (mj_Ok.up (by decide) (mj_Ok.and (mj_Ok.up (by decide) ((jw_342 (D := 0) cTY I.1 ck0.2 (jr_of' _) (jr_of' _)).qt rfl)) (jy_342 I.1 (jr_of' _) (jr_of' _) (yr_138 A0 s0 I.1 (jr_of' _) (jr_of' _))))) (fun v h1 hq => ?_) (fun i' h1 hq => by obtain ⟨hq, _⟩ := hq; obtain ⟨hq, _⟩ := hq; exact (by obtain ⟨_, hq, _⟩ := hq; cases hq))
  obtain ⟨hq, qy⟩ := hq
  obtain ⟨hq, qx⟩ := hq
  have X1 := X.qt qx
  obtain ⟨z, hv, ⟨n1, hn1, hn2, w1⟩, f1⟩ := hq
  cases hv
  have I1 := I.cls jZ_pl w1 hn1 f1
  have E1 := E0.frame jZ_pl f1 (by have e1 := I.1.1.1; have e2 := w1.1.1; have e3 := hn1; omega)
  refine mj_T.pl (loc' := [some (.ref 0), some (.ref 1), some (.ref 563), some (.ref 571), some (.int (jn i)), some (.int (jn z)), l6, l7, l8]) rfl rfl rfl rfl ?_
  refine mj_T.pl rfl rfl rfl rfl ?_
  refine jL.arg (k := 1) I1.2.1 hi hL ⟨by decide, by decide⟩ rfl rfl rfl rfl rfl ?_
  refine jT.asJ ?_
  refine mj_T.eq (pc2 := 1830) ?_ rfl rfl rfl rfl
  refine jL.arg (k := 2) I1.2.1 hi hL ⟨by decide, by decide⟩ rfl rfl rfl rfl rfl ?_
  refine jT.asJ ?_
  refine mj_T.eq (pc2 := 1836) ?_ rfl rfl rfl rfl
  obtain ⟨fs, ho⟩ := I1.obj
  refine mj_T.call rfl rfl (Nat.le_of_ble_eq_true rfl) (Nat.le_of_ble_eq_true rfl) (by simp [mj_recv, ho]) rfl (mj_Ok.up (by decide) (mj_Ok.and (mj_Ok.up (by decide) ((I1.callI jZ_pl (fun hr hI => rp_rootsBy (jr_of _) (jr_of _) hI) (fun N => rfl)).qt rfl)) (YX.call (tm' := tm) (er' := er) (T' := T) E1 qy (sameQ.ag _ _ _) ((rx_rootsBy (jr_of _) (jr_of _) J0).to (fun r k => rIx.z k ⟨rfl, rfl, rfl⟩)) (fun N => rfl)))) (fun v h2 hq => ?_) (fun i' h2 hq => by obtain ⟨hq, _⟩ := hq; obtain ⟨hq, _⟩ := hq; exact (by obtain ⟨_, hq, _⟩ := hq; cases hq))
  obtain ⟨hq, Y2⟩ := hq
  obtain ⟨hq, qx⟩ := hq
  have X2 := X1.qt qx
  obtain ⟨z2, hv, I2⟩ := hq
  cases hv
  refine mj_T.pl (loc' := [some (.ref 0), some (.ref 1), some (.ref 563), some (.ref 571), some (.int (jn i)), some (.int (jn z)), some (.int (jn z2)), l7, l8]) rfl rfl rfl rfl ?_
  refine mj_T.pl rfl rfl rfl rfl ?_
  exact k n1 tm er T h2 _ _ _ _ hn1 hn2 I2 X2 Y2
theorem jL_37 {n Lx : Nat} {xs : Nat → Int32} {tm er i : Int} {T : Nat → Int} {h : mj_H} {l5 l6 l7 l8 : Option Value} {Q : mj_R → Prop} (hi : 0 ≤ i ∧ i + 6 ≤ Lx) (hL : Lx ≤ 3072) (I : jLi cK cL cR (.inl (100, Lx, fun j => .int (xs j))) 571 563 n tm er T h) (X : jcx er tm T h) (Y : YX tm er T h) (k : ∀ (n' : Nat) (tm' er' : Int) (T' : Nat → Int) (h' : mj_H) (l5 l6 l7 l8 : Option Value), n ≤ n' → n' ≤ n + 1 → jLi cK cL cR (.inl (100, Lx, fun j => .int (xs j))) 571 563 n' tm' er' T' h' → jcx er' tm' T' h' → YX tm' er' T' h' → mj_T 100 mj_mK 2100 [some (.ref 0), some (.ref 1), some (.ref 563), some (.ref 571), some (.int (jn i)), l5, l6, l7, l8] [] h' Q) : mj_T 100 mj_mK 1844 [some (.ref 0), some (.ref 1), some (.ref 563), some (.ref 571), some (.int (jn i)), l5, l6, l7, l8] [] h Q := by
  obtain ⟨N0, u0, H0, hr0, s0, E0, J0⟩ := Y
  have A0 := J0.AS
  refine mj_T.pl rfl rfl rfl rfl ?_
  refine jL.arg (k := 1) I.2.1 hi hL ⟨by decide, by decide⟩ rfl rfl rfl rfl rfl ?_
  refine jT.asJ ?_
  refine mj_T.eq (pc2 := 1851) ?_ rfl rfl rfl rfl
  refine jL.arg (k := 2) I.2.1 hi hL ⟨by decide, by decide⟩ rfl rfl rfl rfl rfl ?_
  refine jT.asJ ?_
  refine mj_T.eq (pc2 := 1857) ?_ rfl rfl rfl rfl
  refine mj_T.pl rfl rfl rfl rfl ?_
  refine mj_T.call rfl rfl (Nat.le_of_ble_eq_true rfl) (Nat.le_of_ble_eq_true rfl) rfl rfl (mj_Ok.up (by decide) (mj_Ok.and (mj_Ok.up (by decide) ((jw_343 (D := 0) cTY I.1 ck0.2 (jr_of' _) (jr_of' _)).qt rfl)) (jy_343 I.1 (jr_of' _) (jr_of' _) (yr_139 A0 s0 I.1 (jr_of' _) (jr_of' _))))) (fun v h1 hq => ?_) (fun i' h1 hq => by obtain ⟨hq, _⟩ := hq; obtain ⟨hq, _⟩ := hq; exact (by obtain ⟨_, hq, _⟩ := hq; cases hq))
  obtain ⟨hq, qy⟩ := hq
  obtain ⟨hq, qx⟩ := hq
  have X1 := X.qt qx
  obtain ⟨z, hv, ⟨n1, hn1, hn2, w1⟩, f1⟩ := hq
  cases hv
  have I1 := I.cls jZ_pl w1 hn1 f1
  have E1 := E0.frame jZ_pl f1 (by have e1 := I.1.1.1; have e2 := w1.1.1; have e3 := hn1; omega)
  refine mj_T.pl (loc' := [some (.ref 0), some (.ref 1), some (.ref 563), some (.ref 571), some (.int (jn i)), some (.int (jn z)), l6, l7, l8]) rfl rfl rfl rfl ?_
  refine mj_T.pl rfl rfl rfl rfl ?_
  refine jL.arg (k := 1) I1.2.1 hi hL ⟨by decide, by decide⟩ rfl rfl rfl rfl rfl ?_
  refine jT.asJ ?_
  refine mj_T.eq (pc2 := 1870) ?_ rfl rfl rfl rfl
  refine jL.arg (k := 2) I1.2.1 hi hL ⟨by decide, by decide⟩ rfl rfl rfl rfl rfl ?_
  refine jT.asJ ?_
  refine mj_T.eq (pc2 := 1876) ?_ rfl rfl rfl rfl
  obtain ⟨fs, ho⟩ := I1.obj
  refine mj_T.call rfl rfl (Nat.le_of_ble_eq_true rfl) (Nat.le_of_ble_eq_true rfl) (by simp [mj_recv, ho]) rfl (mj_Ok.up (by decide) (mj_Ok.and (mj_Ok.up (by decide) ((I1.callI jZ_pl (fun hr hI => rp_rootBy (jr_of _) (jr_of _) hI) (fun N => rfl)).qt rfl)) (YX.call (tm' := tm) (er' := er) (T' := T) E1 qy (sameQ.ag _ _ _) ((rx_rootBy (jr_of _) (jr_of _) J0).to (fun r k => rIx.z k ⟨rfl, rfl, rfl⟩)) (fun N => rfl)))) (fun v h2 hq => ?_) (fun i' h2 hq => by obtain ⟨hq, _⟩ := hq; obtain ⟨hq, _⟩ := hq; exact (by obtain ⟨_, hq, _⟩ := hq; cases hq))
  obtain ⟨hq, Y2⟩ := hq
  obtain ⟨hq, qx⟩ := hq
  have X2 := X1.qt qx
  obtain ⟨z2, hv, I2⟩ := hq
  cases hv
  refine mj_T.pl (loc' := [some (.ref 0), some (.ref 1), some (.ref 563), some (.ref 571), some (.int (jn i)), some (.int (jn z)), some (.int (jn z2)), l7, l8]) rfl rfl rfl rfl ?_
  refine mj_T.pl rfl rfl rfl rfl ?_
  exact k n1 tm er T h2 _ _ _ _ hn1 hn2 I2 X2 Y2
theorem jL_42 {n Lx : Nat} {xs : Nat → Int32} {tm er i : Int} {T : Nat → Int} {h : mj_H} {l5 l6 l7 l8 : Option Value} {Q : mj_R → Prop} (hi : 0 ≤ i ∧ i + 6 ≤ Lx) (hL : Lx ≤ 3072) (I : jLi cK cL cR (.inl (100, Lx, fun j => .int (xs j))) 571 563 n tm er T h) (X : jcx er tm T h) (Y : YX tm er T h) (k : ∀ (n' : Nat) (tm' er' : Int) (T' : Nat → Int) (h' : mj_H) (l5 l6 l7 l8 : Option Value), n ≤ n' → n' ≤ n + 1 → jLi cK cL cR (.inl (100, Lx, fun j => .int (xs j))) 571 563 n' tm' er' T' h' → jcx er' tm' T' h' → YX tm' er' T' h' → mj_T 100 mj_mK 2100 [some (.ref 0), some (.ref 1), some (.ref 563), some (.ref 571), some (.int (jn i)), l5, l6, l7, l8] [] h' Q) : mj_T 100 mj_mK 1999 [some (.ref 0), some (.ref 1), some (.ref 563), some (.ref 571), some (.int (jn i)), l5, l6, l7, l8] [] h Q := by
  obtain ⟨N0, u0, H0, hr0, s0, E0, J0⟩ := Y
  have A0 := J0.AS
  refine mj_T.pl rfl rfl rfl rfl ?_
  refine jL.arg (k := 1) I.2.1 hi hL ⟨by decide, by decide⟩ rfl rfl rfl rfl rfl ?_
  refine jT.asJ ?_
  refine mj_T.eq (pc2 := 2006) ?_ rfl rfl rfl rfl
  refine mj_T.pl rfl rfl rfl rfl ?_
  refine mj_T.call rfl rfl (Nat.le_of_ble_eq_true rfl) (Nat.le_of_ble_eq_true rfl) rfl rfl (mj_Ok.up (by decide) (mj_Ok.and (mj_Ok.up (by decide) ((jw_345 (D := 0) cTY I.1 ck0.2 (jr_of' _)).and (jv_345 (D := 0) I.1 (jr_of' _) X))) (jy_345 I.1 (jr_of' _) (yr_144 A0 s0 I.1 (jr_of' _))))) (fun v h1 hq => ?_) (fun i' h1 hq => by obtain ⟨hq, _⟩ := hq; obtain ⟨hq, _⟩ := hq; exact (by obtain ⟨_, hq, _⟩ := hq; cases hq))
  obtain ⟨hq, qy⟩ := hq
  obtain ⟨hq, qx⟩ := hq
  have X1 := qx
  obtain ⟨z, hv, ⟨n1, hn1, hn2, w1⟩, f1⟩ := hq
  cases hv
  have I1 := I.cls jZ_pl w1 hn1 f1
  have E1 := E0.frame jZ_pl f1 (by have e1 := I.1.1.1; have e2 := w1.1.1; have e3 := hn1; omega)
  refine mj_T.pl (loc' := [some (.ref 0), some (.ref 1), some (.ref 563), some (.ref 571), some (.int (jn i)), some (.int (jn z)), l6, l7, l8]) rfl rfl rfl rfl ?_
  refine mj_T.pl rfl rfl rfl rfl ?_
  refine jL.arg (k := 1) I1.2.1 hi hL ⟨by decide, by decide⟩ rfl rfl rfl rfl rfl ?_
  refine jT.asJ ?_
  refine mj_T.eq (pc2 := 2019) ?_ rfl rfl rfl rfl
  obtain ⟨fs, ho⟩ := I1.obj
  refine mj_T.call rfl rfl (Nat.le_of_ble_eq_true rfl) (Nat.le_of_ble_eq_true rfl) (by simp [mj_recv, ho]) rfl (mj_Ok.up (by decide) (mj_Ok.and (mj_Ok.up (by decide) ((I1.callI jZ_pl (fun hr hI => rp_write (jr_of _) hI) (fun N => rfl)).qt rfl)) (YX.call (tm' := tm) (er' := er) (T' := T) E1 qy (sameQ.ag _ _ _) ((rx_write (jr_of _) J0).to (fun r k => rIx.z k ⟨rfl, rfl, rfl⟩)) (fun N => rfl)))) (fun v h2 hq => ?_) (fun i' h2 hq => by obtain ⟨hq, _⟩ := hq; obtain ⟨hq, _⟩ := hq; exact (by obtain ⟨_, hq, _⟩ := hq; cases hq))
  obtain ⟨hq, Y2⟩ := hq
  obtain ⟨hq, qx⟩ := hq
  have X2 := X1.qt qx
  obtain ⟨z2, hv, I2⟩ := hq
  cases hv
  refine mj_T.pl (loc' := [some (.ref 0), some (.ref 1), some (.ref 563), some (.ref 571), some (.int (jn i)), some (.int (jn z)), some (.int (jn z2)), l7, l8]) rfl rfl rfl rfl ?_
  refine mj_T.pl rfl rfl rfl rfl ?_
  exact k n1 tm er T h2 _ _ _ _ hn1 hn2 I2 X2 Y2
theorem jL_43 {n Lx : Nat} {xs : Nat → Int32} {tm er i : Int} {T : Nat → Int} {h : mj_H} {l5 l6 l7 l8 : Option Value} {Q : mj_R → Prop} (hi : 0 ≤ i ∧ i + 6 ≤ Lx) (hL : Lx ≤ 3072) (I : jLi cK cL cR (.inl (100, Lx, fun j => .int (xs j))) 571 563 n tm er T h) (X : jcx er tm T h) (Y : YX tm er T h) (k : ∀ (n' : Nat) (tm' er' : Int) (T' : Nat → Int) (h' : mj_H) (l5 l6 l7 l8 : Option Value), n ≤ n' → n' ≤ n + 1 → jLi cK cL cR (.inl (100, Lx, fun j => .int (xs j))) 571 563 n' tm' er' T' h' → jcx er' tm' T' h' → YX tm' er' T' h' → mj_T 100 mj_mK 2100 [some (.ref 0), some (.ref 1), some (.ref 563), some (.ref 571), some (.int (jn i)), l5, l6, l7, l8] [] h' Q) : mj_T 100 mj_mK 2027 [some (.ref 0), some (.ref 1), some (.ref 563), some (.ref 571), some (.int (jn i)), l5, l6, l7, l8] [] h Q := by
  obtain ⟨N0, u0, H0, hr0, s0, E0, J0⟩ := Y
  have A0 := J0.AS
  refine mj_T.pl rfl rfl rfl rfl ?_
  refine jL.arg (k := 1) I.2.1 hi hL ⟨by decide, by decide⟩ rfl rfl rfl rfl rfl ?_
  refine jT.asJ ?_
  refine mj_T.eq (pc2 := 2034) ?_ rfl rfl rfl rfl
  refine mj_T.pl rfl rfl rfl rfl ?_
  refine mj_T.call rfl rfl (Nat.le_of_ble_eq_true rfl) (Nat.le_of_ble_eq_true rfl) rfl rfl (mj_Ok.up (by decide) (mj_Ok.and (mj_Ok.up (by decide) ((jw_346 (D := 0) cTY I.1 ck0.2 (jr_of' _)).qt rfl)) (jy_346 I.1 (jr_of' _) (yr_145 A0 s0 I.1 (jr_of' _))))) (fun v h1 hq => ?_) (fun i' h1 hq => by obtain ⟨hq, _⟩ := hq; obtain ⟨hq, _⟩ := hq; exact (by obtain ⟨_, hq, _⟩ := hq; cases hq))
  obtain ⟨hq, qy⟩ := hq
  obtain ⟨hq, qx⟩ := hq
  have X1 := X.qt qx
  obtain ⟨z, hv, ⟨n1, hn1, hn2, w1⟩, f1⟩ := hq
  cases hv
  have I1 := I.cls jZ_pl w1 hn1 f1
  have E1 := E0.frame jZ_pl f1 (by have e1 := I.1.1.1; have e2 := w1.1.1; have e3 := hn1; omega)
  refine mj_T.pl (loc' := [some (.ref 0), some (.ref 1), some (.ref 563), some (.ref 571), some (.int (jn i)), some (.int (jn z)), l6, l7, l8]) rfl rfl rfl rfl ?_
  refine mj_T.pl rfl rfl rfl rfl ?_
  refine jL.arg (k := 1) I1.2.1 hi hL ⟨by decide, by decide⟩ rfl rfl rfl rfl rfl ?_
  refine jT.asJ ?_
  refine mj_T.eq (pc2 := 2047) ?_ rfl rfl rfl rfl
  obtain ⟨fs, ho⟩ := I1.obj
  refine mj_T.call rfl rfl (Nat.le_of_ble_eq_true rfl) (Nat.le_of_ble_eq_true rfl) (by simp [mj_recv, ho]) rfl (mj_Ok.up (by decide) (mj_Ok.and (mj_Ok.up (by decide) ((I1.callI jZ_pl (fun hr hI => rp_writtenAt (jr_of _) hI) (fun N => rfl)).qt rfl)) (YX.call (tm' := tm) (er' := er) (T' := T) E1 qy (sameQ.ag _ _ _) ((rx_writtenAt (jr_of _) J0).to (fun r k => rIx.z k ⟨rfl, rfl, rfl⟩)) (fun N => rfl)))) (fun v h2 hq => ?_) (fun i' h2 hq => by obtain ⟨hq, _⟩ := hq; obtain ⟨hq, _⟩ := hq; exact (by obtain ⟨_, hq, _⟩ := hq; cases hq))
  obtain ⟨hq, Y2⟩ := hq
  obtain ⟨hq, qx⟩ := hq
  have X2 := X1.qt qx
  obtain ⟨z2, hv, I2⟩ := hq
  cases hv
  refine mj_T.pl (loc' := [some (.ref 0), some (.ref 1), some (.ref 563), some (.ref 571), some (.int (jn i)), some (.int (jn z)), some (.int (jn z2)), l7, l8]) rfl rfl rfl rfl ?_
  refine mj_T.pl rfl rfl rfl rfl ?_
  exact k n1 tm er T h2 _ _ _ _ hn1 hn2 I2 X2 Y2
/-! Rounds of the law. -/
theorem jL_14 {n Lx : Nat} {xs : Nat → Int32} {tm er i : Int} {T : Nat → Int} {h : mj_H} {l5 l6 l7 l8 : Option Value} {Q : mj_R → Prop} (hi : 0 ≤ i ∧ i + 6 ≤ Lx) (hL : Lx ≤ 3072) (I : jLi cK cL cR (.inl (100, Lx, fun j => .int (xs j))) 571 563 n tm er T h) (X : jcx er tm T h) (Y : YX tm er T h) (k : ∀ (n' : Nat) (tm' er' : Int) (T' : Nat → Int) (h' : mj_H) (l5 l6 l7 l8 : Option Value), n ≤ n' → n' ≤ n + 1 → jLi cK cL cR (.inl (100, Lx, fun j => .int (xs j))) 571 563 n' tm' er' T' h' → jcx er' tm' T' h' → YX tm' er' T' h' → mj_T 100 mj_mK 2100 [some (.ref 0), some (.ref 1), some (.ref 563), some (.ref 571), some (.int (jn i)), l5, l6, l7, l8] [] h' Q) : mj_T 100 mj_mK 944 [some (.ref 0), some (.ref 1), some (.ref 563), some (.ref 571), some (.int (jn i)), l5, l6, l7, l8] [] h Q := by
  obtain ⟨N0, u0, H0, hr0, s0, E0, J0⟩ := Y
  have A0 := J0.AS
  refine mj_T.pl rfl rfl rfl rfl ?_
  refine mj_T.call rfl rfl (Nat.le_of_ble_eq_true rfl) (Nat.le_of_ble_eq_true rfl) (jrv_of I.1.1 ck0.2 (by decide) rfl (by decide) rfl _) rfl (mj_Ok.up (by decide) (mj_Ok.and (mj_Ok.up (by decide) ((jc_116 (D := 0) cTY (Nat.le_of_eq I.1.1.1) I.1.1 ck0.2).qt rfl)) ((cz_116 A0 s0).to (fun _ y => y.yz)))) (fun v h1 hq => ?_) (fun i' h1 hq => by obtain ⟨hq, _⟩ := hq; obtain ⟨hq, _⟩ := hq; exact (absurd hq.1 (by simp)))
  obtain ⟨hq, qy⟩ := hq
  obtain ⟨hq, qx⟩ := hq
  have X1 := X.qt qx
  obtain ⟨⟨z, _, _, rfl⟩, o1⟩ := hq
  have I1 := I.cls jZ_pl (I.1.thr o1) (Nat.le_refl n) (jLf.of o1)
  have E1 := E0.frame jZ_pl (jLf.of o1) (by have e1 := I.1.1.1; have e2 := (I.1.thr o1).1.1; have e3 := (Nat.le_refl n); omega)
  iterate 2 refine mj_T.pl rfl rfl rfl rfl ?_
  obtain ⟨fs, ho⟩ := I1.obj
  refine mj_T.call rfl rfl (Nat.le_of_ble_eq_true rfl) (Nat.le_of_ble_eq_true rfl) (by simp [mj_recv, ho]) rfl (mj_Ok.up (by decide) (mj_Ok.and (mj_Ok.up (by decide) ((I1.callI jZ_pl (fun hr hI => rp_clearPoints hI) (fun N => rfl)).qt rfl)) (YX.call (tm' := tm) (er' := er) (T' := T) E1 qy Q_clearPoints.ag (rz_clearPoints J0) (fun N => rfl)))) (fun v h2 hq => ?_) (fun i' h2 hq => by obtain ⟨hq, _⟩ := hq; obtain ⟨hq, _⟩ := hq; exact (by obtain ⟨_, hq, _⟩ := hq; cases hq))
  obtain ⟨hq, Y2⟩ := hq
  obtain ⟨hq, qx⟩ := hq
  have X2 := X1.qt qx
  obtain ⟨z2, hv, I2⟩ := hq
  cases hv
  iterate 2 refine mj_T.pl rfl rfl rfl rfl ?_
  exact k n tm er T h2 _ _ _ _ (Nat.le_refl n) (Nat.le_succ n) I2 X2 Y2
theorem jL_16 {n Lx : Nat} {xs : Nat → Int32} {tm er i : Int} {T : Nat → Int} {h : mj_H} {l5 l6 l7 l8 : Option Value} {Q : mj_R → Prop} (hi : 0 ≤ i ∧ i + 6 ≤ Lx) (hL : Lx ≤ 3072) (I : jLi cK cL cR (.inl (100, Lx, fun j => .int (xs j))) 571 563 n tm er T h) (X : jcx er tm T h) (Y : YX tm er T h) (k : ∀ (n' : Nat) (tm' er' : Int) (T' : Nat → Int) (h' : mj_H) (l5 l6 l7 l8 : Option Value), n ≤ n' → n' ≤ n + 1 → jLi cK cL cR (.inl (100, Lx, fun j => .int (xs j))) 571 563 n' tm' er' T' h' → jcx er' tm' T' h' → YX tm' er' T' h' → mj_T 100 mj_mK 2100 [some (.ref 0), some (.ref 1), some (.ref 563), some (.ref 571), some (.int (jn i)), l5, l6, l7, l8] [] h' Q) : mj_T 100 mj_mK 985 [some (.ref 0), some (.ref 1), some (.ref 563), some (.ref 571), some (.int (jn i)), l5, l6, l7, l8] [] h Q := by
  obtain ⟨N0, u0, H0, hr0, s0, E0, J0⟩ := Y
  have A0 := J0.AS
  refine mj_T.pl rfl rfl rfl rfl ?_
  refine mj_T.call rfl rfl (Nat.le_of_ble_eq_true rfl) (Nat.le_of_ble_eq_true rfl) (jrv_of I.1.1 ck0.2 (by decide) rfl (by decide) rfl _) rfl (mj_Ok.up (by decide) (mj_Ok.and (mj_Ok.up (by decide) ((jc_118 (D := 0) cTY (Nat.le_of_eq I.1.1.1) I.1.1 ck0.2).qt rfl)) ((cz_118 A0 s0).to (fun _ y => y.yz)))) (fun v h1 hq => ?_) (fun i' h1 hq => by obtain ⟨hq, _⟩ := hq; obtain ⟨hq, _⟩ := hq; exact (absurd hq.1 (by simp)))
  obtain ⟨hq, qy⟩ := hq
  obtain ⟨hq, qx⟩ := hq
  have X1 := X.qt qx
  obtain ⟨⟨z, _, _, rfl⟩, o1⟩ := hq
  have I1 := I.cls jZ_pl (I.1.thr o1) (Nat.le_refl n) (jLf.of o1)
  have E1 := E0.frame jZ_pl (jLf.of o1) (by have e1 := I.1.1.1; have e2 := (I.1.thr o1).1.1; have e3 := (Nat.le_refl n); omega)
  iterate 2 refine mj_T.pl rfl rfl rfl rfl ?_
  obtain ⟨fs, ho⟩ := I1.obj
  refine mj_T.call rfl rfl (Nat.le_of_ble_eq_true rfl) (Nat.le_of_ble_eq_true rfl) (by simp [mj_recv, ho]) rfl (mj_Ok.up (by decide) (mj_Ok.and (mj_Ok.up (by decide) ((I1.callI jZ_pl (fun hr hI => rp_undo hI) (fun N => rfl)).qt rfl)) (YX.call (tm' := tm) (er' := er) (T' := T) E1 qy (undQ.ag _ _ _) (rz_undo J0) (fun N => rfl)))) (fun v h2 hq => ?_) (fun i' h2 hq => by obtain ⟨hq, _⟩ := hq; obtain ⟨hq, _⟩ := hq; exact (by obtain ⟨_, hq, _⟩ := hq; cases hq))
  obtain ⟨hq, Y2⟩ := hq
  obtain ⟨hq, qx⟩ := hq
  have X2 := X1.qt qx
  obtain ⟨z2, hv, I2⟩ := hq
  cases hv
  iterate 2 refine mj_T.pl rfl rfl rfl rfl ?_
  exact k n tm er T h2 _ _ _ _ (Nat.le_refl n) (Nat.le_succ n) I2 X2 Y2
theorem jL_38 {n Lx : Nat} {xs : Nat → Int32} {tm er i : Int} {T : Nat → Int} {h : mj_H} {l5 l6 l7 l8 : Option Value} {Q : mj_R → Prop} (hi : 0 ≤ i ∧ i + 6 ≤ Lx) (hL : Lx ≤ 3072) (I : jLi cK cL cR (.inl (100, Lx, fun j => .int (xs j))) 571 563 n tm er T h) (X : jcx er tm T h) (Y : YX tm er T h) (k : ∀ (n' : Nat) (tm' er' : Int) (T' : Nat → Int) (h' : mj_H) (l5 l6 l7 l8 : Option Value), n ≤ n' → n' ≤ n + 1 → jLi cK cL cR (.inl (100, Lx, fun j => .int (xs j))) 571 563 n' tm' er' T' h' → jcx er' tm' T' h' → YX tm' er' T' h' → mj_T 100 mj_mK 2100 [some (.ref 0), some (.ref 1), some (.ref 563), some (.ref 571), some (.int (jn i)), l5, l6, l7, l8] [] h' Q) : mj_T 100 mj_mK 1884 [some (.ref 0), some (.ref 1), some (.ref 563), some (.ref 571), some (.int (jn i)), l5, l6, l7, l8] [] h Q := by
  obtain ⟨N0, u0, H0, hr0, s0, E0, J0⟩ := Y
  have A0 := J0.AS
  refine mj_T.pl rfl rfl rfl rfl ?_
  refine mj_T.call rfl rfl (Nat.le_of_ble_eq_true rfl) (Nat.le_of_ble_eq_true rfl) (jrv_of I.1.1 ck0.2 (by decide) rfl (by decide) rfl _) rfl (mj_Ok.up (by decide) (mj_Ok.and (mj_Ok.up (by decide) ((mj_Ok.to (jc_140 (D := 0) cTY (Nat.le_of_eq I.1.1.1) I.1.1 ck0.2) (fun _ k => jQp.toQ I.1.1 k)).qt rfl)) ((cz_140v s0).to (fun _ y => y.2)))) (fun v h1 hq => ?_) (fun i' h1 hq => by obtain ⟨hq, _⟩ := hq; obtain ⟨hq, _⟩ := hq; exact (absurd hq.1 (by simp)))
  obtain ⟨hq, qy⟩ := hq
  obtain ⟨hq, qx⟩ := hq
  have X1 := X.qt qx
  obtain ⟨⟨z, _, _, rfl⟩, o1⟩ := hq
  have I1 := I.cls jZ_pl (I.1.thr o1) (Nat.le_refl n) (jLf.of o1)
  have E1 := E0.frame jZ_pl (jLf.of o1) (by have e1 := I.1.1.1; have e2 := (I.1.thr o1).1.1; have e3 := (Nat.le_refl n); omega)
  iterate 2 refine mj_T.pl rfl rfl rfl rfl ?_
  obtain ⟨fs, ho⟩ := I1.obj
  refine mj_T.call rfl rfl (Nat.le_of_ble_eq_true rfl) (Nat.le_of_ble_eq_true rfl) (by simp [mj_recv, ho]) rfl (mj_Ok.up (by decide) (mj_Ok.and (mj_Ok.up (by decide) ((I1.callI jZ_pl (fun hr hI => rp_pointCount hI) (fun N => rfl)).qt rfl)) (YX.call (tm' := tm) (er' := er) (T' := T) E1 qy (sameQ.ag _ _ _) ((rx_pointCount J0).to (fun r k => rIx.z k ⟨rfl, rfl, rfl⟩)) (fun N => rfl)))) (fun v h2 hq => ?_) (fun i' h2 hq => by obtain ⟨hq, _⟩ := hq; obtain ⟨hq, _⟩ := hq; exact (by obtain ⟨_, hq, _⟩ := hq; cases hq))
  obtain ⟨hq, Y2⟩ := hq
  obtain ⟨hq, qx⟩ := hq
  have X2 := X1.qt qx
  obtain ⟨z2, hv, I2⟩ := hq
  cases hv
  iterate 2 refine mj_T.pl rfl rfl rfl rfl ?_
  exact k n tm er T h2 _ _ _ _ (Nat.le_refl n) (Nat.le_succ n) I2 X2 Y2
theorem jL_40 {n Lx : Nat} {xs : Nat → Int32} {tm er i : Int} {T : Nat → Int} {h : mj_H} {l5 l6 l7 l8 : Option Value} {Q : mj_R → Prop} (hi : 0 ≤ i ∧ i + 6 ≤ Lx) (hL : Lx ≤ 3072) (I : jLi cK cL cR (.inl (100, Lx, fun j => .int (xs j))) 571 563 n tm er T h) (X : jcx er tm T h) (Y : YX tm er T h) (k : ∀ (n' : Nat) (tm' er' : Int) (T' : Nat → Int) (h' : mj_H) (l5 l6 l7 l8 : Option Value), n ≤ n' → n' ≤ n + 1 → jLi cK cL cR (.inl (100, Lx, fun j => .int (xs j))) 571 563 n' tm' er' T' h' → jcx er' tm' T' h' → YX tm' er' T' h' → mj_T 100 mj_mK 2100 [some (.ref 0), some (.ref 1), some (.ref 563), some (.ref 571), some (.int (jn i)), l5, l6, l7, l8] [] h' Q) : mj_T 100 mj_mK 1973 [some (.ref 0), some (.ref 1), some (.ref 563), some (.ref 571), some (.int (jn i)), l5, l6, l7, l8] [] h Q := by
  obtain ⟨N0, u0, H0, hr0, s0, E0, J0⟩ := Y
  have A0 := J0.AS
  refine mj_T.pl rfl rfl rfl rfl ?_
  refine mj_T.call rfl rfl (Nat.le_of_ble_eq_true rfl) (Nat.le_of_ble_eq_true rfl) (jrv_of I.1.1 ck0.2 (by decide) rfl (by decide) rfl _) rfl (mj_Ok.up (by decide) (mj_Ok.and (mj_Ok.up (by decide) ((jc_142 (D := 0) cTY I.1.1 ck0.2).qt rfl)) (yr_142 s0))) (fun v h1 hq => ?_) (fun i' h1 hq => by obtain ⟨hq, _⟩ := hq; obtain ⟨hq, _⟩ := hq; exact (by obtain ⟨hq, _⟩ := hq; cases hq))
  obtain ⟨hq, qy⟩ := hq
  obtain ⟨hq, qx⟩ := hq
  have X1 := X.qt qx
  obtain ⟨hv, o1⟩ := hq
  cases hv
  have I1 := I.cls jZ_pl (I.1.thr o1) (Nat.le_refl n) (jLf.of o1)
  have E1 := E0.frame jZ_pl (jLf.of o1) (by have e1 := I.1.1.1; have e2 := (I.1.thr o1).1.1; have e3 := (Nat.le_refl n); omega)
  iterate 2 refine mj_T.pl rfl rfl rfl rfl ?_
  obtain ⟨fs, ho⟩ := I1.obj
  have hc : mj_Ok 40 286 [.ref 563] h1 (fun r => ∃ z : Int, r.1 = .inl (some (.int (jn z))) ∧ jLc cK cL cR (.inl (100, Lx, fun j => .int (xs j))) 571 563 n 0 0 er T r.2) := by
    refine (I1.call jZ_pl (fun hr hI => rp_clearText hI) (fun r hr => ?_) (fun N => rfl)).to (fun r ⟨r0, hr', a, b, d, s0, e⟩ => ?_)
    · obtain ⟨h2, rfl, k⟩ := hr
      exact ⟨_, _, _, k⟩
    · obtain ⟨h2, e2, k⟩ := a
      cases e2
      exact ⟨_, b, d, s0, hr', e, k⟩
  refine mj_T.call rfl rfl (Nat.le_of_ble_eq_true rfl) (Nat.le_of_ble_eq_true rfl) (by simp [mj_recv, ho]) rfl (mj_Ok.up (by decide) (mj_Ok.and (mj_Ok.up (by decide) (hc.qt rfl)) (YX.call (tm' := 0) (er' := er) (T' := T) E1 qy (sameQ.ag _ _ _) ((rx_clearText J0).to (fun r k => by obtain ⟨h', rfl, k⟩ := k; exact ⟨_, _, _, ⟨rfl, rfl, rfl⟩, k⟩)) (fun N => rfl)))) (fun v h2 hq => ?_) (fun i' h2 hq => by obtain ⟨hq, _⟩ := hq; obtain ⟨hq, _⟩ := hq; exact (by obtain ⟨_, hq, _⟩ := hq; cases hq))
  obtain ⟨hq, Y2⟩ := hq
  obtain ⟨hq, qx⟩ := hq
  have X2 := X1.qt qx
  obtain ⟨z2, hv, I2⟩ := hq
  cases hv
  iterate 2 refine mj_T.pl rfl rfl rfl rfl ?_
  exact k n 0 er T h2 _ _ _ _ (Nat.le_refl n) (Nat.le_succ n) I2 (X2.le I.1.1.2.1.1) Y2
theorem jL_41 {n Lx : Nat} {xs : Nat → Int32} {tm er i : Int} {T : Nat → Int} {h : mj_H} {l5 l6 l7 l8 : Option Value} {Q : mj_R → Prop} (hi : 0 ≤ i ∧ i + 6 ≤ Lx) (hL : Lx ≤ 3072) (I : jLi cK cL cR (.inl (100, Lx, fun j => .int (xs j))) 571 563 n tm er T h) (X : jcx er tm T h) (Y : YX tm er T h) (k : ∀ (n' : Nat) (tm' er' : Int) (T' : Nat → Int) (h' : mj_H) (l5 l6 l7 l8 : Option Value), n ≤ n' → n' ≤ n + 1 → jLi cK cL cR (.inl (100, Lx, fun j => .int (xs j))) 571 563 n' tm' er' T' h' → jcx er' tm' T' h' → YX tm' er' T' h' → mj_T 100 mj_mK 2100 [some (.ref 0), some (.ref 1), some (.ref 563), some (.ref 571), some (.int (jn i)), l5, l6, l7, l8] [] h' Q) : mj_T 100 mj_mK 1986 [some (.ref 0), some (.ref 1), some (.ref 563), some (.ref 571), some (.int (jn i)), l5, l6, l7, l8] [] h Q := by
  obtain ⟨N0, u0, H0, hr0, s0, E0, J0⟩ := Y
  have A0 := J0.AS
  refine mj_T.pl rfl rfl rfl rfl ?_
  refine mj_T.call rfl rfl (Nat.le_of_ble_eq_true rfl) (Nat.le_of_ble_eq_true rfl) (jrv_of I.1.1 ck0.2 (by decide) rfl (by decide) rfl _) rfl (mj_Ok.up (by decide) (mj_Ok.and (mj_Ok.up (by decide) ((mj_Ok.to (jc_143 (D := 0) cTY (Nat.le_of_eq I.1.1.1) I.1.1 ck0.2) (fun _ k => jQp.toQ I.1.1 k)).qt rfl)) (yr_143 A0 s0 I.1))) (fun v h1 hq => ?_) (fun i' h1 hq => by obtain ⟨hq, _⟩ := hq; obtain ⟨hq, _⟩ := hq; exact (absurd hq.1 (by simp)))
  obtain ⟨hq, qy⟩ := hq
  obtain ⟨hq, qx⟩ := hq
  have X1 := X.qt qx
  obtain ⟨⟨z, _, _, rfl⟩, o1⟩ := hq
  have I1 := I.cls jZ_pl (I.1.thr o1) (Nat.le_refl n) (jLf.of o1)
  have E1 := E0.frame jZ_pl (jLf.of o1) (by have e1 := I.1.1.1; have e2 := (I.1.thr o1).1.1; have e3 := (Nat.le_refl n); omega)
  iterate 2 refine mj_T.pl rfl rfl rfl rfl ?_
  obtain ⟨fs, ho⟩ := I1.obj
  have hc : mj_Ok 40 287 [.ref 563] h1 (fun r => ∃ z : Int, r.1 = .inl (some (.int (jn z))) ∧ jLc cK cL cR (.inl (100, Lx, fun j => .int (xs j))) 571 563 n tm tm er T r.2) := by
    refine (I1.call jZ_pl (fun hr hI => rp_errorPosition hI) (fun r hr => ?_) (fun N => rfl)).to (fun r ⟨r0, hr', a, b, d, s0, e⟩ => ?_)
    · obtain ⟨h2, rfl, k⟩ := hr
      exact ⟨_, _, _, k⟩
    · obtain ⟨h2, e2, k⟩ := a
      cases e2
      exact ⟨_, b, d, s0, hr', e, k⟩
  refine mj_T.call rfl rfl (Nat.le_of_ble_eq_true rfl) (Nat.le_of_ble_eq_true rfl) (by simp [mj_recv, ho]) rfl (mj_Ok.up (by decide) (mj_Ok.and (mj_Ok.up (by decide) (hc.qt rfl)) (YX.call (tm' := tm) (er' := er) (T' := T) E1 qy (sameQ.ag _ _ _) ((rx_errorPosition J0).to (fun r k => by obtain ⟨h', rfl, k⟩ := k; exact ⟨_, _, _, ⟨rfl, rfl, rfl⟩, k⟩)) (fun N => rfl)))) (fun v h2 hq => ?_) (fun i' h2 hq => by obtain ⟨hq, _⟩ := hq; obtain ⟨hq, _⟩ := hq; exact (by obtain ⟨_, hq, _⟩ := hq; cases hq))
  obtain ⟨hq, Y2⟩ := hq
  obtain ⟨hq, qx⟩ := hq
  have X2 := X1.qt qx
  obtain ⟨z2, hv, I2⟩ := hq
  cases hv
  iterate 2 refine mj_T.pl rfl rfl rfl rfl ?_
  exact k n tm er T h2 _ _ _ _ (Nat.le_refl n) (Nat.le_succ n) I2 X2 Y2
theorem jL_46 {n Lx : Nat} {xs : Nat → Int32} {tm er i : Int} {T : Nat → Int} {h : mj_H} {l5 l6 l7 l8 : Option Value} {Q : mj_R → Prop} (hi : 0 ≤ i ∧ i + 6 ≤ Lx) (hL : Lx ≤ 3072) (I : jLi cK cL cR (.inl (100, Lx, fun j => .int (xs j))) 571 563 n tm er T h) (X : jcx er tm T h) (Y : YX tm er T h) (k : ∀ (n' : Nat) (tm' er' : Int) (T' : Nat → Int) (h' : mj_H) (l5 l6 l7 l8 : Option Value), n ≤ n' → n' ≤ n + 1 → jLi cK cL cR (.inl (100, Lx, fun j => .int (xs j))) 571 563 n' tm' er' T' h' → jcx er' tm' T' h' → YX tm' er' T' h' → mj_T 100 mj_mK 2100 [some (.ref 0), some (.ref 1), some (.ref 563), some (.ref 571), some (.int (jn i)), l5, l6, l7, l8] [] h' Q) : mj_T 100 mj_mK 2087 [some (.ref 0), some (.ref 1), some (.ref 563), some (.ref 571), some (.int (jn i)), l5, l6, l7, l8] [] h Q := by
  obtain ⟨N0, u0, H0, hr0, s0, E0, J0⟩ := Y
  have A0 := J0.AS
  refine mj_T.pl rfl rfl rfl rfl ?_
  refine mj_T.call rfl rfl (Nat.le_of_ble_eq_true rfl) (Nat.le_of_ble_eq_true rfl) (jrv_of I.1.1 ck0.2 (by decide) rfl (by decide) rfl _) rfl (mj_Ok.up (by decide) (mj_Ok.and (mj_Ok.up (by decide) ((mj_Ok.up (by decide : 56 ≤ 60) (jc_148 (D := 0) cTY (Nat.le_of_eq I.1.1.1) I.1.1 ck0.2)).and (rq_errors (Nat.le_of_eq I.1.1.1) I.1.1 X))) (yr_148 A0 s0))) (fun v h1 hq => ?_) (fun i' h1 hq => by obtain ⟨hq, _⟩ := hq; obtain ⟨hq, _⟩ := hq; exact (absurd hq.1 (by simp)))
  obtain ⟨hq, qy⟩ := hq
  obtain ⟨hq, qx⟩ := hq
  have X1 := qx
  obtain ⟨⟨z, _, _, rfl⟩, o1⟩ := hq
  have I1 := I.cls jZ_pl (I.1.thr o1) (Nat.le_refl n) (jLf.of o1)
  have E1 := E0.frame jZ_pl (jLf.of o1) (by have e1 := I.1.1.1; have e2 := (I.1.thr o1).1.1; have e3 := (Nat.le_refl n); omega)
  iterate 2 refine mj_T.pl rfl rfl rfl rfl ?_
  obtain ⟨fs, ho⟩ := I1.obj
  have hc : mj_Ok 40 309 [.ref 563] h1 (fun r => ∃ z : Int, r.1 = .inl (some (.int (jn z))) ∧ jLc cK cL cR (.inl (100, Lx, fun j => .int (xs j))) 571 563 n tm tm er T r.2) := by
    refine (I1.call jZ_pl (fun hr hI => rp_errors hI) (fun r hr => ?_) (fun N => rfl)).to (fun r ⟨r0, hr', a, b, d, s0, e⟩ => ?_)
    · obtain ⟨h2, rfl, k⟩ := hr
      exact ⟨_, _, _, k⟩
    · obtain ⟨h2, e2, k⟩ := a
      cases e2
      exact ⟨_, b, d, s0, hr', e, k⟩
  refine mj_T.call rfl rfl (Nat.le_of_ble_eq_true rfl) (Nat.le_of_ble_eq_true rfl) (by simp [mj_recv, ho]) rfl (mj_Ok.up (by decide) (mj_Ok.and (mj_Ok.up (by decide) (hc.qt rfl)) (YX.call (tm' := tm) (er' := er) (T' := T) E1 qy (sameQ.ag _ _ _) ((rx_errors J0).to (fun r k => by obtain ⟨h', rfl, k⟩ := k; exact ⟨_, _, _, ⟨rfl, rfl, rfl⟩, k⟩)) (fun N => rfl)))) (fun v h2 hq => ?_) (fun i' h2 hq => by obtain ⟨hq, _⟩ := hq; obtain ⟨hq, _⟩ := hq; exact (by obtain ⟨_, hq, _⟩ := hq; cases hq))
  obtain ⟨hq, Y2⟩ := hq
  obtain ⟨hq, qx⟩ := hq
  have X2 := X1.qt qx
  obtain ⟨z2, hv, I2⟩ := hq
  cases hv
  iterate 2 refine mj_T.pl rfl rfl rfl rfl ?_
  exact k n tm er T h2 _ _ _ _ (Nat.le_refl n) (Nat.le_succ n) I2 X2 Y2
/-! Rounds of the law. -/
theorem jL_12 {n Lx : Nat} {xs : Nat → Int32} {tm er i : Int} {T : Nat → Int} {h : mj_H} {l5 l6 l7 l8 : Option Value} {Q : mj_R → Prop} (hi : 0 ≤ i ∧ i + 6 ≤ Lx) (hL : Lx ≤ 3072) (I : jLi cK cL cR (.inl (100, Lx, fun j => .int (xs j))) 571 563 n tm er T h) (X : jcx er tm T h) (Y : YX tm er T h) (k : ∀ (n' : Nat) (tm' er' : Int) (T' : Nat → Int) (h' : mj_H) (l5 l6 l7 l8 : Option Value), n ≤ n' → n' ≤ n + 1 → jLi cK cL cR (.inl (100, Lx, fun j => .int (xs j))) 571 563 n' tm' er' T' h' → jcx er' tm' T' h' → YX tm' er' T' h' → mj_T 100 mj_mK 2100 [some (.ref 0), some (.ref 1), some (.ref 563), some (.ref 571), some (.int (jn i)), l5, l6, l7, l8] [] h' Q) : mj_T 100 mj_mK 876 [some (.ref 0), some (.ref 1), some (.ref 563), some (.ref 571), some (.int (jn i)), l5, l6, l7, l8] [] h Q := by
  obtain ⟨N0, u0, H0, hr0, s0, E0, J0⟩ := Y
  have A0 := J0.AS
  obtain ⟨t0, rfl⟩ : ∃ t0 : Nat, tm = (t0 : Int) := ⟨tm.toNat, by have := I.1.1.2.1; omega⟩
  refine mj_T.pl rfl rfl rfl rfl ?_
  refine jL.arg (k := 1) I.2.1 hi hL ⟨by decide, by decide⟩ rfl rfl rfl rfl rfl ?_
  refine jT.asJ ?_
  refine mj_T.eq (pc2 := 883) ?_ rfl rfl rfl rfl
  refine mj_T.pl rfl rfl rfl rfl ?_
  refine mj_T.call rfl rfl (Nat.le_of_ble_eq_true rfl) (Nat.le_of_ble_eq_true rfl) rfl rfl (mj_Ok.up (by decide) (mj_Ok.and (mj_Ok.up (by decide) ((mj_Ok.up (by decide : 57 ≤ 61) (jw_322 (D := 0) cTY I.1 ck0.2 (jr_of' _))).and (jv_322 I.1 (jr_of' _) X I.hT))) (jy_322 I.1 (jr_of' _) (mj_Ok.up (by decide) ((cz_114 A0 s0 (X.jBuf I.1.1) (by have := I.1.1.2.1; omega) I.hT (jr_of' _)).to (fun _ y => y.yz)))))) (fun v h1 hq => ?_) (fun i' h1 hq => by obtain ⟨hq, _⟩ := hq; obtain ⟨hq, _⟩ := hq; exact (by obtain ⟨_, hq, _⟩ := hq; cases hq))
  obtain ⟨hq, qy⟩ := hq
  obtain ⟨hq, qx⟩ := hq
  have X1 := qx
  obtain ⟨z, hv, ⟨n1, hn1, hn2, w1⟩, f1⟩ := hq
  cases hv
  have I1 := I.cls jZ_pl w1 hn1 f1
  have E1 := E0.frame jZ_pl f1 (by have e1 := I.1.1.1; have e2 := w1.1.1; have e3 := hn1; omega)
  refine mj_T.pl (loc' := [some (.ref 0), some (.ref 1), some (.ref 563), some (.ref 571), some (.int (jn i)), some (.int (jn z)), l6, l7, l8]) rfl rfl rfl rfl ?_
  refine mj_T.pl rfl rfl rfl rfl ?_
  refine jL.arg (k := 1) I1.2.1 hi hL ⟨by decide, by decide⟩ rfl rfl rfl rfl rfl ?_
  refine jT.asJ ?_
  refine mj_T.eq (pc2 := 896) ?_ rfl rfl rfl rfl
  obtain ⟨fs, ho⟩ := I1.obj
  by_cases hp : 0 ≤ (xs (i + 1).toNat).toInt ∧ (xs (i + 1).toNat).toInt ≤ 5
  · rw [if_pos hp] at I1
    have X1 := X1.elim (fun a => absurd hp a.1) (fun a => a.2)
    refine mj_T.call rfl rfl (Nat.le_of_ble_eq_true rfl) (Nat.le_of_ble_eq_true rfl) (by simp [mj_recv, ho]) rfl (mj_Ok.up (by decide) (mj_Ok.and (mj_Ok.up (by decide) ((I1.callI jZ_pl (fun hr hI => (rp_read (jr_of _) hI).to (fun r hh => hh.elim (fun a => a.2) (fun a => absurd hp a.1))) (fun N => rfl)).qt rfl)) (YX.call (tm' := 0) (er' := rdErr T t0) (T' := T) E1 qy (Q_read.ag _ _ _) ((rz_read (jr_of _) J0).to (fun r hh => hh.elim (fun a => a.2) (fun a => absurd hp a.1))) (fun N => rfl)))) (fun v h2 hq => ?_) (fun i' h2 hq => by obtain ⟨hq, _⟩ := hq; obtain ⟨hq, _⟩ := hq; exact (by obtain ⟨_, hq, _⟩ := hq; cases hq))
    obtain ⟨hq, Y2⟩ := hq
    obtain ⟨hq, qx⟩ := hq
    have X2 := X1.qt qx
    obtain ⟨z2, hv, I2⟩ := hq
    cases hv
    refine mj_T.pl (loc' := [some (.ref 0), some (.ref 1), some (.ref 563), some (.ref 571), some (.int (jn i)), some (.int (jn z)), some (.int (jn z2)), l7, l8]) rfl rfl rfl rfl ?_
    refine mj_T.pl rfl rfl rfl rfl ?_
    exact k n1 _ _ T h2 _ _ _ _ hn1 hn2 I2 X2 Y2
  · rw [if_neg hp] at I1
    have X1 := X1.elim (fun a => a.2) (fun a => absurd a.1 hp)
    refine mj_T.call rfl rfl (Nat.le_of_ble_eq_true rfl) (Nat.le_of_ble_eq_true rfl) (by simp [mj_recv, ho]) rfl (mj_Ok.up (by decide) (mj_Ok.and (mj_Ok.up (by decide) ((I1.callI jZ_pl (fun hr hI => (rp_read (jr_of _) hI).to (fun r hh => hh.elim (fun a => absurd a.1 hp) (fun a => a.2))) (fun N => rfl)).qt rfl)) (YX.call (tm' := (t0 : Int)) (er' := er) (T' := T) E1 qy (Q_read.ag _ _ _) ((rz_read (jr_of _) J0).to (fun r hh => hh.elim (fun a => absurd a.1 hp) (fun a => a.2))) (fun N => rfl)))) (fun v h2 hq => ?_) (fun i' h2 hq => by obtain ⟨hq, _⟩ := hq; obtain ⟨hq, _⟩ := hq; exact (by obtain ⟨_, hq, _⟩ := hq; cases hq))
    obtain ⟨hq, Y2⟩ := hq
    obtain ⟨hq, qx⟩ := hq
    have X2 := X1.qt qx
    obtain ⟨z2, hv, I2⟩ := hq
    cases hv
    refine mj_T.pl (loc' := [some (.ref 0), some (.ref 1), some (.ref 563), some (.ref 571), some (.int (jn i)), some (.int (jn z)), some (.int (jn z2)), l7, l8]) rfl rfl rfl rfl ?_
    refine mj_T.pl rfl rfl rfl rfl ?_
    exact k n1 _ _ T h2 _ _ _ _ hn1 hn2 I2 X2 Y2
theorem jL_11 {n Lx : Nat} {xs : Nat → Int32} {tm er i : Int} {T : Nat → Int} {h : mj_H} {l5 l6 l7 l8 : Option Value} {Q : mj_R → Prop} (hi : 0 ≤ i ∧ i + 6 ≤ Lx) (hL : Lx ≤ 3072) (I : jLi cK cL cR (.inl (100, Lx, fun j => .int (xs j))) 571 563 n tm er T h) (X : jcx er tm T h) (Y : YX tm er T h) (k : ∀ (n' : Nat) (tm' er' : Int) (T' : Nat → Int) (h' : mj_H) (l5 l6 l7 l8 : Option Value), n ≤ n' → n' ≤ n + 1 → jLi cK cL cR (.inl (100, Lx, fun j => .int (xs j))) 571 563 n' tm' er' T' h' → jcx er' tm' T' h' → YX tm' er' T' h' → mj_T 100 mj_mK 2100 [some (.ref 0), some (.ref 1), some (.ref 563), some (.ref 571), some (.int (jn i)), l5, l6, l7, l8] [] h' Q) : mj_T 100 mj_mK 792 [some (.ref 0), some (.ref 1), some (.ref 563), some (.ref 571), some (.int (jn i)), l5, l6, l7, l8] [] h Q := by
  obtain ⟨N0, u0, H0, hr0, s0, E0, J0⟩ := Y
  have A0 := J0.AS
  refine mj_T.pl rfl rfl rfl rfl ?_
  refine jL.arg (k := 1) I.2.1 hi hL ⟨by decide, by decide⟩ rfl rfl rfl rfl rfl ?_
  refine jT.asJ ?_
  refine mj_T.eq (pc2 := 799) ?_ rfl rfl rfl rfl
  refine jL.arg (k := 2) I.2.1 hi hL ⟨by decide, by decide⟩ rfl rfl rfl rfl rfl ?_
  refine jT.asJ ?_
  refine mj_T.eq (pc2 := 805) ?_ rfl rfl rfl rfl
  refine jL.arg (k := 3) I.2.1 hi hL ⟨by decide, by decide⟩ rfl rfl rfl rfl rfl ?_
  refine jT.asJ ?_
  refine mj_T.eq (pc2 := 811) ?_ rfl rfl rfl rfl
  refine mj_T.step rfl rfl rfl ?_
  iterate 2 refine mj_T.pl rfl rfl rfl rfl ?_
  refine mj_T.eq (pc2 := 815) ?_ rfl rfl rfl rfl
  refine jL.arg (k := 4) I.2.1 hi hL ⟨by decide, by decide⟩ rfl rfl rfl rfl rfl ?_
  refine jT.asJ ?_
  refine mj_T.eq (pc2 := 821) ?_ rfl rfl rfl rfl
  refine mj_T.step rfl rfl rfl ?_
  iterate 3 refine mj_T.pl rfl rfl rfl rfl ?_
  refine jT.asL ?_
  refine mj_T.pl rfl rfl rfl rfl ?_
  refine mj_T.call rfl rfl (Nat.le_of_ble_eq_true rfl) (Nat.le_of_ble_eq_true rfl) rfl rfl (mj_Ok.up (by decide) (mj_Ok.and (mj_Ok.up (by decide) ((jw_321 (D := 0) cTY I.1 ck0.2 (jr_of' _) (jr_of' _) (jR_of _)).qt rfl)) (jy_321 I.1 (jr_of' _) (jr_of' _) (jR_of _) ((cz_113 A0 s0 (jr_of' _) (jr_of' _) (jR_of _)).to (fun _ y => y.yz))))) (fun v h1 hq => ?_) (fun i' h1 hq => by obtain ⟨hq, _⟩ := hq; obtain ⟨hq, _⟩ := hq; exact (by obtain ⟨_, hq, _⟩ := hq; cases hq))
  obtain ⟨hq, qy⟩ := hq
  obtain ⟨hq, qx⟩ := hq
  have X1 := X.qt qx
  obtain ⟨z, hv, ⟨n1, hn1, hn2, w1⟩, f1⟩ := hq
  cases hv
  have I1 := I.cls jZ_pl w1 hn1 f1
  have E1 := E0.frame jZ_pl f1 (by have e1 := I.1.1.1; have e2 := w1.1.1; have e3 := hn1; omega)
  refine mj_T.pl (loc' := [some (.ref 0), some (.ref 1), some (.ref 563), some (.ref 571), some (.int (jn i)), some (.int (jn z)), l6, l7, l8]) rfl rfl rfl rfl ?_
  refine mj_T.pl rfl rfl rfl rfl ?_
  refine jL.arg (k := 1) I1.2.1 hi hL ⟨by decide, by decide⟩ rfl rfl rfl rfl rfl ?_
  refine jT.asJ ?_
  refine mj_T.eq (pc2 := 840) ?_ rfl rfl rfl rfl
  refine jL.arg (k := 2) I1.2.1 hi hL ⟨by decide, by decide⟩ rfl rfl rfl rfl rfl ?_
  refine jT.asJ ?_
  refine mj_T.eq (pc2 := 846) ?_ rfl rfl rfl rfl
  refine jL.arg (k := 3) I1.2.1 hi hL ⟨by decide, by decide⟩ rfl rfl rfl rfl rfl ?_
  refine jT.asJ ?_
  refine mj_T.eq (pc2 := 852) ?_ rfl rfl rfl rfl
  refine mj_T.step rfl rfl rfl ?_
  iterate 2 refine mj_T.pl rfl rfl rfl rfl ?_
  refine mj_T.eq (pc2 := 856) ?_ rfl rfl rfl rfl
  refine jL.arg (k := 4) I1.2.1 hi hL ⟨by decide, by decide⟩ rfl rfl rfl rfl rfl ?_
  refine jT.asJ ?_
  refine mj_T.eq (pc2 := 862) ?_ rfl rfl rfl rfl
  refine mj_T.step rfl rfl rfl ?_
  iterate 3 refine mj_T.pl rfl rfl rfl rfl ?_
  refine jT.asL ?_
  obtain ⟨fs, ho⟩ := I1.obj
  refine mj_T.call rfl rfl (Nat.le_of_ble_eq_true rfl) (Nat.le_of_ble_eq_true rfl) (by simp [mj_recv, ho]) rfl (mj_Ok.up (by decide) (mj_Ok.and (mj_Ok.up (by decide) ((I1.callI jZ_pl (fun hr hI => rp_setTerm (jr_of _) (jr_of _) (jR_of _) hI) (fun N => rfl)).qt rfl)) (YX.call (tm' := tm) (er' := er) (T' := T) E1 qy (Q_setTerm.ag _ _ _) (rz_setTerm (jr_of _) (jr_of _) (jR_of _) J0) (fun N => rfl)))) (fun v h2 hq => ?_) (fun i' h2 hq => by obtain ⟨hq, _⟩ := hq; obtain ⟨hq, _⟩ := hq; exact (by obtain ⟨_, hq, _⟩ := hq; cases hq))
  obtain ⟨hq, Y2⟩ := hq
  obtain ⟨hq, qx⟩ := hq
  have X2 := X1.qt qx
  obtain ⟨z2, hv, I2⟩ := hq
  cases hv
  refine mj_T.pl (loc' := [some (.ref 0), some (.ref 1), some (.ref 563), some (.ref 571), some (.int (jn i)), some (.int (jn z)), some (.int (jn z2)), l7, l8]) rfl rfl rfl rfl ?_
  refine mj_T.pl rfl rfl rfl rfl ?_
  exact k n1 tm er T h2 _ _ _ _ hn1 hn2 I2 X2 Y2
theorem jL_26 {n Lx : Nat} {xs : Nat → Int32} {tm er i : Int} {T : Nat → Int} {h : mj_H} {l5 l6 l7 l8 : Option Value} {Q : mj_R → Prop} (hi : 0 ≤ i ∧ i + 6 ≤ Lx) (hL : Lx ≤ 3072) (I : jLi cK cL cR (.inl (100, Lx, fun j => .int (xs j))) 571 563 n tm er T h) (X : jcx er tm T h) (Y : YX tm er T h) (k : ∀ (n' : Nat) (tm' er' : Int) (T' : Nat → Int) (h' : mj_H) (l5 l6 l7 l8 : Option Value), n ≤ n' → n' ≤ n + 1 → jLi cK cL cR (.inl (100, Lx, fun j => .int (xs j))) 571 563 n' tm' er' T' h' → jcx er' tm' T' h' → YX tm' er' T' h' → mj_T 100 mj_mK 2100 [some (.ref 0), some (.ref 1), some (.ref 563), some (.ref 571), some (.int (jn i)), l5, l6, l7, l8] [] h' Q) : mj_T 100 mj_mK 1334 [some (.ref 0), some (.ref 1), some (.ref 563), some (.ref 571), some (.int (jn i)), l5, l6, l7, l8] [] h Q := by
  obtain ⟨N0, u0, H0, hr0, s0, E0, J0⟩ := Y
  have A0 := J0.AS
  refine mj_T.pl rfl rfl rfl rfl ?_
  refine jL.arg (k := 1) I.2.1 hi hL ⟨by decide, by decide⟩ rfl rfl rfl rfl rfl ?_
  refine jT.asJ ?_
  refine mj_T.eq (pc2 := 1341) ?_ rfl rfl rfl rfl
  have tj : ∀ zb : Int, 0 ≤ zb ∧ zb ≤ 1 → mj_T 100 mj_mK 1349 [some (.ref 0), some (.ref 1), some (.ref 563), some (.ref 571), some (.int (jn i)), l5, l6, l7, l8] [.int (jn zb), .ref 1] h Q := by
    intro zb hzb
    refine mj_T.call rfl rfl (Nat.le_of_ble_eq_true rfl) (Nat.le_of_ble_eq_true rfl) (jrv_of I.1.1 ck0.2 (by decide) rfl (by decide) rfl _) rfl (mj_Ok.up (by decide) (mj_Ok.and (mj_Ok.up (by decide) ((mj_Ok.to (jc_128 (D := 0) cTY (Nat.le_of_eq I.1.1.1) I.1.1 ck0.2 hzb) (fun _ k => jQp.toQ I.1.1 k)).qt rfl)) (yr_128 A0 s0 I.1 hzb))) (fun v h1 hq => ?_) (fun i' h1 hq => by obtain ⟨hq, _⟩ := hq; obtain ⟨hq, _⟩ := hq; exact (absurd hq.1 (by simp)))
    obtain ⟨hq, qy⟩ := hq
    obtain ⟨hq, qx⟩ := hq
    have X1 := X.qt qx
    obtain ⟨⟨z, _, _, rfl⟩, o1⟩ := hq
    have I1 := I.cls jZ_pl (I.1.thr o1) (Nat.le_refl n) (jLf.of o1)
    have E1 := E0.frame jZ_pl (jLf.of o1) (by have e1 := I.1.1.1; have e2 := (I.1.thr o1).1.1; have e3 := (Nat.le_refl n); omega)
    refine mj_T.pl rfl rfl rfl rfl ?_
    refine mj_T.pl rfl rfl rfl rfl ?_
    refine jL.arg (k := 1) I1.2.1 hi hL ⟨by decide, by decide⟩ rfl rfl rfl rfl rfl ?_
    refine jT.asJ ?_
    refine mj_T.eq (pc2 := 1360) ?_ rfl rfl rfl rfl
    have tk : ∀ zb : Int, 0 ≤ zb ∧ zb ≤ 1 → mj_T 100 mj_mK 1368 [some (.ref 0), some (.ref 1), some (.ref 563), some (.ref 571), some (.int (jn i)), l5, l6, l7, l8] [.int (jn zb), .ref 563] h1 Q := by
      intro zb hzb
      obtain ⟨fs, ho⟩ := I1.obj
      refine mj_T.call rfl rfl (Nat.le_of_ble_eq_true rfl) (Nat.le_of_ble_eq_true rfl) (by simp [mj_recv, ho]) rfl (mj_Ok.up (by decide) (mj_Ok.and (mj_Ok.up (by decide) ((I1.callI jZ_pl (fun hr hI => rp_digits ⟨by omega, by omega⟩ hI) (fun N => rfl)).qt rfl)) (YX.call (tm' := tm) (er' := er) (T' := T) E1 qy (sameQ.ag _ _ _) ((rx_digits ⟨by omega, by omega⟩ J0).to (fun r k => rIx.z k ⟨rfl, rfl, rfl⟩)) (fun N => rfl)))) (fun v h2 hq => ?_) (fun i' h2 hq => by obtain ⟨hq, _⟩ := hq; obtain ⟨hq, _⟩ := hq; exact (by obtain ⟨_, hq, _⟩ := hq; cases hq))
      obtain ⟨hq, Y2⟩ := hq
      obtain ⟨hq, qx⟩ := hq
      have X2 := X1.qt qx
      obtain ⟨z2, hv, I2⟩ := hq
      cases hv
      iterate 2 refine mj_T.pl rfl rfl rfl rfl ?_
      exact k n tm er T h2 _ _ _ _ (Nat.le_refl n) (Nat.le_succ n) I2 X2 Y2
    refine jT.if0 rfl (jr_of' _) (fun _ => ?_) (fun _ => ?_)
    · refine mj_T.pl rfl rfl rfl rfl ?_
      exact tk 0 ⟨by decide, by decide⟩
    · iterate 2 refine mj_T.pl rfl rfl rfl rfl ?_
      exact tk 1 ⟨by decide, by decide⟩
  refine jT.if0 rfl (jr_of' _) (fun _ => ?_) (fun _ => ?_)
  · refine mj_T.pl rfl rfl rfl rfl ?_
    exact tj 0 ⟨by decide, by decide⟩
  · iterate 2 refine mj_T.pl rfl rfl rfl rfl ?_
    exact tj 1 ⟨by decide, by decide⟩
theorem jL_27 {n Lx : Nat} {xs : Nat → Int32} {tm er i : Int} {T : Nat → Int} {h : mj_H} {l5 l6 l7 l8 : Option Value} {Q : mj_R → Prop} (hi : 0 ≤ i ∧ i + 6 ≤ Lx) (hL : Lx ≤ 3072) (I : jLi cK cL cR (.inl (100, Lx, fun j => .int (xs j))) 571 563 n tm er T h) (X : jcx er tm T h) (Y : YX tm er T h) (k : ∀ (n' : Nat) (tm' er' : Int) (T' : Nat → Int) (h' : mj_H) (l5 l6 l7 l8 : Option Value), n ≤ n' → n' ≤ n + 1 → jLi cK cL cR (.inl (100, Lx, fun j => .int (xs j))) 571 563 n' tm' er' T' h' → jcx er' tm' T' h' → YX tm' er' T' h' → mj_T 100 mj_mK 2100 [some (.ref 0), some (.ref 1), some (.ref 563), some (.ref 571), some (.int (jn i)), l5, l6, l7, l8] [] h' Q) : mj_T 100 mj_mK 1375 [some (.ref 0), some (.ref 1), some (.ref 563), some (.ref 571), some (.int (jn i)), l5, l6, l7, l8] [] h Q := by
  obtain ⟨N0, u0, H0, hr0, s0, E0, J0⟩ := Y
  have A0 := J0.AS
  refine mj_T.pl rfl rfl rfl rfl ?_
  refine jL.arg (k := 1) I.2.1 hi hL ⟨by decide, by decide⟩ rfl rfl rfl rfl rfl ?_
  refine jT.asJ ?_
  refine mj_T.eq (pc2 := 1382) ?_ rfl rfl rfl rfl
  have tj : ∀ zb : Int, 0 ≤ zb ∧ zb ≤ 1 → mj_T 100 mj_mK 1390 [some (.ref 0), some (.ref 1), some (.ref 563), some (.ref 571), some (.int (jn i)), l5, l6, l7, l8] [.int (jn zb), .ref 1] h Q := by
    intro zb hzb
    refine jL.arg (k := 2) I.2.1 hi hL ⟨by decide, by decide⟩ rfl rfl rfl rfl rfl ?_
    refine jT.asJ ?_
    refine mj_T.eq (pc2 := 1396) ?_ rfl rfl rfl rfl
    refine mj_T.pl rfl rfl rfl rfl ?_
    refine mj_T.call rfl rfl (Nat.le_of_ble_eq_true rfl) (Nat.le_of_ble_eq_true rfl) rfl rfl (mj_Ok.up (by decide) (mj_Ok.and (mj_Ok.up (by decide) ((jw_334 (D := 0) cTY I.1 ck0.2 hzb (jr_of' _)).qt rfl)) (jy_334 I.1 hzb (jr_of' _) (yr_129 A0 s0 I.1 hzb (jr_of' _))))) (fun v h1 hq => ?_) (fun i' h1 hq => by obtain ⟨hq, _⟩ := hq; obtain ⟨hq, _⟩ := hq; exact (by obtain ⟨_, hq, _⟩ := hq; cases hq))
    obtain ⟨hq, qy⟩ := hq
    obtain ⟨hq, qx⟩ := hq
    have X1 := X.qt qx
    obtain ⟨z, hv, ⟨n1, hn1, hn2, w1⟩, f1⟩ := hq
    cases hv
    have I1 := I.cls jZ_pl w1 hn1 f1
    have E1 := E0.frame jZ_pl f1 (by have e1 := I.1.1.1; have e2 := w1.1.1; have e3 := hn1; omega)
    refine mj_T.pl (loc' := [some (.ref 0), some (.ref 1), some (.ref 563), some (.ref 571), some (.int (jn i)), some (.int (jn z)), l6, l7, l8]) rfl rfl rfl rfl ?_
    refine mj_T.pl rfl rfl rfl rfl ?_
    refine jL.arg (k := 1) I1.2.1 hi hL ⟨by decide, by decide⟩ rfl rfl rfl rfl rfl ?_
    refine jT.asJ ?_
    refine mj_T.eq (pc2 := 1409) ?_ rfl rfl rfl rfl
    have tk : ∀ zb : Int, 0 ≤ zb ∧ zb ≤ 1 → mj_T 100 mj_mK 1417 [some (.ref 0), some (.ref 1), some (.ref 563), some (.ref 571), some (.int (jn i)), some (.int (jn z)), l6, l7, l8] [.int (jn zb), .ref 563] h1 Q := by
      intro zb hzb
      obtain ⟨fs, ho⟩ := I1.obj
      refine jL.arg (k := 2) I1.2.1 hi hL ⟨by decide, by decide⟩ rfl rfl rfl rfl rfl ?_
      refine jT.asJ ?_
      refine mj_T.eq (pc2 := 1423) ?_ rfl rfl rfl rfl
      refine mj_T.call rfl rfl (Nat.le_of_ble_eq_true rfl) (Nat.le_of_ble_eq_true rfl) (by simp [mj_recv, ho]) rfl (mj_Ok.up (by decide) (mj_Ok.and (mj_Ok.up (by decide) ((I1.callI jZ_pl (fun hr hI => rp_digit ⟨by omega, by omega⟩ (jr_of _) hI) (fun N => rfl)).qt rfl)) (YX.call (tm' := tm) (er' := er) (T' := T) E1 qy (sameQ.ag _ _ _) ((rx_digit ⟨by omega, by omega⟩ (jr_of _) J0).to (fun r k => rIx.z k ⟨rfl, rfl, rfl⟩)) (fun N => rfl)))) (fun v h2 hq => ?_) (fun i' h2 hq => by obtain ⟨hq, _⟩ := hq; obtain ⟨hq, _⟩ := hq; exact (by obtain ⟨_, hq, _⟩ := hq; cases hq))
      obtain ⟨hq, Y2⟩ := hq
      obtain ⟨hq, qx⟩ := hq
      have X2 := X1.qt qx
      obtain ⟨z2, hv, I2⟩ := hq
      cases hv
      refine mj_T.pl (loc' := [some (.ref 0), some (.ref 1), some (.ref 563), some (.ref 571), some (.int (jn i)), some (.int (jn z)), some (.int (jn z2)), l7, l8]) rfl rfl rfl rfl ?_
      refine mj_T.pl rfl rfl rfl rfl ?_
      exact k n1 tm er T h2 _ _ _ _ hn1 hn2 I2 X2 Y2
    refine jT.if0 rfl (jr_of' _) (fun _ => ?_) (fun _ => ?_)
    · refine mj_T.pl rfl rfl rfl rfl ?_
      exact tk 0 ⟨by decide, by decide⟩
    · iterate 2 refine mj_T.pl rfl rfl rfl rfl ?_
      exact tk 1 ⟨by decide, by decide⟩
  refine jT.if0 rfl (jr_of' _) (fun _ => ?_) (fun _ => ?_)
  · refine mj_T.pl rfl rfl rfl rfl ?_
    exact tj 0 ⟨by decide, by decide⟩
  · iterate 2 refine mj_T.pl rfl rfl rfl rfl ?_
    exact tj 1 ⟨by decide, by decide⟩
theorem jL_28 {n Lx : Nat} {xs : Nat → Int32} {tm er i : Int} {T : Nat → Int} {h : mj_H} {l5 l6 l7 l8 : Option Value} {Q : mj_R → Prop} (hi : 0 ≤ i ∧ i + 6 ≤ Lx) (hL : Lx ≤ 3072) (I : jLi cK cL cR (.inl (100, Lx, fun j => .int (xs j))) 571 563 n tm er T h) (X : jcx er tm T h) (Y : YX tm er T h) (k : ∀ (n' : Nat) (tm' er' : Int) (T' : Nat → Int) (h' : mj_H) (l5 l6 l7 l8 : Option Value), n ≤ n' → n' ≤ n + 1 → jLi cK cL cR (.inl (100, Lx, fun j => .int (xs j))) 571 563 n' tm' er' T' h' → jcx er' tm' T' h' → YX tm' er' T' h' → mj_T 100 mj_mK 2100 [some (.ref 0), some (.ref 1), some (.ref 563), some (.ref 571), some (.int (jn i)), l5, l6, l7, l8] [] h' Q) : mj_T 100 mj_mK 1431 [some (.ref 0), some (.ref 1), some (.ref 563), some (.ref 571), some (.int (jn i)), l5, l6, l7, l8] [] h Q := by
  obtain ⟨N0, u0, H0, hr0, s0, E0, J0⟩ := Y
  have A0 := J0.AS
  refine mj_T.pl rfl rfl rfl rfl ?_
  refine jL.arg (k := 1) I.2.1 hi hL ⟨by decide, by decide⟩ rfl rfl rfl rfl rfl ?_
  refine jT.asJ ?_
  refine mj_T.eq (pc2 := 1438) ?_ rfl rfl rfl rfl
  have tj : ∀ zb : Int, 0 ≤ zb ∧ zb ≤ 1 → mj_T 100 mj_mK 1446 [some (.ref 0), some (.ref 1), some (.ref 563), some (.ref 571), some (.int (jn i)), l5, l6, l7, l8] [.int (jn zb), .ref 1] h Q := by
    intro zb hzb
    refine mj_T.call rfl rfl (Nat.le_of_ble_eq_true rfl) (Nat.le_of_ble_eq_true rfl) (jrv_of I.1.1 ck0.2 (by decide) rfl (by decide) rfl _) rfl (mj_Ok.up (by decide) (mj_Ok.and (mj_Ok.up (by decide) ((mj_Ok.to (jc_130 (D := 0) cTY (Nat.le_of_eq I.1.1.1) I.1.1 ck0.2 hzb) (fun _ k => jQp.toQ I.1.1 k)).qt rfl)) (yr_130 A0 s0 I.1 hzb))) (fun v h1 hq => ?_) (fun i' h1 hq => by obtain ⟨hq, _⟩ := hq; obtain ⟨hq, _⟩ := hq; exact (absurd hq.1 (by simp)))
    obtain ⟨hq, qy⟩ := hq
    obtain ⟨hq, qx⟩ := hq
    have X1 := X.qt qx
    obtain ⟨⟨z, _, rfl⟩, o1⟩ := hq
    have I1 := I.cls jZ_pl (I.1.thr o1) (Nat.le_refl n) (jLf.of o1)
    have E1 := E0.frame jZ_pl (jLf.of o1) (by have e1 := I.1.1.1; have e2 := (I.1.thr o1).1.1; have e3 := (Nat.le_refl n); omega)
    refine mj_T.pl rfl rfl rfl rfl ?_
    refine mj_T.pl rfl rfl rfl rfl ?_
    refine jL.arg (k := 1) I1.2.1 hi hL ⟨by decide, by decide⟩ rfl rfl rfl rfl rfl ?_
    refine jT.asJ ?_
    refine mj_T.eq (pc2 := 1457) ?_ rfl rfl rfl rfl
    have tk : ∀ zb : Int, 0 ≤ zb ∧ zb ≤ 1 → mj_T 100 mj_mK 1465 [some (.ref 0), some (.ref 1), some (.ref 563), some (.ref 571), some (.int (jn i)), l5, l6, l7, l8] [.int (jn zb), .ref 563] h1 Q := by
      intro zb hzb
      obtain ⟨fs, ho⟩ := I1.obj
      refine mj_T.call rfl rfl (Nat.le_of_ble_eq_true rfl) (Nat.le_of_ble_eq_true rfl) (by simp [mj_recv, ho]) rfl (mj_Ok.up (by decide) (mj_Ok.and (mj_Ok.up (by decide) ((I1.callJ jZ_pl (fun hr hI => rp_low ⟨by omega, by omega⟩ hI) (fun N => rfl)).qt rfl)) (YX.call (tm' := tm) (er' := er) (T' := T) E1 qy (sameQ.ag _ _ _) ((rx_low ⟨by omega, by omega⟩ J0).to (fun r k => rJx.z k ⟨rfl, rfl, rfl⟩)) (fun N => rfl)))) (fun v h2 hq => ?_) (fun i' h2 hq => by obtain ⟨hq, _⟩ := hq; obtain ⟨hq, _⟩ := hq; exact (by obtain ⟨_, hq, _⟩ := hq; cases hq))
      obtain ⟨hq, Y2⟩ := hq
      obtain ⟨hq, qx⟩ := hq
      have X2 := X1.qt qx
      obtain ⟨z2, hv, I2⟩ := hq
      cases hv
      iterate 2 refine mj_T.pl rfl rfl rfl rfl ?_
      exact k n tm er T h2 _ _ _ _ (Nat.le_refl n) (Nat.le_succ n) I2 X2 Y2
    refine jT.if0 rfl (jr_of' _) (fun _ => ?_) (fun _ => ?_)
    · refine mj_T.pl rfl rfl rfl rfl ?_
      exact tk 0 ⟨by decide, by decide⟩
    · iterate 2 refine mj_T.pl rfl rfl rfl rfl ?_
      exact tk 1 ⟨by decide, by decide⟩
  refine jT.if0 rfl (jr_of' _) (fun _ => ?_) (fun _ => ?_)
  · refine mj_T.pl rfl rfl rfl rfl ?_
    exact tj 0 ⟨by decide, by decide⟩
  · iterate 2 refine mj_T.pl rfl rfl rfl rfl ?_
    exact tj 1 ⟨by decide, by decide⟩
/-! Rounds of the law. -/
section JLQ
variable {K L : Nat → Nat} {R : Nat → Nat → Nat} {e0 : mj_E} {q m n : Nat} {tc tm er c : Int} {T : Nat → Int} {h hr : mj_H}
/-- a call of the reference leaves the answers' cell -/
theorem jEm.callq {D j : Nat} {as as2 : List Value} (w : jLw K L R q n tc h) (s0 : h[0]? = some e0) (hm : jPl K q m) (E : jEm m hr h) {Q : mj_R → Prop} (c : mj_Ok D j as hr Q) (hQ : ∀ r, Q r → ∃ tm' er' T', jI tm' er' T' r.2) (has : ∀ N, as.map (mj_rn (jro m N)) = as2) : mj_Ok D j as2 h (fun r => ∃ r0 hr', Q (r0, hr') ∧ r.1 = mj_rR (jro m h.length) r0 ∧ jLw K L R q n tc r.2 ∧ r.2[0]? = some e0 ∧ jEm m hr' r.2 ∧ r.2[q]? = h[q]?) := by
  have := E.run c (fun r h2 h3 => by
    obtain ⟨_, _, _, hi⟩ := hQ r h2
    exact jI_s8 hi h3)
  rw [has] at this
  refine this.to (fun r ⟨r0, hr', a, b, d, e, f⟩ => ⟨r0, hr', a, b, w.frame hm e f, by rw [f 0 (List.getElem?_eq_some_iff.mp s0).1 (Or.inl hm.2.2.2)]; exact s0, d, ?_⟩)
  obtain ⟨_, _, g, hg⟩ := w
  refine f q (List.getElem?_eq_some_iff.mp hg).1 ?_
  rcases Nat.lt_or_ge q m with c1 | c1
  · exact Or.inl c1
  · rcases Nat.lt_or_ge q (m + 8) with d1 | d1
    · have := (hm.1 (q - m) (by omega)).2
      omega
    · exact Or.inr d1
end JLQ
theorem jL_39 {n Lx : Nat} {xs : Nat → Int32} {tm er i : Int} {T : Nat → Int} {h : mj_H} {l5 l6 l7 l8 : Option Value} {Q : mj_R → Prop} (hi : 0 ≤ i ∧ i + 6 ≤ Lx) (hL : Lx ≤ 3072) (I : jLi cK cL cR (.inl (100, Lx, fun j => .int (xs j))) 571 563 n tm er T h) (X : jcx er tm T h) (Y : YX tm er T h) (k : ∀ (n' : Nat) (tm' er' : Int) (T' : Nat → Int) (h' : mj_H) (l5 l6 l7 l8 : Option Value), n ≤ n' → n' ≤ n + 1 → jLi cK cL cR (.inl (100, Lx, fun j => .int (xs j))) 571 563 n' tm' er' T' h' → jcx er' tm' T' h' → YX tm' er' T' h' → mj_T 100 mj_mK 2100 [some (.ref 0), some (.ref 1), some (.ref 563), some (.ref 571), some (.int (jn i)), l5, l6, l7, l8] [] h' Q) : mj_T 100 mj_mK 1897 [some (.ref 0), some (.ref 1), some (.ref 563), some (.ref 571), some (.int (jn i)), l5, l6, l7, l8] [] h Q := by
  obtain ⟨N0, u0, H0, hr0, s0, E0, J0⟩ := Y
  have A0 := J0.AS
  obtain ⟨t0, rfl⟩ : ∃ t0 : Nat, tm = (t0 : Int) := ⟨tm.toNat, by have := I.1.1.2.1; omega⟩
  have ht := I.1.1.2.1
  refine mj_T.pl rfl rfl rfl rfl ?_
  refine jL.arg (k := 1) I.2.1 hi hL ⟨by decide, by decide⟩ rfl rfl rfl rfl rfl ?_
  refine mj_T.eq (pc2 := 1904) ?_ rfl rfl rfl rfl
  refine jL.arg (k := 2) I.2.1 hi hL ⟨by decide, by decide⟩ rfl rfl rfl rfl rfl ?_
  refine mj_T.eq (pc2 := 1910) ?_ rfl rfl rfl rfl
  refine jL.arg (k := 3) I.2.1 hi hL ⟨by decide, by decide⟩ rfl rfl rfl rfl rfl ?_
  refine mj_T.eq (pc2 := 1916) ?_ rfl rfl rfl rfl
  refine jL.arg (k := 4) I.2.1 hi hL ⟨by decide, by decide⟩ rfl rfl rfl rfl rfl ?_
  refine mj_T.eq (pc2 := 1922) ?_ rfl rfl rfl rfl
  refine jL.arg (k := 5) I.2.1 hi hL ⟨by decide, by decide⟩ rfl rfl rfl rfl rfl ?_
  refine mj_T.eq (pc2 := 1928) ?_ rfl rfl rfl rfl
  refine mj_T.pl rfl rfl rfl rfl ?_
  refine mj_T.call rfl rfl (Nat.le_of_ble_eq_true rfl) (Nat.le_of_ble_eq_true rfl) rfl rfl (mj_Ok.up (by decide) (mj_Ok.and (mj_Ok.up (by decide) ((jw_344 (D := 0) cTY I.1 ck0.2).and (jv_344 (D := 0) I.1 X))) (jy_344 I.1 (cz_141 s0 I.1.1 (Nat.le_of_eq I.1.1.1) (X.jBuf I.1.1) (by omega))))) (fun v h1 hq => ?_) (fun i' h1 hq => by obtain ⟨hq, _⟩ := hq; obtain ⟨hq, _⟩ := hq; exact (by rcases hq with ⟨_, hq, _⟩ | ⟨_, hq, _⟩ <;> cases hq))
  obtain ⟨hq, qy⟩ := hq
  obtain ⟨hq, qx⟩ := hq
  have X1 := qx
  rcases hq with ⟨ha, hv, w1, f1⟩ | ⟨ha, hv, w1, f1, g, hg, hgq⟩
  · cases hv
    have I1 := I.cls jZ_pl w1 (Nat.le_succ n) f1
    have E1 := E0.frame jZ_pl f1 (by have e1 := I.1.1.1; have e2 := w1.1.1; have e3 := (Nat.le_succ n); omega)
    have X1 := X1.elim (fun a => a.2) (fun a => absurd a.1 (by omega))
    refine mj_T.pl (loc' := [some (.ref 0), some (.ref 1), some (.ref 563), some (.ref 571), some (.int (jn i)), some (.int (jn 1)), l6, l7, l8]) rfl rfl rfl rfl ?_
    refine mj_T.pl rfl rfl rfl rfl ?_
    refine jL.arg (k := 1) I1.2.1 hi hL ⟨by decide, by decide⟩ rfl rfl rfl rfl rfl ?_
    refine mj_T.eq (pc2 := 1941) ?_ rfl rfl rfl rfl
    refine jL.arg (k := 2) I1.2.1 hi hL ⟨by decide, by decide⟩ rfl rfl rfl rfl rfl ?_
    refine mj_T.eq (pc2 := 1947) ?_ rfl rfl rfl rfl
    refine jL.arg (k := 3) I1.2.1 hi hL ⟨by decide, by decide⟩ rfl rfl rfl rfl rfl ?_
    refine mj_T.eq (pc2 := 1953) ?_ rfl rfl rfl rfl
    refine jL.arg (k := 4) I1.2.1 hi hL ⟨by decide, by decide⟩ rfl rfl rfl rfl rfl ?_
    refine mj_T.eq (pc2 := 1959) ?_ rfl rfl rfl rfl
    refine jL.arg (k := 5) I1.2.1 hi hL ⟨by decide, by decide⟩ rfl rfl rfl rfl rfl ?_
    refine mj_T.eq (pc2 := 1965) ?_ rfl rfl rfl rfl
    obtain ⟨fs, ho⟩ := I1.obj
    have hc : mj_Ok 40 285 [.ref 563, .int (xs (i + 1).toNat), .int (xs (i + 2).toNat), .int (xs (i + 3).toNat), .int (xs (i + 4).toNat), .int (xs (i + 5).toNat)] h1 (fun r => ∃ z : Int, r.1 = .inl (some (.int (jn z))) ∧ jLc cK cL cR (.inl (100, Lx, fun j => .int (xs j))) 571 563 (n + 1) (t0 : Int) (t0 : Int) er T r.2) := by
      refine (I1.call jZ_pl (fun hr hI => rp_append hI) (fun r hr => ?_) (fun N => rfl)).to (fun r ⟨r0, hr', a, b, d, s0, e⟩ => ?_)
      · rcases hr with ⟨_, h2, k, rfl⟩ | ⟨_, h2, k, rfl⟩
        · exact ⟨_, _, _, k.to⟩
        · exact ⟨_, _, _, k.to⟩
      · rcases a with ⟨_, h2, k, e2⟩ | ⟨a, _⟩
        · cases e2
          exact ⟨_, b, d, s0, hr', e, k.to⟩
        · omega
    refine mj_T.call rfl rfl (Nat.le_of_ble_eq_true rfl) (Nat.le_of_ble_eq_true rfl) (by simp [mj_recv, ho]) rfl (mj_Ok.up (by decide) (mj_Ok.and (mj_Ok.up (by decide) (hc.qt rfl)) (YX.call (tm' := (t0 : Int)) (er' := er) (T' := T) E1 qy (sameQ.ag _ _ _) ((rx_append J0).to (fun r k => by rcases k with ⟨_, h', k, rfl⟩ | ⟨a, _⟩; exact ⟨_, _, _, ⟨rfl, rfl, rfl⟩, k.to⟩; omega)) (fun N => rfl)))) (fun v h2 hq => ?_) (fun i' h2 hq => by obtain ⟨hq, _⟩ := hq; obtain ⟨hq, _⟩ := hq; exact (by obtain ⟨_, hq, _⟩ := hq; cases hq))
    obtain ⟨hq, Y2⟩ := hq
    obtain ⟨hq, qx⟩ := hq
    have X2 := X1.qt qx
    obtain ⟨z2, hv, I2⟩ := hq
    cases hv
    refine mj_T.pl (loc' := [some (.ref 0), some (.ref 1), some (.ref 563), some (.ref 571), some (.int (jn i)), some (.int (jn 1)), some (.int (jn z2)), l7, l8]) rfl rfl rfl rfl ?_
    refine mj_T.pl rfl rfl rfl rfl ?_
    exact k (n + 1) _ er _ h2 _ _ _ _ (Nat.le_succ n) (Nat.le_refl _) I2 X2 Y2
  · cases hv
    have I1 := I.cls jZ_pl w1 (Nat.le_refl n) f1
    have E1 := E0.frame jZ_pl f1 (by have e1 := I.1.1.1; have e2 := w1.1.1; have e3 := (Nat.le_refl n); omega)
    have X1 := X1.elim (fun a => absurd a.1 (by omega)) (fun a => a.2)
    rw [show ((t0 : Int) + ((jcn (xs (i + 1).toNat) (xs (i + 2).toNat) (xs (i + 3).toNat) (xs (i + 4).toNat) (xs (i + 5).toNat) 20) : Int)) = ((t0 + (jcn (xs (i + 1).toNat) (xs (i + 2).toNat) (xs (i + 3).toNat) (xs (i + 4).toNat) (xs (i + 5).toNat) 20) : Nat) : Int) by omega] at I1
    refine mj_T.pl (loc' := [some (.ref 0), some (.ref 1), some (.ref 563), some (.ref 571), some (.int (jn i)), some (.int (jn 0)), l6, l7, l8]) rfl rfl rfl rfl ?_
    refine mj_T.pl rfl rfl rfl rfl ?_
    refine jL.arg (k := 1) I1.2.1 hi hL ⟨by decide, by decide⟩ rfl rfl rfl rfl rfl ?_
    refine mj_T.eq (pc2 := 1941) ?_ rfl rfl rfl rfl
    refine jL.arg (k := 2) I1.2.1 hi hL ⟨by decide, by decide⟩ rfl rfl rfl rfl rfl ?_
    refine mj_T.eq (pc2 := 1947) ?_ rfl rfl rfl rfl
    refine jL.arg (k := 3) I1.2.1 hi hL ⟨by decide, by decide⟩ rfl rfl rfl rfl rfl ?_
    refine mj_T.eq (pc2 := 1953) ?_ rfl rfl rfl rfl
    refine jL.arg (k := 4) I1.2.1 hi hL ⟨by decide, by decide⟩ rfl rfl rfl rfl rfl ?_
    refine mj_T.eq (pc2 := 1959) ?_ rfl rfl rfl rfl
    refine jL.arg (k := 5) I1.2.1 hi hL ⟨by decide, by decide⟩ rfl rfl rfl rfl rfl ?_
    refine mj_T.eq (pc2 := 1965) ?_ rfl rfl rfl rfl
    obtain ⟨fs, ho⟩ := I1.obj
    have hc : mj_Ok 40 285 [.ref 563, .int (xs (i + 1).toNat), .int (xs (i + 2).toNat), .int (xs (i + 3).toNat), .int (xs (i + 4).toNat), .int (xs (i + 5).toNat)] h1 (fun r => ∃ z : Int, r.1 = .inl (some (.int (jn z))) ∧ jLc cK cL cR (.inl (100, Lx, fun j => .int (xs j))) 571 563 n ((t0 + (jcn (xs (i + 1).toNat) (xs (i + 2).toNat) (xs (i + 3).toNat) (xs (i + 4).toNat) (xs (i + 5).toNat) 20) : Nat) : Int) ((t0 + (jcn (xs (i + 1).toNat) (xs (i + 2).toNat) (xs (i + 3).toNat) (xs (i + 4).toNat) (xs (i + 5).toNat) 20) : Nat) : Int) er (apT (xs (i + 1).toNat) (xs (i + 2).toNat) (xs (i + 3).toNat) (xs (i + 4).toNat) (xs (i + 5).toNat) t0 T 20) r.2) := by
      refine (I1.call jZ_pl (fun hr hI => rp_append hI) (fun r hr => ?_) (fun N => rfl)).to (fun r ⟨r0, hr', a, b, d, s0, e⟩ => ?_)
      · rcases hr with ⟨_, h2, k, rfl⟩ | ⟨_, h2, k, rfl⟩
        · exact ⟨_, _, _, k.to⟩
        · exact ⟨_, _, _, k.to⟩
      · rcases a with ⟨a, _⟩ | ⟨_, h2, k, e2⟩
        · omega
        · cases e2
          exact ⟨_, b, d, s0, hr', e, k.to⟩
    refine mj_T.call rfl rfl (Nat.le_of_ble_eq_true rfl) (Nat.le_of_ble_eq_true rfl) (by simp [mj_recv, ho]) rfl (mj_Ok.up (by decide) (mj_Ok.and (mj_Ok.up (by decide) (hc.qt rfl)) (YX.call (tm' := ((t0 + jcn (xs (i + 1).toNat) (xs (i + 2).toNat) (xs (i + 3).toNat) (xs (i + 4).toNat) (xs (i + 5).toNat) 20 : Nat) : Int)) (er' := er) (T' := apT (xs (i + 1).toNat) (xs (i + 2).toNat) (xs (i + 3).toNat) (xs (i + 4).toNat) (xs (i + 5).toNat) t0 T 20) E1 qy (sameQ.ag _ _ _) ((rx_append J0).to (fun r k => by rcases k with ⟨a, _⟩ | ⟨_, h', k, rfl⟩; omega; exact ⟨_, _, _, ⟨rfl, rfl, rfl⟩, k.to⟩)) (fun N => rfl)))) (fun v h2 hq => ?_) (fun i' h2 hq => by obtain ⟨hq, _⟩ := hq; obtain ⟨hq, _⟩ := hq; exact (by obtain ⟨_, hq, _⟩ := hq; cases hq))
    obtain ⟨hq, Y2⟩ := hq
    obtain ⟨hq, qx⟩ := hq
    have X2 := X1.qt qx
    obtain ⟨z2, hv, I2⟩ := hq
    cases hv
    refine mj_T.pl (loc' := [some (.ref 0), some (.ref 1), some (.ref 563), some (.ref 571), some (.int (jn i)), some (.int (jn 0)), some (.int (jn z2)), l7, l8]) rfl rfl rfl rfl ?_
    refine mj_T.pl rfl rfl rfl rfl ?_
    exact k n _ er _ h2 _ _ _ _ (Nat.le_refl n) (Nat.le_succ n) I2 X2 Y2
/-! Rounds of the law. -/
theorem jf2d : ∀ k, k < 10 → FP.f2d (FP.fdiv (FP.i2f (Int32.ofNat k)) (UInt32.ofNat 1086324736)) &&& 0x7fffffffffffffff ≤ 0x7ff0000000000000 := by decide +kernel
theorem jL_44 {n Lx : Nat} {xs : Nat → Int32} {tm er i : Int} {T : Nat → Int} {h : mj_H} {l5 l6 l7 l8 : Option Value} {Q : mj_R → Prop} (hi : 0 ≤ i ∧ i + 6 ≤ Lx) (hL : Lx ≤ 3072) (I : jLi cK cL cR (.inl (100, Lx, fun j => .int (xs j))) 571 563 n tm er T h) (X : jcx er tm T h) (Y : YX tm er T h) (k : ∀ (n' : Nat) (tm' er' : Int) (T' : Nat → Int) (h' : mj_H) (l5 l6 l7 l8 : Option Value), n ≤ n' → n' ≤ n + 1 → jLi cK cL cR (.inl (100, Lx, fun j => .int (xs j))) 571 563 n' tm' er' T' h' → jcx er' tm' T' h' → YX tm' er' T' h' → mj_T 100 mj_mK 2100 [some (.ref 0), some (.ref 1), some (.ref 563), some (.ref 571), some (.int (jn i)), l5, l6, l7, l8] [] h' Q) : mj_T 100 mj_mK 2055 [some (.ref 0), some (.ref 1), some (.ref 563), some (.ref 571), some (.int (jn i)), l5, l6, l7, l8] [] h Q := by
  obtain ⟨N0, u0, H0, hr0, s0, E0, J0⟩ := Y
  have A0 := J0.AS
  refine mj_T.pl rfl rfl rfl rfl ?_
  refine mj_T.call rfl rfl (Nat.le_of_ble_eq_true rfl) (Nat.le_of_ble_eq_true rfl) (jrv_of I.1.1 ck0.2 (by decide) rfl (by decide) rfl _) rfl (mj_Ok.up (by decide) (mj_Ok.and (mj_Ok.up (by decide) ((mj_Ok.to (jc_146 (D := 0) cTY (Nat.le_of_eq I.1.1.1) I.1.1 ck0.2) (fun _ k => jQp.toQ I.1.1 k)).qt rfl)) (yr_146 A0 s0 I.1))) (fun v h1 hq => ?_) (fun i' h1 hq => by obtain ⟨hq, _⟩ := hq; obtain ⟨hq, _⟩ := hq; exact (absurd hq.1 (by simp)))
  obtain ⟨hq, qy⟩ := hq
  obtain ⟨hq, qx⟩ := hq
  have X1 := X.qt qx
  obtain ⟨⟨x, rfl⟩, o1⟩ := hq
  have I1 := I.cls jZ_pl (I.1.thr o1) (Nat.le_refl n) (jLf.of o1)
  have E1 := E0.frame jZ_pl (jLf.of o1) (by have e1 := I.1.1.1; have e2 := (I.1.thr o1).1.1; have e3 := (Nat.le_refl n); omega)
  refine mj_T.pl (loc' := [some (.ref 0), some (.ref 1), some (.ref 563), some (.ref 571), some (.int (jn i)), some (.double x), none, l7, l8]) rfl rfl rfl rfl ?_
  refine mj_T.pl rfl rfl rfl rfl ?_
  obtain ⟨fs, ho⟩ := I1.obj
  have hc : mj_Ok 40 307 [.ref 563] h1 (fun r => ∃ x2, r.1 = .inl (some (.double x2)) ∧ jLc cK cL cR (.inl (100, Lx, fun j => .int (xs j))) 571 563 n tm tm er T r.2) := by
    refine (I1.call jZ_pl (fun hr hI => rp_meanTerms hI) (fun r hr => ?_) (fun N => rfl)).to (fun r ⟨r0, hr', a, b, d, s0, e⟩ => ?_)
    · obtain ⟨x2, h2, rfl, k⟩ := hr
      exact ⟨_, _, _, k⟩
    · obtain ⟨x2, h2, e2, k⟩ := a
      cases e2
      exact ⟨_, b, d, s0, hr', e, k⟩
  refine mj_T.call rfl rfl (Nat.le_of_ble_eq_true rfl) (Nat.le_of_ble_eq_true rfl) (by simp [mj_recv, ho]) rfl (mj_Ok.up (by decide) (mj_Ok.and (mj_Ok.up (by decide) (hc.qt rfl)) (YX.call (tm' := tm) (er' := er) (T' := T) E1 qy (sameQ.ag _ _ _) ((rx_meanTerms J0).to (fun r k => rDx.z k ⟨rfl, rfl, rfl⟩)) (fun N => rfl)))) (fun v h2 hq => ?_) (fun i' h2 hq => by obtain ⟨hq, _⟩ := hq; obtain ⟨hq, _⟩ := hq; exact (by obtain ⟨_, hq, _⟩ := hq; cases hq))
  obtain ⟨hq, Y2⟩ := hq
  obtain ⟨hq, qx⟩ := hq
  have X2 := X1.qt qx
  obtain ⟨x2, hv, I2⟩ := hq
  cases hv
  refine mj_T.pl (loc' := [some (.ref 0), some (.ref 1), some (.ref 563), some (.ref 571), some (.int (jn i)), some (.double x), none, some (.double x2), none]) rfl rfl rfl rfl ?_
  refine mj_T.pl rfl rfl rfl rfl ?_
  exact k n tm er T h2 _ _ _ _ (Nat.le_refl n) (Nat.le_succ n) I2 X2 Y2
/-! The round of usedShare. -/
def rE2 (tm er : Int) (T : Nat → Int) (r : mj_R) : Prop := ∃ (z : UInt32) (h' : mj_H), (FP.f2d z &&& 0x7fffffffffffffff ≤ 0x7ff0000000000000) ∧ r = (.inl (some (.float z)), h') ∧ jI tm er T h'
theorem rp_f2 : ∀ n, n < 79 → FP.f2d (FP.fdiv (FP.i2f (jn (n : Nat))) 1086324736) &&& 0x7fffffffffffffff ≤ 0x7ff0000000000000 := by decide +kernel
section RPU2
variable {tm er : Int} {T : Nat → Int} {h : mj_H}
theorem rp_usedShare2_loop {S N B X V : Nat → Int} (hs : rS S N B T X V h) (K : jK tm er S N B T) :
    ∀ (m k c : Nat), k + m = 6 → c ≤ 13 * k → mj_T 39 mj_m308 9 [some (.ref 0), some (.int (jn (c : Int))), some (.int (jn (k : Int)))] [] h (rE2 tm er T) := by
  intro m
  induction m with
  | zero =>
    intro k c hk hcb
    have hk : k = 6 := by omega
    subst hk
    iterate 2 refine mj_T.pl rfl rfl rfl rfl ?_
    refine mj_T.icmp (a := ((6 : Nat) : Int)) (b := 6) rfl ⟨by decide, by decide⟩ ⟨by decide, by decide⟩ (fun hc => ?_) (fun hc => ?_)
    · iterate 3 refine mj_T.pl rfl rfl rfl rfl ?_
      refine mj_T.fdv rfl (rp_ff c (by omega)) ?_
      exact mj_T.ret rfl rfl rfl ⟨_, h, rp_f2 c (by omega), rfl, ⟨_, _, _, _, _, hs, K⟩⟩
    · simp [jc] at hc
  | succ m ih =>
    intro k c hk hcb
    iterate 2 refine mj_T.pl rfl rfl rfl rfl ?_
    refine mj_T.icmp (a := (k : Int)) (b := 6) rfl ⟨by omega, by omega⟩ ⟨by decide, by decide⟩ (fun hc => ?_) (fun hc => ?_)
    · simp only [jc, decide_eq_true_eq] at hc
      omega
    iterate 3 refine mj_T.pl rfl rfl rfl rfl ?_
    refine mj_T.call (ins := .invokevirtual 232) rfl rfl (Nat.le_of_ble_eq_true rfl) (Nat.le_of_ble_eq_true rfl) (by simp [mj_recv, rS_f hs]) rfl (mj_Ok.up (by decide) (rp_isZero (D := 0) (r := k) (by omega) K.nR hs)) (fun v' h' hq' => ?_) (fun i h' hq' => by rcases hq' with ⟨_, h⟩ | ⟨_, h⟩ <;> cases h)
    rcases hq' with ⟨_, hq'⟩ | ⟨_, hq'⟩
    · cases hq'
      refine mj_T.if0 (a := 1) rfl ⟨by decide, by decide⟩ (fun hc => ?_) (fun hc => ?_)
      · simp [jc] at hc
      iterate 2 refine mj_T.pl rfl rfl rfl rfl ?_
      refine mj_T.iadd (a := (c : Int)) (b := 0) rfl ?_
      rw [show (c : Int) + 0 = ((c + 0 : Nat) : Int) by omega]
      refine mj_T.pl rfl rfl rfl rfl ?_
      refine mj_T.iinc (a := (k : Int)) rfl rfl ?_
      refine mj_T.pl rfl rfl rfl rfl ?_
      exact ih (k + 1) _ (by omega) (by omega)
    · cases hq'
      refine mj_T.if0 (a := 0) rfl ⟨by decide, by decide⟩ (fun hc => ?_) (fun hc => ?_)
      rotate_left
      · simp [jc] at hc
      refine mj_T.pl rfl rfl rfl rfl ?_
      refine mj_T.iadd (a := (c : Int)) (b := 1) rfl ?_
      rw [show (c : Int) + 1 = ((c + 1 : Nat) : Int) by omega]
      refine mj_T.pl rfl rfl rfl rfl ?_
      refine mj_T.iinc (a := (k : Int)) rfl rfl ?_
      refine mj_T.pl rfl rfl rfl rfl ?_
      exact ih (k + 1) _ (by omega) (by omega)
theorem rp_usedShare2  (hI : jI tm er T h) : mj_Ok 40 308 [.ref 0] h (rE2 tm er T) := by
  refine mj_Ok.of (M := mj_m308) rfl rfl rfl ?_
  obtain ⟨S, N, B, X, V, hs, K⟩ := hI
  iterate 2 refine mj_T.pl rfl rfl rfl rfl ?_
  refine rT_put (v := 0) hs rfl rfl (by decide) rfl (fun g6 hs6 => ?_)
  have K6 := K.put (k := 3) (v := 0) ⟨by decide, by decide⟩ (by decide) (by decide) (by decide) (by decide) (by decide)
  generalize jvu S 3 0 = S6 at hs6 K6
  iterate 4 refine mj_T.pl rfl rfl rfl rfl ?_
  exact rp_usedShare2_loop hs6 K6 6 0 0 (by omega) (by decide)
end RPU2
theorem jL_45 {n Lx : Nat} {xs : Nat → Int32} {tm er i : Int} {T : Nat → Int} {h : mj_H} {l5 l6 l7 l8 : Option Value} {Q : mj_R → Prop} (hi : 0 ≤ i ∧ i + 6 ≤ Lx) (hL : Lx ≤ 3072) (I : jLi cK cL cR (.inl (100, Lx, fun j => .int (xs j))) 571 563 n tm er T h) (X : jcx er tm T h) (Y : YX tm er T h) (k : ∀ (n' : Nat) (tm' er' : Int) (T' : Nat → Int) (h' : mj_H) (l5 l6 l7 l8 : Option Value), n ≤ n' → n' ≤ n + 1 → jLi cK cL cR (.inl (100, Lx, fun j => .int (xs j))) 571 563 n' tm' er' T' h' → jcx er' tm' T' h' → YX tm' er' T' h' → mj_T 100 mj_mK 2100 [some (.ref 0), some (.ref 1), some (.ref 563), some (.ref 571), some (.int (jn i)), l5, l6, l7, l8] [] h' Q) : mj_T 100 mj_mK 2070 [some (.ref 0), some (.ref 1), some (.ref 563), some (.ref 571), some (.int (jn i)), l5, l6, l7, l8] [] h Q := by
  obtain ⟨N0, u0, H0, hr0, s0, E0, J0⟩ := Y
  have A0 := J0.AS
  refine mj_T.pl rfl rfl rfl rfl ?_
  refine mj_T.call rfl rfl (Nat.le_of_ble_eq_true rfl) (Nat.le_of_ble_eq_true rfl) (jrv_of I.1.1 ck0.2 (by decide) rfl (by decide) rfl _) rfl (mj_Ok.up (by decide) (mj_Ok.and (mj_Ok.up (by decide) ((mj_Ok.to (jc_147 (D := 0) cTY (Nat.le_of_eq I.1.1.1) I.1.1 ck0.2) (fun _ k => jQp.toQ I.1.1 k)).qt rfl)) (yr_147 A0 s0 I.1))) (fun v h1 hq => ?_) (fun i' h1 hq => by obtain ⟨hq, _⟩ := hq; obtain ⟨hq, _⟩ := hq; exact (absurd hq.1 (by simp)))
  obtain ⟨hq, qy⟩ := hq
  obtain ⟨hq, qx⟩ := hq
  have X1 := X.qt qx
  obtain ⟨⟨kk, hkk, rfl⟩, o1⟩ := hq
  have hf := jf2d kk hkk
  have I1 := I.cls jZ_pl (I.1.thr o1) (Nat.le_refl n) (jLf.of o1)
  have E1 := E0.frame jZ_pl (jLf.of o1) (by have e1 := I.1.1.1; have e2 := (I.1.thr o1).1.1; have e3 := (Nat.le_refl n); omega)
  refine mj_T.step (pc' := 2075) (loc' := [some (.ref 0), some (.ref 1), some (.ref 563), some (.ref 571), some (.int (jn i)), l5, l6, l7, l8]) (st' := [.double (FP.f2d (FP.fdiv (FP.i2f (Int32.ofNat kk)) (UInt32.ofNat 1086324736)))]) (h' := h1) rfl rfl (by simp only [mj_step]; exact if_pos hf) ?_
  refine mj_T.pl (loc' := [some (.ref 0), some (.ref 1), some (.ref 563), some (.ref 571), some (.int (jn i)), some (.double (FP.f2d (FP.fdiv (FP.i2f (Int32.ofNat kk)) (UInt32.ofNat 1086324736)))), none, l7, l8]) rfl rfl rfl rfl ?_
  refine mj_T.pl rfl rfl rfl rfl ?_
  obtain ⟨fs, ho⟩ := I1.obj
  have hc : mj_Ok 40 308 [.ref 563] h1 (fun r => ∃ x2, (FP.f2d x2 &&& 0x7fffffffffffffff ≤ 0x7ff0000000000000) ∧ r.1 = .inl (some (.float x2)) ∧ jLc cK cL cR (.inl (100, Lx, fun j => .int (xs j))) 571 563 n tm tm er T r.2) := by
    refine (I1.call jZ_pl (fun hr hI => rp_usedShare2 hI) (fun r hr => ?_) (fun N => rfl)).to (fun r ⟨r0, hr', a, b, d, s0, e⟩ => ?_)
    · obtain ⟨k2, h2, _, rfl, k⟩ := hr
      exact ⟨_, _, _, k⟩
    · obtain ⟨k2, h2, hk2, e2, k⟩ := a
      cases e2
      exact ⟨_, hk2, b, d, s0, hr', e, k⟩
  refine mj_T.call rfl rfl (Nat.le_of_ble_eq_true rfl) (Nat.le_of_ble_eq_true rfl) (by simp [mj_recv, ho]) rfl (mj_Ok.up (by decide) (mj_Ok.and (mj_Ok.up (by decide) (hc.qt rfl)) (YX.call (tm' := tm) (er' := er) (T' := T) E1 qy (sameQ.ag _ _ _) ((rx_usedShare J0).to (fun r k => rEx.z k ⟨rfl, rfl, rfl⟩)) (fun N => rfl)))) (fun v h2 hq => ?_) (fun i' h2 hq => by obtain ⟨hq, _⟩ := hq; obtain ⟨hq, _⟩ := hq; exact (by obtain ⟨_, _, hq, _⟩ := hq; cases hq))
  obtain ⟨hq, Y2⟩ := hq
  obtain ⟨hq, qx⟩ := hq
  have X2 := X1.qt qx
  obtain ⟨x2, hf2, hv, I2⟩ := hq
  cases hv
  refine mj_T.step (pc' := 2082) (loc' := [some (.ref 0), some (.ref 1), some (.ref 563), some (.ref 571), some (.int (jn i)), some (.double (FP.f2d (FP.fdiv (FP.i2f (Int32.ofNat kk)) (UInt32.ofNat 1086324736)))), none, l7, l8]) (st' := [.double (FP.f2d x2)]) (h' := h2) rfl rfl (by simp only [mj_step]; exact if_pos hf2) ?_
  refine mj_T.pl (loc' := [some (.ref 0), some (.ref 1), some (.ref 563), some (.ref 571), some (.int (jn i)), some (.double (FP.f2d (FP.fdiv (FP.i2f (Int32.ofNat kk)) (UInt32.ofNat 1086324736)))), none, some (.double (FP.f2d x2)), none]) rfl rfl rfl rfl ?_
  refine mj_T.pl rfl rfl rfl rfl ?_
  exact k n tm er T h2 _ _ _ _ (Nat.le_refl n) (Nat.le_succ n) I2 X2 Y2
theorem jL_31 {n Lx : Nat} {xs : Nat → Int32} {tm er i : Int} {T : Nat → Int} {h : mj_H} {l5 l6 l7 l8 : Option Value} {Q : mj_R → Prop} (hi : 0 ≤ i ∧ i + 6 ≤ Lx) (hL : Lx ≤ 3072) (I : jLi cK cL cR (.inl (100, Lx, fun j => .int (xs j))) 571 563 n tm er T h) (X : jcx er tm T h) (Y : YX tm er T h) (k : ∀ (n' : Nat) (tm' er' : Int) (T' : Nat → Int) (h' : mj_H) (l5 l6 l7 l8 : Option Value), n ≤ n' → n' ≤ n + 1 → jLi cK cL cR (.inl (100, Lx, fun j => .int (xs j))) 571 563 n' tm' er' T' h' → jcx er' tm' T' h' → YX tm' er' T' h' → mj_T 100 mj_mK 2100 [some (.ref 0), some (.ref 1), some (.ref 563), some (.ref 571), some (.int (jn i)), l5, l6, l7, l8] [] h' Q) : mj_T 100 mj_mK 1576 [some (.ref 0), some (.ref 1), some (.ref 563), some (.ref 571), some (.int (jn i)), l5, l6, l7, l8] [] h Q := by
  obtain ⟨N0, u0, H0, hr0, s0, E0, J0⟩ := Y
  have A0 := J0.AS
  refine mj_T.pl rfl rfl rfl rfl ?_
  refine jL.arg (k := 1) I.2.1 hi hL ⟨by decide, by decide⟩ rfl rfl rfl rfl rfl ?_
  refine jT.asJ ?_
  refine mj_T.eq (pc2 := 1583) ?_ rfl rfl rfl rfl
  refine mj_T.pl rfl rfl rfl rfl ?_
  refine mj_T.call rfl rfl (Nat.le_of_ble_eq_true rfl) (Nat.le_of_ble_eq_true rfl) rfl rfl (mj_Ok.up (by decide) (mj_Ok.and (mj_Ok.up (by decide) ((jw_337 (D := 0) cTY I.1 ck0.2 (jr_of' _)).qt rfl)) (jz_337 I.1 (jr_of' _) ((yr_133 A0 s0 I.1 (jr_of' _)).and (cv_133 A0 s0 (jr_of' _)))))) (fun v h1 hq => ?_) (fun i' h1 hq => by obtain ⟨hq, _⟩ := hq; obtain ⟨hq, _⟩ := hq; exact (by obtain ⟨_, hq, _⟩ := hq; cases hq))
  obtain ⟨hq, cc, zz, qa, jcc, qv, qc, qy⟩ := hq
  obtain ⟨hq, qx⟩ := hq
  have X1 := X.qt qx
  have qv : (Sum.inl v : Option Value ⊕ Nat) = .inl (some (.int (jn cc))) := qv
  cases qv
  obtain ⟨_, _, ⟨n1, hn1, hn2, w1⟩, f1⟩ := hq
  have hl : 571 < h1.length := by
    obtain ⟨f9, e9⟩ := w1.2.2
    exact (List.getElem?_eq_some_iff.mp e9).1
  have I1 := I.cls jZ_pl w1 hn1 f1
  have E1 := E0.frame jZ_pl f1 (by have e1 := I.1.1.1; have e2 := w1.1.1; have e3 := hn1; omega)
  refine mj_T.pl (loc' := [some (.ref 0), some (.ref 1), some (.ref 563), some (.ref 571), some (.int (jn i)), some (.int (jn cc)), l6, l7, l8]) rfl rfl rfl rfl ?_
  refine mj_T.pl rfl rfl rfl rfl ?_
  refine jL.arg (k := 1) I1.2.1 hi hL ⟨by decide, by decide⟩ rfl rfl rfl rfl rfl ?_
  refine jT.asJ ?_
  refine mj_T.eq (pc2 := 1596) ?_ rfl rfl rfl rfl
  obtain ⟨fs, ho⟩ := I1.obj
  refine mj_T.call rfl rfl (Nat.le_of_ble_eq_true rfl) (Nat.le_of_ble_eq_true rfl) (by simp [mj_recv, ho]) rfl (mj_Ok.up (by decide) (mj_Ok.and (mj_Ok.up (by decide) ((I1.callI jZ_pl (fun hr hI => rp_sturmLength (jr_of _) hI) (fun N => rfl)).qt rfl)) (YX.calla (tm' := tm) (er' := er) (T' := T) E1 hl qy (sameQ.ag _ _ _) (ga_sturmLength (jr_of _) J0) (fun N => rfl)))) (fun v h2 hq => ?_) (fun i' h2 hq => by obtain ⟨hq, _⟩ := hq; obtain ⟨hq, _⟩ := hq; exact (by obtain ⟨_, hq, _⟩ := hq; cases hq))
  obtain ⟨hq, c2, zz2, qb, jz2, v2, Yt, fq⟩ := hq
  obtain ⟨hq, qx⟩ := hq
  have X2 := X1.qt qx
  have v2 : (Sum.inl v : Option Value ⊕ Nat) = .inl (some (.int (jn zz2))) := v2
  cases v2
  obtain ⟨_, _, I2⟩ := hq
  refine mj_T.pl (loc' := [some (.ref 0), some (.ref 1), some (.ref 563), some (.ref 571), some (.int (jn i)), some (.int (jn cc)), some (.int (jn zz2)), l7, l8]) rfl rfl rfl rfl ?_
  refine mj_T.pl rfl rfl rfl rfl ?_
  obtain ⟨fs2, ho2⟩ := I2.obj
  refine mj_T.call rfl rfl (Nat.le_of_ble_eq_true rfl) (Nat.le_of_ble_eq_true rfl) (by simp [mj_recv, ho2]) rfl (mj_Ok.up (by decide) (Yt.thrown (D := 0))) (fun v h3 hq => ?_) (fun i' h3 hq => by cases hq)
  cases hq
  refine mj_T.pl rfl rfl rfl rfl ?_
  obtain ⟨e1, e2⟩ := A_sturmLength.ag qa qb
  subst e1
  have j1 := jcc.1
  have j2 := jcc.2
  refine jT.icmp (a := cc) (b := cc) rfl ⟨by omega, by omega⟩ ⟨by omega, by omega⟩ (fun _ => ?_) (fun q => by simp [jc] at q)
  refine mj_T.pl rfl rfl rfl rfl ?_
  refine jT.if0 (a := cc) rfl ⟨by omega, by omega⟩ (fun _ => ?_) (fun q => ?_)
  · refine mj_T.pl rfl rfl rfl rfl ?_
    exact k n1 tm er T h2 _ _ _ _ hn1 hn2 I2 X2 Yt.to
  · simp only [jc, Bool.not_eq_true', Bool.not_eq_false', decide_eq_true_eq, decide_eq_false_iff_not] at q
    have hz : cc = 0 := by omega
    obtain ⟨jzz, f9, c9, f0⟩ := qc hz
    have ez := e2 hz
    subst ez
    iterate 2 refine mj_T.pl rfl rfl rfl rfl ?_
    have hq3 : h2[571]? = some (.inl (1, 1, f9)) := fq.trans c9
    refine mj_T.step (st' := [.long (jl zz)]) rfl rfl (by simp only [mj_step, hq3]; rw [← f0]; rfl) ?_
    refine mj_T.pl rfl rfl rfl rfl ?_
    refine mj_T.i2l rfl jz2 ?_
    refine mj_T.lif (a := zz) (b := zz) rfl rfl jzz jzz (fun _ => ?_) (fun q => by simp [jc] at q)
    refine mj_T.pl rfl rfl rfl rfl ?_
    exact k n1 tm er T h2 _ _ _ _ hn1 hn2 I2 X2 Yt.to
/-! The law's loop. -/
theorem jL_sw {D : Nat} {loc : mj_L} {st : List Value} {h : mj_H} {Q : mj_R → Prop} {x : Int32} {pc' : Nat} (kk : Int) (hx : x.toInt = kk) (hp : (if kk < 0 ∨ 46 < kk then (if (0 : Int) ≤ (40 : Nat) + 2060 then some ((((40 : Nat) : Int) + 2060).toNat) else none) else match (#[204, 256, 308, 360, 412, 452, 504, 568, 620, 660, 700, 752, 836, 864, 904, 917, 945, 958, 986, 1014, 1054, 1094, 1122, 1174, 1214, 1254, 1294, 1335, 1391, 1432, 1460, 1536, 1592, 1644, 1696, 1724, 1764, 1804, 1844, 1857, 1933, 1946, 1959, 1987, 2015, 2030, 2047] : Array Int)[(kk - 0).toNat]? with | some off => (if 0 ≤ ((40 : Nat) : Int) + off then some ((((40 : Nat) : Int) + off).toNat) else none) | none => none) = some pc') (k : mj_T D mj_mK pc' loc st h Q) : mj_T D mj_mK 40 loc (.int x :: st) h Q := by
  refine mj_T.step (pc' := pc') (loc' := loc) (st' := st) (h' := h) rfl rfl ?_ k
  subst hx
  simp only [mj_step]
  revert hp
  split
  · intro hp
    split at hp
    · cases hp; rfl
    · cases hp
  · intro hp
    split at hp
    · rename_i off he
      rw [he]
      simp only
      split at hp
      · cases hp; rename_i q; rw [if_pos q]
      · cases hp
    · cases hp
theorem jL_and (x : Int32) : 0 ≤ (x &&& jn 63).toInt ∧ (x &&& jn 63).toInt ≤ 63 := by
  have h1 : (x &&& jn 63).toBitVec.toNat = x.toBitVec.toNat % 64 := by
    rw [Int32.toBitVec_and, BitVec.toNat_and, show (jn 63).toBitVec.toNat = 2 ^ 6 - 1 from by decide, Nat.and_two_pow_sub_one_eq_mod]
  have h2 : (x &&& jn 63).toInt = ((x &&& jn 63).toBitVec.toNat : Int) := by
    show (x &&& jn 63).toBitVec.toInt = _
    rw [BitVec.toInt_eq_toNat_cond, if_pos (by rw [h1]; omega)]
  rw [h2, h1]
  omega
theorem jL_round {n Lx : Nat} {xs : Nat → Int32} {tm er i : Int} {T : Nat → Int} {h : mj_H} {l5 l6 l7 l8 : Option Value} {Q : mj_R → Prop} (hi : 0 ≤ i ∧ i + 6 ≤ Lx) (hL : Lx ≤ 3072) (I : jLi cK cL cR (.inl (100, Lx, fun j => .int (xs j))) 571 563 n tm er T h) (X : jcx er tm T h) (Y : YX tm er T h) (k : ∀ (n' : Nat) (tm' er' : Int) (T' : Nat → Int) (h' : mj_H) (l5 l6 l7 l8 : Option Value), n ≤ n' → n' ≤ n + 1 → jLi cK cL cR (.inl (100, Lx, fun j => .int (xs j))) 571 563 n' tm' er' T' h' → jcx er' tm' T' h' → YX tm' er' T' h' → mj_T 100 mj_mK 2100 [some (.ref 0), some (.ref 1), some (.ref 563), some (.ref 571), some (.int (jn i)), l5, l6, l7, l8] [] h' Q) {x : Int32} (hx : 0 ≤ x.toInt ∧ x.toInt ≤ 63) : mj_T 100 mj_mK 40 [some (.ref 0), some (.ref 1), some (.ref 563), some (.ref 571), some (.int (jn i)), l5, l6, l7, l8] [.int x] h Q := by
  have hc : x.toInt = 0 ∨ x.toInt = 1 ∨ x.toInt = 2 ∨ x.toInt = 3 ∨ x.toInt = 4 ∨ x.toInt = 5 ∨ x.toInt = 6 ∨ x.toInt = 7 ∨ x.toInt = 8 ∨ x.toInt = 9 ∨ x.toInt = 10 ∨ x.toInt = 11 ∨ x.toInt = 12 ∨ x.toInt = 13 ∨ x.toInt = 14 ∨ x.toInt = 15 ∨ x.toInt = 16 ∨ x.toInt = 17 ∨ x.toInt = 18 ∨ x.toInt = 19 ∨ x.toInt = 20 ∨ x.toInt = 21 ∨ x.toInt = 22 ∨ x.toInt = 23 ∨ x.toInt = 24 ∨ x.toInt = 25 ∨ x.toInt = 26 ∨ x.toInt = 27 ∨ x.toInt = 28 ∨ x.toInt = 29 ∨ x.toInt = 30 ∨ x.toInt = 31 ∨ x.toInt = 32 ∨ x.toInt = 33 ∨ x.toInt = 34 ∨ x.toInt = 35 ∨ x.toInt = 36 ∨ x.toInt = 37 ∨ x.toInt = 38 ∨ x.toInt = 39 ∨ x.toInt = 40 ∨ x.toInt = 41 ∨ x.toInt = 42 ∨ x.toInt = 43 ∨ x.toInt = 44 ∨ x.toInt = 45 ∨ x.toInt = 46 ∨ 47 ≤ x.toInt := by omega
  rcases hc with c | c | c | c | c | c | c | c | c | c | c | c | c | c | c | c | c | c | c | c | c | c | c | c | c | c | c | c | c | c | c | c | c | c | c | c | c | c | c | c | c | c | c | c | c | c | c | c
  · exact jL_sw 0 c rfl (jL_0 hi hL I X Y k)
  · exact jL_sw 1 c rfl (jL_1 hi hL I X Y k)
  · exact jL_sw 2 c rfl (jL_2 hi hL I X Y k)
  · exact jL_sw 3 c rfl (jL_3 hi hL I X Y k)
  · exact jL_sw 4 c rfl (jL_4 hi hL I X Y k)
  · exact jL_sw 5 c rfl (jL_5 hi hL I X Y k)
  · exact jL_sw 6 c rfl (jL_6 hi hL I X Y k)
  · exact jL_sw 7 c rfl (jL_7 hi hL I X Y k)
  · exact jL_sw 8 c rfl (jL_8 hi hL I X Y k)
  · exact jL_sw 9 c rfl (jL_9 hi hL I X Y k)
  · exact jL_sw 10 c rfl (jL_10 hi hL I X Y k)
  · exact jL_sw 11 c rfl (jL_11 hi hL I X Y k)
  · exact jL_sw 12 c rfl (jL_12 hi hL I X Y k)
  · exact jL_sw 13 c rfl (jL_13 hi hL I X Y k)
  · exact jL_sw 14 c rfl (jL_14 hi hL I X Y k)
  · exact jL_sw 15 c rfl (jL_15 hi hL I X Y k)
  · exact jL_sw 16 c rfl (jL_16 hi hL I X Y k)
  · exact jL_sw 17 c rfl (jL_17 hi hL I X Y k)
  · exact jL_sw 18 c rfl (jL_18 hi hL I X Y k)
  · exact jL_sw 19 c rfl (jL_19 hi hL I X Y k)
  · exact jL_sw 20 c rfl (jL_20 hi hL I X Y k)
  · exact jL_sw 21 c rfl (jL_21 hi hL I X Y k)
  · exact jL_sw 22 c rfl (jL_22 hi hL I X Y k)
  · exact jL_sw 23 c rfl (jL_23 hi hL I X Y k)
  · exact jL_sw 24 c rfl (jL_24 hi hL I X Y k)
  · exact jL_sw 25 c rfl (jL_25 hi hL I X Y k)
  · exact jL_sw 26 c rfl (jL_26 hi hL I X Y k)
  · exact jL_sw 27 c rfl (jL_27 hi hL I X Y k)
  · exact jL_sw 28 c rfl (jL_28 hi hL I X Y k)
  · exact jL_sw 29 c rfl (jL_29 hi hL I X Y k)
  · exact jL_sw 30 c rfl (jL_30 hi hL I X Y k)
  · exact jL_sw 31 c rfl (jL_31 hi hL I X Y k)
  · exact jL_sw 32 c rfl (jL_32 hi hL I X Y k)
  · exact jL_sw 33 c rfl (jL_33 hi hL I X Y k)
  · exact jL_sw 34 c rfl (jL_34 hi hL I X Y k)
  · exact jL_sw 35 c rfl (jL_35 hi hL I X Y k)
  · exact jL_sw 36 c rfl (jL_36 hi hL I X Y k)
  · exact jL_sw 37 c rfl (jL_37 hi hL I X Y k)
  · exact jL_sw 38 c rfl (jL_38 hi hL I X Y k)
  · exact jL_sw 39 c rfl (jL_39 hi hL I X Y k)
  · exact jL_sw 40 c rfl (jL_40 hi hL I X Y k)
  · exact jL_sw 41 c rfl (jL_41 hi hL I X Y k)
  · exact jL_sw 42 c rfl (jL_42 hi hL I X Y k)
  · exact jL_sw 43 c rfl (jL_43 hi hL I X Y k)
  · exact jL_sw 44 c rfl (jL_44 hi hL I X Y k)
  · exact jL_sw 45 c rfl (jL_45 hi hL I X Y k)
  · exact jL_sw 46 c rfl (jL_46 hi hL I X Y k)
  · refine jL_sw x.toInt rfl (pc' := 2100) (by rw [if_pos (Or.inr (by omega))]; rfl) ?_
    exact k n tm er T h _ _ _ _ (Nat.le_refl n) (Nat.le_succ n) I X Y
/-! The law's loop, whole. -/
theorem jL_loop {N Lx : Nat} {xs : Nat → Int32} {Q : mj_R → Prop} (hL : Lx ≤ 3072) (hend : ∀ (n' : Nat) (tm' er' : Int) (T' : Nat → Int) (h' : mj_H), n' ≤ N → jLi cK cL cR (.inl (100, Lx, fun j => .int (xs j))) 571 563 n' tm' er' T' h' → Q (.inl (some (.int 1)), h')) : ∀ (r : Nat) {n : Nat} {i tm er : Int} {T : Nat → Int} {h : mj_H} {l5 l6 l7 l8 : Option Value}, 0 ≤ i → (Lx : Int) ≤ i + 6 * r + 5 → i ≤ Lx + 6 → n + r ≤ N → jLi cK cL cR (.inl (100, Lx, fun j => .int (xs j))) 571 563 n tm er T h → jcx er tm T h → YX tm er T h → mj_T 100 mj_mK 23 [some (.ref 0), some (.ref 1), some (.ref 563), some (.ref 571), some (.int (jn i)), l5, l6, l7, l8] [] h Q := by
  intro r
  induction r with
  | zero =>
    intro n i tm er T h l5 l6 l7 l8 h0 h1 h2 hN I X Y
    iterate 2 refine mj_T.pl rfl rfl rfl rfl ?_
    refine mj_T.alen rfl I.2.1 ?_
    refine mj_T.pl rfl rfl rfl rfl ?_
    refine mj_T.isub rfl ?_
    refine jT.icmp (a := i) (b := (Lx : Int) - 6) rfl ⟨by omega, by omega⟩ ⟨by omega, by omega⟩ (fun c => ?_) (fun c => ?_)
    · refine mj_T.pl rfl rfl rfl rfl ?_
      exact mj_T.ret rfl rfl rfl (hend n tm er T h (by omega) I)
    · have c := of_decide_eq_false c
      omega
  | succ r ih =>
    intro n i tm er T h l5 l6 l7 l8 h0 h1 h2 hN I X Y
    iterate 2 refine mj_T.pl rfl rfl rfl rfl ?_
    refine mj_T.alen rfl I.2.1 ?_
    refine mj_T.pl rfl rfl rfl rfl ?_
    refine mj_T.isub rfl ?_
    refine jT.icmp (a := i) (b := (Lx : Int) - 6) rfl ⟨by omega, by omega⟩ ⟨by omega, by omega⟩ (fun c => ?_) (fun c => ?_)
    · refine mj_T.pl rfl rfl rfl rfl ?_
      exact mj_T.ret rfl rfl rfl (hend n tm er T h (by omega) I)
    · have c := of_decide_eq_false c
      iterate 2 refine mj_T.pl rfl rfl rfl rfl ?_
      have hr : jr i := ⟨by omega, by omega⟩
      have hin : mj_in (jn i) Lx = true := by rw [jn_in hr]; exact decide_eq_true ⟨by omega, by omega⟩
      refine mj_T.step (pc' := 37) (loc' := [some (.ref 0), some (.ref 1), some (.ref 563), some (.ref 571), some (.int (jn i)), l5, l6, l7, l8]) (st' := [.int (xs i.toNat)]) (h' := h) rfl rfl (by simp only [mj_step, I.2.1, hin, jn_nat h0 hr, or_true, true_and, if_true]) ?_
      iterate 2 refine mj_T.pl rfl rfl rfl rfl ?_
      refine jL_round ⟨h0, by omega⟩ hL I X Y (fun n' tm' er' T' h' l5' l6' l7' l8' hn hn2 I' X' Y' => ?_) (jL_and _)
      refine mj_T.iinc (a := i) rfl rfl ?_
      refine mj_T.eq (loc2 := [some (.ref 0), some (.ref 1), some (.ref 563), some (.ref 571), some (.int (jn (i + 6))), l5', l6', l7', l8']) ?_ rfl rfl rfl rfl
      refine mj_T.pl rfl rfl rfl rfl ?_
      exact ih (by omega) (by omega) (by omega) (by omega) I' X' Y'
