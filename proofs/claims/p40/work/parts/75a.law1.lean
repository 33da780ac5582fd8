/-! Rounds of the law. -/
theorem jLi.hT {K L : Nat → Nat} {R : Nat → Nat → Nat} {e0 : mj_E} {q m n tm0 : Nat} {er : Int} {T : Nat → Int} {h : mj_H} (I : jLi K L R e0 q m n (tm0 : Int) er T h) : ∀ j : Nat, j < tm0 → 1 ≤ T j ∧ T j ≤ 255 := by
  obtain ⟨_, _, hr, _, S, N, B, X, V, hs, K⟩ := I
  exact fun j hj => K.2.2.2.2.2.2.2.2 j (by omega)
theorem jLi.er {K L : Nat → Nat} {R : Nat → Nat → Nat} {e0 : mj_E} {q m n : Nat} {tm er : Int} {T : Nat → Int} {h : mj_H} (I : jLi K L R e0 q m n tm er T h) : -2147483648 ≤ er ∧ er ≤ 2147483647 := by
  obtain ⟨_, _, hr, _, S, N, B, X, V, hs, K⟩ := I
  have h1 := K.2.2.2.2.1
  have h2 := K.2.2.2.2.2.2.1 12
  rw [h1] at h2
  exact ⟨h2.1, by have := h2.2; omega⟩
theorem jL_0 {n Lx : Nat} {xs : Nat → Int32} {tm er i : Int} {T : Nat → Int} {h : mj_H} {l5 l6 l7 l8 : Option Value} {Q : mj_R → Prop} (hi : 0 ≤ i ∧ i + 6 ≤ Lx) (hL : Lx ≤ 3072) (I : jLi cK cL cR (.inl (100, Lx, fun j => .int (xs j))) 571 563 n tm er T h) (X : jcx er tm T h) (Y : YX tm er T h) (k : ∀ (n' : Nat) (tm' er' : Int) (T' : Nat → Int) (h' : mj_H) (l5 l6 l7 l8 : Option Value), n ≤ n' → n' ≤ n + 1 → jLi cK cL cR (.inl (100, Lx, fun j => .int (xs j))) 571 563 n' tm' er' T' h' → jcx er' tm' T' h' → YX tm' er' T' h' → mj_T 100 mj_mK 2072 [some (.ref 0), some (.ref 1), some (.ref 563), some (.ref 571), some (.int (jn i)), l5, l6, l7, l8] [] h' Q) : mj_T 100 mj_mK 244 [some (.ref 0), some (.ref 1), some (.ref 563), some (.ref 571), some (.int (jn i)), l5, l6, l7, l8] [] h Q := by
  obtain ⟨N0, u0, H0, hr0, s0, E0, J0⟩ := Y
  have A0 := J0.AS
  refine mj_T.pl rfl rfl rfl rfl ?_
  refine jL.arg (k := 1) I.2.1 hi hL ⟨by decide, by decide⟩ rfl rfl rfl rfl rfl ?_
  refine jT.asJ ?_
  refine mj_T.eq (pc2 := 251) ?_ rfl rfl rfl rfl
  refine jL.arg (k := 2) I.2.1 hi hL ⟨by decide, by decide⟩ rfl rfl rfl rfl rfl ?_
  refine jT.asJ ?_
  refine mj_T.eq (pc2 := 257) ?_ rfl rfl rfl rfl
  refine jL.arg (k := 3) I.2.1 hi hL ⟨by decide, by decide⟩ rfl rfl rfl rfl rfl ?_
  refine jT.asJ ?_
  refine mj_T.eq (pc2 := 263) ?_ rfl rfl rfl rfl
  refine mj_T.pl rfl rfl rfl rfl ?_
  refine mj_T.call rfl rfl (Nat.le_of_ble_eq_true rfl) (Nat.le_of_ble_eq_true rfl) rfl rfl (mj_Ok.up (by decide) (mj_Ok.and (mj_Ok.up (by decide) ((jw_310 (D := 0) cTY I.1 ck0.2 (jr_of' _) (jr_of' _) (jr_of' _)).qt rfl)) (jy_310 I.1 (jr_of' _) (jr_of' _) (jr_of' _) ((cz_102 A0 s0 (jr_of' _) (jr_of' _) (jr_of' _)).to (fun _ y => y.yz))))) (fun v h1 hq => ?_) (fun i' h1 hq => by obtain ⟨hq, _⟩ := hq; obtain ⟨hq, _⟩ := hq; exact (by obtain ⟨_, hq, _⟩ := hq; cases hq))
  obtain ⟨hq, qy⟩ := hq
  obtain ⟨hq, qx⟩ := hq
  have X1 := X.qt qx
  obtain ⟨z, hv, ⟨n1, hn1, hn2, w1⟩, f1⟩ := hq
  cases hv
  have I1 := I.cls jZ_pl w1 hn1 f1
  have E1 := E0.frame jZ_pl f1 (by have e1 := I.1.1.1; have e2 := w1.1.1; have e3 := hn1; omega)
  refine mj_T.pl (loc' := [some (.ref 0), some (.ref 1), some (.ref 563), some (.ref 571), some (.int (jn i)), some (.int (jn z)), l6, l7, l8]) rfl rfl rfl rfl ?_
  refine mj_T.pl rfl rfl rfl rfl ?_
  refine jL.arg (k := 1) I1.2.1 hi hL ⟨by decide, by decide⟩ rfl rfl rfl rfl rfl ?_
  refine jT.asJ ?_
  refine mj_T.eq (pc2 := 276) ?_ rfl rfl rfl rfl
  refine jL.arg (k := 2) I1.2.1 hi hL ⟨by decide, by decide⟩ rfl rfl rfl rfl rfl ?_
  refine jT.asJ ?_
  refine mj_T.eq (pc2 := 282) ?_ rfl rfl rfl rfl
  refine jL.arg (k := 3) I1.2.1 hi hL ⟨by decide, by decide⟩ rfl rfl rfl rfl rfl ?_
  refine jT.asJ ?_
  refine mj_T.eq (pc2 := 288) ?_ rfl rfl rfl rfl
  obtain ⟨fs, ho⟩ := I1.obj
  refine mj_T.call rfl rfl (Nat.le_of_ble_eq_true rfl) (Nat.le_of_ble_eq_true rfl) (by simp [mj_recv, ho]) rfl (mj_Ok.up (by decide) (mj_Ok.and (mj_Ok.up (by decide) ((I1.callI jZ_pl (fun hr hI => rp_add (jr_of _) (jr_of _) (jr_of _) hI) (fun N => rfl)).qt rfl)) (YX.call (tm' := tm) (er' := er) (T' := T) E1 qy (Q_sum.ag _ _ _ _) (rz_add (jr_of _) (jr_of _) (jr_of _) J0) (fun N => rfl)))) (fun v h2 hq => ?_) (fun i' h2 hq => by obtain ⟨hq, _⟩ := hq; obtain ⟨hq, _⟩ := hq; exact (by obtain ⟨_, hq, _⟩ := hq; cases hq))
  obtain ⟨hq, Y2⟩ := hq
  obtain ⟨hq, qx⟩ := hq
  have X2 := X1.qt qx
  obtain ⟨z2, hv, I2⟩ := hq
  cases hv
  refine mj_T.pl (loc' := [some (.ref 0), some (.ref 1), some (.ref 563), some (.ref 571), some (.int (jn i)), some (.int (jn z)), some (.int (jn z2)), l7, l8]) rfl rfl rfl rfl ?_
  refine mj_T.pl rfl rfl rfl rfl ?_
  exact k n1 tm er T h2 _ _ _ _ hn1 hn2 I2 X2 Y2
theorem jL_1 {n Lx : Nat} {xs : Nat → Int32} {tm er i : Int} {T : Nat → Int} {h : mj_H} {l5 l6 l7 l8 : Option Value} {Q : mj_R → Prop} (hi : 0 ≤ i ∧ i + 6 ≤ Lx) (hL : Lx ≤ 3072) (I : jLi cK cL cR (.inl (100, Lx, fun j => .int (xs j))) 571 563 n tm er T h) (X : jcx er tm T h) (Y : YX tm er T h) (k : ∀ (n' : Nat) (tm' er' : Int) (T' : Nat → Int) (h' : mj_H) (l5 l6 l7 l8 : Option Value), n ≤ n' → n' ≤ n + 1 → jLi cK cL cR (.inl (100, Lx, fun j => .int (xs j))) 571 563 n' tm' er' T' h' → jcx er' tm' T' h' → YX tm' er' T' h' → mj_T 100 mj_mK 2072 [some (.ref 0), some (.ref 1), some (.ref 563), some (.ref 571), some (.int (jn i)), l5, l6, l7, l8] [] h' Q) : mj_T 100 mj_mK 296 [some (.ref 0), some (.ref 1), some (.ref 563), some (.ref 571), some (.int (jn i)), l5, l6, l7, l8] [] h Q := by
  obtain ⟨N0, u0, H0, hr0, s0, E0, J0⟩ := Y
  have A0 := J0.AS
  refine mj_T.pl rfl rfl rfl rfl ?_
  refine jL.arg (k := 1) I.2.1 hi hL ⟨by decide, by decide⟩ rfl rfl rfl rfl rfl ?_
  refine jT.asJ ?_
  refine mj_T.eq (pc2 := 303) ?_ rfl rfl rfl rfl
  refine jL.arg (k := 2) I.2.1 hi hL ⟨by decide, by decide⟩ rfl rfl rfl rfl rfl ?_
  refine jT.asJ ?_
  refine mj_T.eq (pc2 := 309) ?_ rfl rfl rfl rfl
  refine jL.arg (k := 3) I.2.1 hi hL ⟨by decide, by decide⟩ rfl rfl rfl rfl rfl ?_
  refine jT.asJ ?_
  refine mj_T.eq (pc2 := 315) ?_ rfl rfl rfl rfl
  refine mj_T.pl rfl rfl rfl rfl ?_
  refine mj_T.call rfl rfl (Nat.le_of_ble_eq_true rfl) (Nat.le_of_ble_eq_true rfl) rfl rfl (mj_Ok.up (by decide) (mj_Ok.and (mj_Ok.up (by decide) ((jw_311 (D := 0) cTY I.1 ck0.2 (jr_of' _) (jr_of' _) (jr_of' _)).qt rfl)) (jy_311 I.1 (jr_of' _) (jr_of' _) (jr_of' _) ((cz_103 A0 s0 (jr_of' _) (jr_of' _) (jr_of' _)).to (fun _ y => y.yz))))) (fun v h1 hq => ?_) (fun i' h1 hq => by obtain ⟨hq, _⟩ := hq; obtain ⟨hq, _⟩ := hq; exact (by obtain ⟨_, hq, _⟩ := hq; cases hq))
  obtain ⟨hq, qy⟩ := hq
  obtain ⟨hq, qx⟩ := hq
  have X1 := X.qt qx
  obtain ⟨z, hv, ⟨n1, hn1, hn2, w1⟩, f1⟩ := hq
  cases hv
  have I1 := I.cls jZ_pl w1 hn1 f1
  have E1 := E0.frame jZ_pl f1 (by have e1 := I.1.1.1; have e2 := w1.1.1; have e3 := hn1; omega)
  refine mj_T.pl (loc' := [some (.ref 0), some (.ref 1), some (.ref 563), some (.ref 571), some (.int (jn i)), some (.int (jn z)), l6, l7, l8]) rfl rfl rfl rfl ?_
  refine mj_T.pl rfl rfl rfl rfl ?_
  refine jL.arg (k := 1) I1.2.1 hi hL ⟨by decide, by decide⟩ rfl rfl rfl rfl rfl ?_
  refine jT.asJ ?_
  refine mj_T.eq (pc2 := 328) ?_ rfl rfl rfl rfl
  refine jL.arg (k := 2) I1.2.1 hi hL ⟨by decide, by decide⟩ rfl rfl rfl rfl rfl ?_
  refine jT.asJ ?_
  refine mj_T.eq (pc2 := 334) ?_ rfl rfl rfl rfl
  refine jL.arg (k := 3) I1.2.1 hi hL ⟨by decide, by decide⟩ rfl rfl rfl rfl rfl ?_
  refine jT.asJ ?_
  refine mj_T.eq (pc2 := 340) ?_ rfl rfl rfl rfl
  obtain ⟨fs, ho⟩ := I1.obj
  refine mj_T.call rfl rfl (Nat.le_of_ble_eq_true rfl) (Nat.le_of_ble_eq_true rfl) (by simp [mj_recv, ho]) rfl (mj_Ok.up (by decide) (mj_Ok.and (mj_Ok.up (by decide) ((I1.callI jZ_pl (fun hr hI => rp_subtract (jr_of _) (jr_of _) (jr_of _) hI) (fun N => rfl)).qt rfl)) (YX.call (tm' := tm) (er' := er) (T' := T) E1 qy (Q_sum.ag _ _ _ _) (rz_subtract (jr_of _) (jr_of _) (jr_of _) J0) (fun N => rfl)))) (fun v h2 hq => ?_) (fun i' h2 hq => by obtain ⟨hq, _⟩ := hq; obtain ⟨hq, _⟩ := hq; exact (by obtain ⟨_, hq, _⟩ := hq; cases hq))
  obtain ⟨hq, Y2⟩ := hq
  obtain ⟨hq, qx⟩ := hq
  have X2 := X1.qt qx
  obtain ⟨z2, hv, I2⟩ := hq
  cases hv
  refine mj_T.pl (loc' := [some (.ref 0), some (.ref 1), some (.ref 563), some (.ref 571), some (.int (jn i)), some (.int (jn z)), some (.int (jn z2)), l7, l8]) rfl rfl rfl rfl ?_
  refine mj_T.pl rfl rfl rfl rfl ?_
  exact k n1 tm er T h2 _ _ _ _ hn1 hn2 I2 X2 Y2
theorem jL_2 {n Lx : Nat} {xs : Nat → Int32} {tm er i : Int} {T : Nat → Int} {h : mj_H} {l5 l6 l7 l8 : Option Value} {Q : mj_R → Prop} (hi : 0 ≤ i ∧ i + 6 ≤ Lx) (hL : Lx ≤ 3072) (I : jLi cK cL cR (.inl (100, Lx, fun j => .int (xs j))) 571 563 n tm er T h) (X : jcx er tm T h) (Y : YX tm er T h) (k : ∀ (n' : Nat) (tm' er' : Int) (T' : Nat → Int) (h' : mj_H) (l5 l6 l7 l8 : Option Value), n ≤ n' → n' ≤ n + 1 → jLi cK cL cR (.inl (100, Lx, fun j => .int (xs j))) 571 563 n' tm' er' T' h' → jcx er' tm' T' h' → YX tm' er' T' h' → mj_T 100 mj_mK 2072 [some (.ref 0), some (.ref 1), some (.ref 563), some (.ref 571), some (.int (jn i)), l5, l6, l7, l8] [] h' Q) : mj_T 100 mj_mK 348 [some (.ref 0), some (.ref 1), some (.ref 563), some (.ref 571), some (.int (jn i)), l5, l6, l7, l8] [] h Q := by
  obtain ⟨N0, u0, H0, hr0, s0, E0, J0⟩ := Y
  have A0 := J0.AS
  refine mj_T.pl rfl rfl rfl rfl ?_
  refine jL.arg (k := 1) I.2.1 hi hL ⟨by decide, by decide⟩ rfl rfl rfl rfl rfl ?_
  refine jT.asJ ?_
  refine mj_T.eq (pc2 := 355) ?_ rfl rfl rfl rfl
  refine jL.arg (k := 2) I.2.1 hi hL ⟨by decide, by decide⟩ rfl rfl rfl rfl rfl ?_
  refine jT.asJ ?_
  refine mj_T.eq (pc2 := 361) ?_ rfl rfl rfl rfl
  refine jL.arg (k := 3) I.2.1 hi hL ⟨by decide, by decide⟩ rfl rfl rfl rfl rfl ?_
  refine jT.asJ ?_
  refine mj_T.eq (pc2 := 367) ?_ rfl rfl rfl rfl
  refine mj_T.pl rfl rfl rfl rfl ?_
  refine mj_T.call rfl rfl (Nat.le_of_ble_eq_true rfl) (Nat.le_of_ble_eq_true rfl) rfl rfl (mj_Ok.up (by decide) (mj_Ok.and (mj_Ok.up (by decide) ((jw_312 (D := 0) cTY I.1 ck0.2 (jr_of' _) (jr_of' _) (jr_of' _)).qt rfl)) (jy_312 I.1 (jr_of' _) (jr_of' _) (jr_of' _) ((cz_104 A0 s0 (jr_of' _) (jr_of' _) (jr_of' _)).to (fun _ y => y.yz))))) (fun v h1 hq => ?_) (fun i' h1 hq => by obtain ⟨hq, _⟩ := hq; obtain ⟨hq, _⟩ := hq; exact (by obtain ⟨_, hq, _⟩ := hq; cases hq))
  obtain ⟨hq, qy⟩ := hq
  obtain ⟨hq, qx⟩ := hq
  have X1 := X.qt qx
  obtain ⟨z, hv, ⟨n1, hn1, hn2, w1⟩, f1⟩ := hq
  cases hv
  have I1 := I.cls jZ_pl w1 hn1 f1
  have E1 := E0.frame jZ_pl f1 (by have e1 := I.1.1.1; have e2 := w1.1.1; have e3 := hn1; omega)
  refine mj_T.pl (loc' := [some (.ref 0), some (.ref 1), some (.ref 563), some (.ref 571), some (.int (jn i)), some (.int (jn z)), l6, l7, l8]) rfl rfl rfl rfl ?_
  refine mj_T.pl rfl rfl rfl rfl ?_
  refine jL.arg (k := 1) I1.2.1 hi hL ⟨by decide, by decide⟩ rfl rfl rfl rfl rfl ?_
  refine jT.asJ ?_
  refine mj_T.eq (pc2 := 380) ?_ rfl rfl rfl rfl
  refine jL.arg (k := 2) I1.2.1 hi hL ⟨by decide, by decide⟩ rfl rfl rfl rfl rfl ?_
  refine jT.asJ ?_
  refine mj_T.eq (pc2 := 386) ?_ rfl rfl rfl rfl
  refine jL.arg (k := 3) I1.2.1 hi hL ⟨by decide, by decide⟩ rfl rfl rfl rfl rfl ?_
  refine jT.asJ ?_
  refine mj_T.eq (pc2 := 392) ?_ rfl rfl rfl rfl
  obtain ⟨fs, ho⟩ := I1.obj
  refine mj_T.call rfl rfl (Nat.le_of_ble_eq_true rfl) (Nat.le_of_ble_eq_true rfl) (by simp [mj_recv, ho]) rfl (mj_Ok.up (by decide) (mj_Ok.and (mj_Ok.up (by decide) ((I1.callI jZ_pl (fun hr hI => rp_multiply (jr_of _) (jr_of _) (jr_of _) hI) (fun N => rfl)).qt rfl)) (YX.call (tm' := tm) (er' := er) (T' := T) E1 qy (Q_multiply.ag _ _ _) (rz_multiply (jr_of _) (jr_of _) (jr_of _) J0) (fun N => rfl)))) (fun v h2 hq => ?_) (fun i' h2 hq => by obtain ⟨hq, _⟩ := hq; obtain ⟨hq, _⟩ := hq; exact (by obtain ⟨_, hq, _⟩ := hq; cases hq))
  obtain ⟨hq, Y2⟩ := hq
  obtain ⟨hq, qx⟩ := hq
  have X2 := X1.qt qx
  obtain ⟨z2, hv, I2⟩ := hq
  cases hv
  refine mj_T.pl (loc' := [some (.ref 0), some (.ref 1), some (.ref 563), some (.ref 571), some (.int (jn i)), some (.int (jn z)), some (.int (jn z2)), l7, l8]) rfl rfl rfl rfl ?_
  refine mj_T.pl rfl rfl rfl rfl ?_
  exact k n1 tm er T h2 _ _ _ _ hn1 hn2 I2 X2 Y2
theorem jL_3 {n Lx : Nat} {xs : Nat → Int32} {tm er i : Int} {T : Nat → Int} {h : mj_H} {l5 l6 l7 l8 : Option Value} {Q : mj_R → Prop} (hi : 0 ≤ i ∧ i + 6 ≤ Lx) (hL : Lx ≤ 3072) (I : jLi cK cL cR (.inl (100, Lx, fun j => .int (xs j))) 571 563 n tm er T h) (X : jcx er tm T h) (Y : YX tm er T h) (k : ∀ (n' : Nat) (tm' er' : Int) (T' : Nat → Int) (h' : mj_H) (l5 l6 l7 l8 : Option Value), n ≤ n' → n' ≤ n + 1 → jLi cK cL cR (.inl (100, Lx, fun j => .int (xs j))) 571 563 n' tm' er' T' h' → jcx er' tm' T' h' → YX tm' er' T' h' → mj_T 100 mj_mK 2072 [some (.ref 0), some (.ref 1), some (.ref 563), some (.ref 571), some (.int (jn i)), l5, l6, l7, l8] [] h' Q) : mj_T 100 mj_mK 400 [some (.ref 0), some (.ref 1), some (.ref 563), some (.ref 571), some (.int (jn i)), l5, l6, l7, l8] [] h Q := by
  obtain ⟨N0, u0, H0, hr0, s0, E0, J0⟩ := Y
  have A0 := J0.AS
  refine mj_T.pl rfl rfl rfl rfl ?_
  refine jL.arg (k := 1) I.2.1 hi hL ⟨by decide, by decide⟩ rfl rfl rfl rfl rfl ?_
  refine jT.asJ ?_
  refine mj_T.eq (pc2 := 407) ?_ rfl rfl rfl rfl
  refine jL.arg (k := 2) I.2.1 hi hL ⟨by decide, by decide⟩ rfl rfl rfl rfl rfl ?_
  refine jT.asJ ?_
  refine mj_T.eq (pc2 := 413) ?_ rfl rfl rfl rfl
  refine jL.arg (k := 3) I.2.1 hi hL ⟨by decide, by decide⟩ rfl rfl rfl rfl rfl ?_
  refine jT.asJ ?_
  refine mj_T.eq (pc2 := 419) ?_ rfl rfl rfl rfl
  refine mj_T.pl rfl rfl rfl rfl ?_
  refine mj_T.call rfl rfl (Nat.le_of_ble_eq_true rfl) (Nat.le_of_ble_eq_true rfl) rfl rfl (mj_Ok.up (by decide) (mj_Ok.and (mj_Ok.up (by decide) ((jw_313 (D := 0) cTY I.1 ck0.2 (jr_of' _) (jr_of' _) (jr_of' _)).qt rfl)) (jy_313 I.1 (jr_of' _) (jr_of' _) (jr_of' _) ((cz_105 A0 s0 (jr_of' _) (jr_of' _) (jr_of' _)).to (fun _ y => y.yz))))) (fun v h1 hq => ?_) (fun i' h1 hq => by obtain ⟨hq, _⟩ := hq; obtain ⟨hq, _⟩ := hq; exact (by obtain ⟨_, hq, _⟩ := hq; cases hq))
  obtain ⟨hq, qy⟩ := hq
  obtain ⟨hq, qx⟩ := hq
  have X1 := X.qt qx
  obtain ⟨z, hv, ⟨n1, hn1, hn2, w1⟩, f1⟩ := hq
  cases hv
  have I1 := I.cls jZ_pl w1 hn1 f1
  have E1 := E0.frame jZ_pl f1 (by have e1 := I.1.1.1; have e2 := w1.1.1; have e3 := hn1; omega)
  refine mj_T.pl (loc' := [some (.ref 0), some (.ref 1), some (.ref 563), some (.ref 571), some (.int (jn i)), some (.int (jn z)), l6, l7, l8]) rfl rfl rfl rfl ?_
  refine mj_T.pl rfl rfl rfl rfl ?_
  refine jL.arg (k := 1) I1.2.1 hi hL ⟨by decide, by decide⟩ rfl rfl rfl rfl rfl ?_
  refine jT.asJ ?_
  refine mj_T.eq (pc2 := 432) ?_ rfl rfl rfl rfl
  refine jL.arg (k := 2) I1.2.1 hi hL ⟨by decide, by decide⟩ rfl rfl rfl rfl rfl ?_
  refine jT.asJ ?_
  refine mj_T.eq (pc2 := 438) ?_ rfl rfl rfl rfl
  refine jL.arg (k := 3) I1.2.1 hi hL ⟨by decide, by decide⟩ rfl rfl rfl rfl rfl ?_
  refine jT.asJ ?_
  refine mj_T.eq (pc2 := 444) ?_ rfl rfl rfl rfl
  obtain ⟨fs, ho⟩ := I1.obj
  refine mj_T.call rfl rfl (Nat.le_of_ble_eq_true rfl) (Nat.le_of_ble_eq_true rfl) (by simp [mj_recv, ho]) rfl (mj_Ok.up (by decide) (mj_Ok.and (mj_Ok.up (by decide) ((I1.callI jZ_pl (fun hr hI => rp_power (jr_of _) (jr_of _) (jr_of _) hI) (fun N => rfl)).qt rfl)) (YX.call (tm' := tm) (er' := er) (T' := T) E1 qy (Q_power.ag _ _ _) (rz_power (jr_of _) (jr_of _) (jr_of _) J0) (fun N => rfl)))) (fun v h2 hq => ?_) (fun i' h2 hq => by obtain ⟨hq, _⟩ := hq; obtain ⟨hq, _⟩ := hq; exact (by obtain ⟨_, hq, _⟩ := hq; cases hq))
  obtain ⟨hq, Y2⟩ := hq
  obtain ⟨hq, qx⟩ := hq
  have X2 := X1.qt qx
  obtain ⟨z2, hv, I2⟩ := hq
  cases hv
  refine mj_T.pl (loc' := [some (.ref 0), some (.ref 1), some (.ref 563), some (.ref 571), some (.int (jn i)), some (.int (jn z)), some (.int (jn z2)), l7, l8]) rfl rfl rfl rfl ?_
  refine mj_T.pl rfl rfl rfl rfl ?_
  exact k n1 tm er T h2 _ _ _ _ hn1 hn2 I2 X2 Y2
theorem jL_4 {n Lx : Nat} {xs : Nat → Int32} {tm er i : Int} {T : Nat → Int} {h : mj_H} {l5 l6 l7 l8 : Option Value} {Q : mj_R → Prop} (hi : 0 ≤ i ∧ i + 6 ≤ Lx) (hL : Lx ≤ 3072) (I : jLi cK cL cR (.inl (100, Lx, fun j => .int (xs j))) 571 563 n tm er T h) (X : jcx er tm T h) (Y : YX tm er T h) (k : ∀ (n' : Nat) (tm' er' : Int) (T' : Nat → Int) (h' : mj_H) (l5 l6 l7 l8 : Option Value), n ≤ n' → n' ≤ n + 1 → jLi cK cL cR (.inl (100, Lx, fun j => .int (xs j))) 571 563 n' tm' er' T' h' → jcx er' tm' T' h' → YX tm' er' T' h' → mj_T 100 mj_mK 2072 [some (.ref 0), some (.ref 1), some (.ref 563), some (.ref 571), some (.int (jn i)), l5, l6, l7, l8] [] h' Q) : mj_T 100 mj_mK 452 [some (.ref 0), some (.ref 1), some (.ref 563), some (.ref 571), some (.int (jn i)), l5, l6, l7, l8] [] h Q := by
  obtain ⟨N0, u0, H0, hr0, s0, E0, J0⟩ := Y
  have A0 := J0.AS
  refine mj_T.pl rfl rfl rfl rfl ?_
  refine jL.arg (k := 1) I.2.1 hi hL ⟨by decide, by decide⟩ rfl rfl rfl rfl rfl ?_
  refine jT.asJ ?_
  refine mj_T.eq (pc2 := 459) ?_ rfl rfl rfl rfl
  refine jL.arg (k := 2) I.2.1 hi hL ⟨by decide, by decide⟩ rfl rfl rfl rfl rfl ?_
  refine jT.asJ ?_
  refine mj_T.eq (pc2 := 465) ?_ rfl rfl rfl rfl
  refine mj_T.pl rfl rfl rfl rfl ?_
  refine mj_T.call rfl rfl (Nat.le_of_ble_eq_true rfl) (Nat.le_of_ble_eq_true rfl) rfl rfl (mj_Ok.up (by decide) (mj_Ok.and (mj_Ok.up (by decide) ((jw_314 (D := 0) cTY I.1 ck0.2 (jr_of' _) (jr_of' _)).qt rfl)) (jy_314 I.1 (jr_of' _) (jr_of' _) ((cz_106 A0 s0 (jr_of' _) (jr_of' _)).to (fun _ y => y.yz))))) (fun v h1 hq => ?_) (fun i' h1 hq => by obtain ⟨hq, _⟩ := hq; obtain ⟨hq, _⟩ := hq; exact (by obtain ⟨_, hq, _⟩ := hq; cases hq))
  obtain ⟨hq, qy⟩ := hq
  obtain ⟨hq, qx⟩ := hq
  have X1 := X.qt qx
  obtain ⟨z, hv, ⟨n1, hn1, hn2, w1⟩, f1⟩ := hq
  cases hv
  have I1 := I.cls jZ_pl w1 hn1 f1
  have E1 := E0.frame jZ_pl f1 (by have e1 := I.1.1.1; have e2 := w1.1.1; have e3 := hn1; omega)
  refine mj_T.pl (loc' := [some (.ref 0), some (.ref 1), some (.ref 563), some (.ref 571), some (.int (jn i)), some (.int (jn z)), l6, l7, l8]) rfl rfl rfl rfl ?_
  refine mj_T.pl rfl rfl rfl rfl ?_
  refine jL.arg (k := 1) I1.2.1 hi hL ⟨by decide, by decide⟩ rfl rfl rfl rfl rfl ?_
  refine jT.asJ ?_
  refine mj_T.eq (pc2 := 478) ?_ rfl rfl rfl rfl
  refine jL.arg (k := 2) I1.2.1 hi hL ⟨by decide, by decide⟩ rfl rfl rfl rfl rfl ?_
  refine jT.asJ ?_
  refine mj_T.eq (pc2 := 484) ?_ rfl rfl rfl rfl
  obtain ⟨fs, ho⟩ := I1.obj
  refine mj_T.call rfl rfl (Nat.le_of_ble_eq_true rfl) (Nat.le_of_ble_eq_true rfl) (by simp [mj_recv, ho]) rfl (mj_Ok.up (by decide) (mj_Ok.and (mj_Ok.up (by decide) ((I1.callI jZ_pl (fun hr hI => rp_derive (jr_of _) (jr_of _) hI) (fun N => rfl)).qt rfl)) (YX.call (tm' := tm) (er' := er) (T' := T) E1 qy (Q_derive.ag _ _) (rz_derive (jr_of _) (jr_of _) J0) (fun N => rfl)))) (fun v h2 hq => ?_) (fun i' h2 hq => by obtain ⟨hq, _⟩ := hq; obtain ⟨hq, _⟩ := hq; exact (by obtain ⟨_, hq, _⟩ := hq; cases hq))
  obtain ⟨hq, Y2⟩ := hq
  obtain ⟨hq, qx⟩ := hq
  have X2 := X1.qt qx
  obtain ⟨z2, hv, I2⟩ := hq
  cases hv
  refine mj_T.pl (loc' := [some (.ref 0), some (.ref 1), some (.ref 563), some (.ref 571), some (.int (jn i)), some (.int (jn z)), some (.int (jn z2)), l7, l8]) rfl rfl rfl rfl ?_
  refine mj_T.pl rfl rfl rfl rfl ?_
  exact k n1 tm er T h2 _ _ _ _ hn1 hn2 I2 X2 Y2
theorem jL_5 {n Lx : Nat} {xs : Nat → Int32} {tm er i : Int} {T : Nat → Int} {h : mj_H} {l5 l6 l7 l8 : Option Value} {Q : mj_R → Prop} (hi : 0 ≤ i ∧ i + 6 ≤ Lx) (hL : Lx ≤ 3072) (I : jLi cK cL cR (.inl (100, Lx, fun j => .int (xs j))) 571 563 n tm er T h) (X : jcx er tm T h) (Y : YX tm er T h) (k : ∀ (n' : Nat) (tm' er' : Int) (T' : Nat → Int) (h' : mj_H) (l5 l6 l7 l8 : Option Value), n ≤ n' → n' ≤ n + 1 → jLi cK cL cR (.inl (100, Lx, fun j => .int (xs j))) 571 563 n' tm' er' T' h' → jcx er' tm' T' h' → YX tm' er' T' h' → mj_T 100 mj_mK 2072 [some (.ref 0), some (.ref 1), some (.ref 563), some (.ref 571), some (.int (jn i)), l5, l6, l7, l8] [] h' Q) : mj_T 100 mj_mK 492 [some (.ref 0), some (.ref 1), some (.ref 563), some (.ref 571), some (.int (jn i)), l5, l6, l7, l8] [] h Q := by
  obtain ⟨N0, u0, H0, hr0, s0, E0, J0⟩ := Y
  have A0 := J0.AS
  refine mj_T.pl rfl rfl rfl rfl ?_
  refine jL.arg (k := 1) I.2.1 hi hL ⟨by decide, by decide⟩ rfl rfl rfl rfl rfl ?_
  refine jT.asJ ?_
  refine mj_T.eq (pc2 := 499) ?_ rfl rfl rfl rfl
  refine jL.arg (k := 2) I.2.1 hi hL ⟨by decide, by decide⟩ rfl rfl rfl rfl rfl ?_
  refine jT.asJ ?_
  refine mj_T.eq (pc2 := 505) ?_ rfl rfl rfl rfl
  refine jL.arg (k := 3) I.2.1 hi hL ⟨by decide, by decide⟩ rfl rfl rfl rfl rfl ?_
  refine jT.asJ ?_
  refine mj_T.eq (pc2 := 511) ?_ rfl rfl rfl rfl
  refine mj_T.pl rfl rfl rfl rfl ?_
  refine mj_T.call rfl rfl (Nat.le_of_ble_eq_true rfl) (Nat.le_of_ble_eq_true rfl) rfl rfl (mj_Ok.up (by decide) (mj_Ok.and (mj_Ok.up (by decide) ((jw_315 (D := 0) cTY I.1 ck0.2 (jr_of' _) (jr_of' _) (jr_of' _)).qt rfl)) (jy_315 I.1 (jr_of' _) (jr_of' _) (jr_of' _) ((cz_107 A0 s0 (jr_of' _) (jr_of' _) (jr_of' _)).to (fun _ y => y.yz))))) (fun v h1 hq => ?_) (fun i' h1 hq => by obtain ⟨hq, _⟩ := hq; obtain ⟨hq, _⟩ := hq; exact (by obtain ⟨_, hq, _⟩ := hq; cases hq))
  obtain ⟨hq, qy⟩ := hq
  obtain ⟨hq, qx⟩ := hq
  have X1 := X.qt qx
  obtain ⟨z, hv, ⟨n1, hn1, hn2, w1⟩, f1⟩ := hq
  cases hv
  have I1 := I.cls jZ_pl w1 hn1 f1
  have E1 := E0.frame jZ_pl f1 (by have e1 := I.1.1.1; have e2 := w1.1.1; have e3 := hn1; omega)
  refine mj_T.pl (loc' := [some (.ref 0), some (.ref 1), some (.ref 563), some (.ref 571), some (.int (jn i)), some (.int (jn z)), l6, l7, l8]) rfl rfl rfl rfl ?_
  refine mj_T.pl rfl rfl rfl rfl ?_
  refine jL.arg (k := 1) I1.2.1 hi hL ⟨by decide, by decide⟩ rfl rfl rfl rfl rfl ?_
  refine jT.asJ ?_
  refine mj_T.eq (pc2 := 524) ?_ rfl rfl rfl rfl
  refine jL.arg (k := 2) I1.2.1 hi hL ⟨by decide, by decide⟩ rfl rfl rfl rfl rfl ?_
  refine jT.asJ ?_
  refine mj_T.eq (pc2 := 530) ?_ rfl rfl rfl rfl
  refine jL.arg (k := 3) I1.2.1 hi hL ⟨by decide, by decide⟩ rfl rfl rfl rfl rfl ?_
  refine jT.asJ ?_
  refine mj_T.eq (pc2 := 536) ?_ rfl rfl rfl rfl
  obtain ⟨fs, ho⟩ := I1.obj
  refine mj_T.call rfl rfl (Nat.le_of_ble_eq_true rfl) (Nat.le_of_ble_eq_true rfl) (by simp [mj_recv, ho]) rfl (mj_Ok.up (by decide) (mj_Ok.and (mj_Ok.up (by decide) ((I1.callI jZ_pl (fun hr hI => rp_substitute (jr_of _) (jr_of _) (jr_of _) hI) (fun N => rfl)).qt rfl)) (YX.call (tm' := tm) (er' := er) (T' := T) E1 qy (Q_substitute.ag _ _ _) (rz_substitute (jr_of _) (jr_of _) (jr_of _) J0) (fun N => rfl)))) (fun v h2 hq => ?_) (fun i' h2 hq => by obtain ⟨hq, _⟩ := hq; obtain ⟨hq, _⟩ := hq; exact (by obtain ⟨_, hq, _⟩ := hq; cases hq))
  obtain ⟨hq, Y2⟩ := hq
  obtain ⟨hq, qx⟩ := hq
  have X2 := X1.qt qx
  obtain ⟨z2, hv, I2⟩ := hq
  cases hv
  refine mj_T.pl (loc' := [some (.ref 0), some (.ref 1), some (.ref 563), some (.ref 571), some (.int (jn i)), some (.int (jn z)), some (.int (jn z2)), l7, l8]) rfl rfl rfl rfl ?_
  refine mj_T.pl rfl rfl rfl rfl ?_
  exact k n1 tm er T h2 _ _ _ _ hn1 hn2 I2 X2 Y2
theorem jL_6 {n Lx : Nat} {xs : Nat → Int32} {tm er i : Int} {T : Nat → Int} {h : mj_H} {l5 l6 l7 l8 : Option Value} {Q : mj_R → Prop} (hi : 0 ≤ i ∧ i + 6 ≤ Lx) (hL : Lx ≤ 3072) (I : jLi cK cL cR (.inl (100, Lx, fun j => .int (xs j))) 571 563 n tm er T h) (X : jcx er tm T h) (Y : YX tm er T h) (k : ∀ (n' : Nat) (tm' er' : Int) (T' : Nat → Int) (h' : mj_H) (l5 l6 l7 l8 : Option Value), n ≤ n' → n' ≤ n + 1 → jLi cK cL cR (.inl (100, Lx, fun j => .int (xs j))) 571 563 n' tm' er' T' h' → jcx er' tm' T' h' → YX tm' er' T' h' → mj_T 100 mj_mK 2072 [some (.ref 0), some (.ref 1), some (.ref 563), some (.ref 571), some (.int (jn i)), l5, l6, l7, l8] [] h' Q) : mj_T 100 mj_mK 544 [some (.ref 0), some (.ref 1), some (.ref 563), some (.ref 571), some (.int (jn i)), l5, l6, l7, l8] [] h Q := by
  obtain ⟨N0, u0, H0, hr0, s0, E0, J0⟩ := Y
  have A0 := J0.AS
  refine mj_T.pl rfl rfl rfl rfl ?_
  refine jL.arg (k := 1) I.2.1 hi hL ⟨by decide, by decide⟩ rfl rfl rfl rfl rfl ?_
  refine jT.asJ ?_
  refine mj_T.eq (pc2 := 551) ?_ rfl rfl rfl rfl
  refine jL.arg (k := 2) I.2.1 hi hL ⟨by decide, by decide⟩ rfl rfl rfl rfl rfl ?_
  refine jT.asJ ?_
  refine mj_T.eq (pc2 := 557) ?_ rfl rfl rfl rfl
  refine jL.arg (k := 3) I.2.1 hi hL ⟨by decide, by decide⟩ rfl rfl rfl rfl rfl ?_
  refine jT.asJ ?_
  refine mj_T.eq (pc2 := 563) ?_ rfl rfl rfl rfl
  refine jL.arg (k := 4) I.2.1 hi hL ⟨by decide, by decide⟩ rfl rfl rfl rfl rfl ?_
  refine jT.asJ ?_
  refine mj_T.eq (pc2 := 569) ?_ rfl rfl rfl rfl
  refine mj_T.pl rfl rfl rfl rfl ?_
  refine mj_T.call rfl rfl (Nat.le_of_ble_eq_true rfl) (Nat.le_of_ble_eq_true rfl) rfl rfl (mj_Ok.up (by decide) (mj_Ok.and (mj_Ok.up (by decide) ((jw_316 (D := 0) cTY I.1 ck0.2 (jr_of' _) (jr_of' _) (jr_of' _) (jr_of' _)).qt rfl)) (jy_316 I.1 (jr_of' _) (jr_of' _) (jr_of' _) (jr_of' _) ((cz_108 A0 s0 (jr_of' _) (jr_of' _) (jr_of' _) (jr_of' _)).to (fun _ y => y.yz))))) (fun v h1 hq => ?_) (fun i' h1 hq => by obtain ⟨hq, _⟩ := hq; obtain ⟨hq, _⟩ := hq; exact (by obtain ⟨_, hq, _⟩ := hq; cases hq))
  obtain ⟨hq, qy⟩ := hq
  obtain ⟨hq, qx⟩ := hq
  have X1 := X.qt qx
  obtain ⟨z, hv, ⟨n1, hn1, hn2, w1⟩, f1⟩ := hq
  cases hv
  have I1 := I.cls jZ_pl w1 hn1 f1
  have E1 := E0.frame jZ_pl f1 (by have e1 := I.1.1.1; have e2 := w1.1.1; have e3 := hn1; omega)
  refine mj_T.pl (loc' := [some (.ref 0), some (.ref 1), some (.ref 563), some (.ref 571), some (.int (jn i)), some (.int (jn z)), l6, l7, l8]) rfl rfl rfl rfl ?_
  refine mj_T.pl rfl rfl rfl rfl ?_
  refine jL.arg (k := 1) I1.2.1 hi hL ⟨by decide, by decide⟩ rfl rfl rfl rfl rfl ?_
  refine jT.asJ ?_
  refine mj_T.eq (pc2 := 582) ?_ rfl rfl rfl rfl
  refine jL.arg (k := 2) I1.2.1 hi hL ⟨by decide, by decide⟩ rfl rfl rfl rfl rfl ?_
  refine jT.asJ ?_
  refine mj_T.eq (pc2 := 588) ?_ rfl rfl rfl rfl
  refine jL.arg (k := 3) I1.2.1 hi hL ⟨by decide, by decide⟩ rfl rfl rfl rfl rfl ?_
  refine jT.asJ ?_
  refine mj_T.eq (pc2 := 594) ?_ rfl rfl rfl rfl
  refine jL.arg (k := 4) I1.2.1 hi hL ⟨by decide, by decide⟩ rfl rfl rfl rfl rfl ?_
  refine jT.asJ ?_
  refine mj_T.eq (pc2 := 600) ?_ rfl rfl rfl rfl
  obtain ⟨fs, ho⟩ := I1.obj
  refine mj_T.call rfl rfl (Nat.le_of_ble_eq_true rfl) (Nat.le_of_ble_eq_true rfl) (by simp [mj_recv, ho]) rfl (mj_Ok.up (by decide) (mj_Ok.and (mj_Ok.up (by decide) ((I1.callI jZ_pl (fun hr hI => rp_divide (jr_of _) (jr_of _) (jr_of _) (jr_of _) hI) (fun N => rfl)).qt rfl)) (YX.call (tm' := tm) (er' := er) (T' := T) E1 qy (Q_divide.ag _ _ _ _) (rz_divide (jr_of _) (jr_of _) (jr_of _) (jr_of _) J0) (fun N => rfl)))) (fun v h2 hq => ?_) (fun i' h2 hq => by obtain ⟨hq, _⟩ := hq; obtain ⟨hq, _⟩ := hq; exact (by obtain ⟨_, hq, _⟩ := hq; cases hq))
  obtain ⟨hq, Y2⟩ := hq
  obtain ⟨hq, qx⟩ := hq
  have X2 := X1.qt qx
  obtain ⟨z2, hv, I2⟩ := hq
  cases hv
  refine mj_T.pl (loc' := [some (.ref 0), some (.ref 1), some (.ref 563), some (.ref 571), some (.int (jn i)), some (.int (jn z)), some (.int (jn z2)), l7, l8]) rfl rfl rfl rfl ?_
  refine mj_T.pl rfl rfl rfl rfl ?_
  exact k n1 tm er T h2 _ _ _ _ hn1 hn2 I2 X2 Y2
theorem jL_7 {n Lx : Nat} {xs : Nat → Int32} {tm er i : Int} {T : Nat → Int} {h : mj_H} {l5 l6 l7 l8 : Option Value} {Q : mj_R → Prop} (hi : 0 ≤ i ∧ i + 6 ≤ Lx) (hL : Lx ≤ 3072) (I : jLi cK cL cR (.inl (100, Lx, fun j => .int (xs j))) 571 563 n tm er T h) (X : jcx er tm T h) (Y : YX tm er T h) (k : ∀ (n' : Nat) (tm' er' : Int) (T' : Nat → Int) (h' : mj_H) (l5 l6 l7 l8 : Option Value), n ≤ n' → n' ≤ n + 1 → jLi cK cL cR (.inl (100, Lx, fun j => .int (xs j))) 571 563 n' tm' er' T' h' → jcx er' tm' T' h' → YX tm' er' T' h' → mj_T 100 mj_mK 2072 [some (.ref 0), some (.ref 1), some (.ref 563), some (.ref 571), some (.int (jn i)), l5, l6, l7, l8] [] h' Q) : mj_T 100 mj_mK 608 [some (.ref 0), some (.ref 1), some (.ref 563), some (.ref 571), some (.int (jn i)), l5, l6, l7, l8] [] h Q := by
  obtain ⟨N0, u0, H0, hr0, s0, E0, J0⟩ := Y
  have A0 := J0.AS
  refine mj_T.pl rfl rfl rfl rfl ?_
  refine jL.arg (k := 1) I.2.1 hi hL ⟨by decide, by decide⟩ rfl rfl rfl rfl rfl ?_
  refine jT.asJ ?_
  refine mj_T.eq (pc2 := 615) ?_ rfl rfl rfl rfl
  refine jL.arg (k := 2) I.2.1 hi hL ⟨by decide, by decide⟩ rfl rfl rfl rfl rfl ?_
  refine jT.asJ ?_
  refine mj_T.eq (pc2 := 621) ?_ rfl rfl rfl rfl
  refine jL.arg (k := 3) I.2.1 hi hL ⟨by decide, by decide⟩ rfl rfl rfl rfl rfl ?_
  refine jT.asJ ?_
  refine mj_T.eq (pc2 := 627) ?_ rfl rfl rfl rfl
  refine mj_T.pl rfl rfl rfl rfl ?_
  refine mj_T.call rfl rfl (Nat.le_of_ble_eq_true rfl) (Nat.le_of_ble_eq_true rfl) rfl rfl (mj_Ok.up (by decide) (mj_Ok.and (mj_Ok.up (by decide) ((jw_317 (D := 0) cTY I.1 ck0.2 (jr_of' _) (jr_of' _) (jr_of' _)).qt rfl)) (jy_317 I.1 (jr_of' _) (jr_of' _) (jr_of' _) ((cz_109 A0 s0 (jr_of' _) (jr_of' _) (jr_of' _)).to (fun _ y => y.yz))))) (fun v h1 hq => ?_) (fun i' h1 hq => by obtain ⟨hq, _⟩ := hq; obtain ⟨hq, _⟩ := hq; exact (by obtain ⟨_, hq, _⟩ := hq; cases hq))
  obtain ⟨hq, qy⟩ := hq
  obtain ⟨hq, qx⟩ := hq
  have X1 := X.qt qx
  obtain ⟨z, hv, ⟨n1, hn1, hn2, w1⟩, f1⟩ := hq
  cases hv
  have I1 := I.cls jZ_pl w1 hn1 f1
  have E1 := E0.frame jZ_pl f1 (by have e1 := I.1.1.1; have e2 := w1.1.1; have e3 := hn1; omega)
  refine mj_T.pl (loc' := [some (.ref 0), some (.ref 1), some (.ref 563), some (.ref 571), some (.int (jn i)), some (.int (jn z)), l6, l7, l8]) rfl rfl rfl rfl ?_
  refine mj_T.pl rfl rfl rfl rfl ?_
  refine jL.arg (k := 1) I1.2.1 hi hL ⟨by decide, by decide⟩ rfl rfl rfl rfl rfl ?_
  refine jT.asJ ?_
  refine mj_T.eq (pc2 := 640) ?_ rfl rfl rfl rfl
  refine jL.arg (k := 2) I1.2.1 hi hL ⟨by decide, by decide⟩ rfl rfl rfl rfl rfl ?_
  refine jT.asJ ?_
  refine mj_T.eq (pc2 := 646) ?_ rfl rfl rfl rfl
  refine jL.arg (k := 3) I1.2.1 hi hL ⟨by decide, by decide⟩ rfl rfl rfl rfl rfl ?_
  refine jT.asJ ?_
  refine mj_T.eq (pc2 := 652) ?_ rfl rfl rfl rfl
  obtain ⟨fs, ho⟩ := I1.obj
  refine mj_T.call rfl rfl (Nat.le_of_ble_eq_true rfl) (Nat.le_of_ble_eq_true rfl) (by simp [mj_recv, ho]) rfl (mj_Ok.up (by decide) (mj_Ok.and (mj_Ok.up (by decide) ((I1.callI jZ_pl (fun hr hI => rp_gcd (jr_of _) (jr_of _) (jr_of _) hI) (fun N => rfl)).qt rfl)) (YX.call (tm' := tm) (er' := er) (T' := T) E1 qy (Q_gcd.ag _ _ _) (rz_gcd (jr_of _) (jr_of _) (jr_of _) J0) (fun N => rfl)))) (fun v h2 hq => ?_) (fun i' h2 hq => by obtain ⟨hq, _⟩ := hq; obtain ⟨hq, _⟩ := hq; exact (by obtain ⟨_, hq, _⟩ := hq; cases hq))
  obtain ⟨hq, Y2⟩ := hq
  obtain ⟨hq, qx⟩ := hq
  have X2 := X1.qt qx
  obtain ⟨z2, hv, I2⟩ := hq
  cases hv
  refine mj_T.pl (loc' := [some (.ref 0), some (.ref 1), some (.ref 563), some (.ref 571), some (.int (jn i)), some (.int (jn z)), some (.int (jn z2)), l7, l8]) rfl rfl rfl rfl ?_
  refine mj_T.pl rfl rfl rfl rfl ?_
  exact k n1 tm er T h2 _ _ _ _ hn1 hn2 I2 X2 Y2
theorem jL_8 {n Lx : Nat} {xs : Nat → Int32} {tm er i : Int} {T : Nat → Int} {h : mj_H} {l5 l6 l7 l8 : Option Value} {Q : mj_R → Prop} (hi : 0 ≤ i ∧ i + 6 ≤ Lx) (hL : Lx ≤ 3072) (I : jLi cK cL cR (.inl (100, Lx, fun j => .int (xs j))) 571 563 n tm er T h) (X : jcx er tm T h) (Y : YX tm er T h) (k : ∀ (n' : Nat) (tm' er' : Int) (T' : Nat → Int) (h' : mj_H) (l5 l6 l7 l8 : Option Value), n ≤ n' → n' ≤ n + 1 → jLi cK cL cR (.inl (100, Lx, fun j => .int (xs j))) 571 563 n' tm' er' T' h' → jcx er' tm' T' h' → YX tm' er' T' h' → mj_T 100 mj_mK 2072 [some (.ref 0), some (.ref 1), some (.ref 563), some (.ref 571), some (.int (jn i)), l5, l6, l7, l8] [] h' Q) : mj_T 100 mj_mK 660 [some (.ref 0), some (.ref 1), some (.ref 563), some (.ref 571), some (.int (jn i)), l5, l6, l7, l8] [] h Q := by
  obtain ⟨N0, u0, H0, hr0, s0, E0, J0⟩ := Y
  have A0 := J0.AS
  refine mj_T.pl rfl rfl rfl rfl ?_
  refine jL.arg (k := 1) I.2.1 hi hL ⟨by decide, by decide⟩ rfl rfl rfl rfl rfl ?_
  refine jT.asJ ?_
  refine mj_T.eq (pc2 := 667) ?_ rfl rfl rfl rfl
  refine jL.arg (k := 2) I.2.1 hi hL ⟨by decide, by decide⟩ rfl rfl rfl rfl rfl ?_
  refine jT.asJ ?_
  refine mj_T.eq (pc2 := 673) ?_ rfl rfl rfl rfl
  refine mj_T.pl rfl rfl rfl rfl ?_
  refine mj_T.call rfl rfl (Nat.le_of_ble_eq_true rfl) (Nat.le_of_ble_eq_true rfl) rfl rfl (mj_Ok.up (by decide) (mj_Ok.and (mj_Ok.up (by decide) ((jw_318 (D := 0) cTY I.1 ck0.2 (jr_of' _) (jr_of' _)).qt rfl)) (jy_318 I.1 (jr_of' _) (jr_of' _) ((cz_110 A0 s0 (jr_of' _) (jr_of' _)).to (fun _ y => y.yz))))) (fun v h1 hq => ?_) (fun i' h1 hq => by obtain ⟨hq, _⟩ := hq; obtain ⟨hq, _⟩ := hq; exact (by obtain ⟨_, hq, _⟩ := hq; cases hq))
  obtain ⟨hq, qy⟩ := hq
  obtain ⟨hq, qx⟩ := hq
  have X1 := X.qt qx
  obtain ⟨z, hv, ⟨n1, hn1, hn2, w1⟩, f1⟩ := hq
  cases hv
  have I1 := I.cls jZ_pl w1 hn1 f1
  have E1 := E0.frame jZ_pl f1 (by have e1 := I.1.1.1; have e2 := w1.1.1; have e3 := hn1; omega)
  refine mj_T.pl (loc' := [some (.ref 0), some (.ref 1), some (.ref 563), some (.ref 571), some (.int (jn i)), some (.int (jn z)), l6, l7, l8]) rfl rfl rfl rfl ?_
  refine mj_T.pl rfl rfl rfl rfl ?_
  refine jL.arg (k := 1) I1.2.1 hi hL ⟨by decide, by decide⟩ rfl rfl rfl rfl rfl ?_
  refine jT.asJ ?_
  refine mj_T.eq (pc2 := 686) ?_ rfl rfl rfl rfl
  refine jL.arg (k := 2) I1.2.1 hi hL ⟨by decide, by decide⟩ rfl rfl rfl rfl rfl ?_
  refine jT.asJ ?_
  refine mj_T.eq (pc2 := 692) ?_ rfl rfl rfl rfl
  obtain ⟨fs, ho⟩ := I1.obj
  refine mj_T.call rfl rfl (Nat.le_of_ble_eq_true rfl) (Nat.le_of_ble_eq_true rfl) (by simp [mj_recv, ho]) rfl (mj_Ok.up (by decide) (mj_Ok.and (mj_Ok.up (by decide) ((I1.callI jZ_pl (fun hr hI => rp_primitive (jr_of _) (jr_of _) hI) (fun N => rfl)).qt rfl)) (YX.call (tm' := tm) (er' := er) (T' := T) E1 qy (Q_primitive.ag _ _) (rz_primitive (jr_of _) (jr_of _) J0) (fun N => rfl)))) (fun v h2 hq => ?_) (fun i' h2 hq => by obtain ⟨hq, _⟩ := hq; obtain ⟨hq, _⟩ := hq; exact (by obtain ⟨_, hq, _⟩ := hq; cases hq))
  obtain ⟨hq, Y2⟩ := hq
  obtain ⟨hq, qx⟩ := hq
  have X2 := X1.qt qx
  obtain ⟨z2, hv, I2⟩ := hq
  cases hv
  refine mj_T.pl (loc' := [some (.ref 0), some (.ref 1), some (.ref 563), some (.ref 571), some (.int (jn i)), some (.int (jn z)), some (.int (jn z2)), l7, l8]) rfl rfl rfl rfl ?_
  refine mj_T.pl rfl rfl rfl rfl ?_
  exact k n1 tm er T h2 _ _ _ _ hn1 hn2 I2 X2 Y2
theorem jL_9 {n Lx : Nat} {xs : Nat → Int32} {tm er i : Int} {T : Nat → Int} {h : mj_H} {l5 l6 l7 l8 : Option Value} {Q : mj_R → Prop} (hi : 0 ≤ i ∧ i + 6 ≤ Lx) (hL : Lx ≤ 3072) (I : jLi cK cL cR (.inl (100, Lx, fun j => .int (xs j))) 571 563 n tm er T h) (X : jcx er tm T h) (Y : YX tm er T h) (k : ∀ (n' : Nat) (tm' er' : Int) (T' : Nat → Int) (h' : mj_H) (l5 l6 l7 l8 : Option Value), n ≤ n' → n' ≤ n + 1 → jLi cK cL cR (.inl (100, Lx, fun j => .int (xs j))) 571 563 n' tm' er' T' h' → jcx er' tm' T' h' → YX tm' er' T' h' → mj_T 100 mj_mK 2072 [some (.ref 0), some (.ref 1), some (.ref 563), some (.ref 571), some (.int (jn i)), l5, l6, l7, l8] [] h' Q) : mj_T 100 mj_mK 700 [some (.ref 0), some (.ref 1), some (.ref 563), some (.ref 571), some (.int (jn i)), l5, l6, l7, l8] [] h Q := by
  obtain ⟨N0, u0, H0, hr0, s0, E0, J0⟩ := Y
  have A0 := J0.AS
  refine mj_T.pl rfl rfl rfl rfl ?_
  refine jL.arg (k := 1) I.2.1 hi hL ⟨by decide, by decide⟩ rfl rfl rfl rfl rfl ?_
  refine jT.asJ ?_
  refine mj_T.eq (pc2 := 707) ?_ rfl rfl rfl rfl
  refine jL.arg (k := 2) I.2.1 hi hL ⟨by decide, by decide⟩ rfl rfl rfl rfl rfl ?_
  refine jT.asJ ?_
  refine mj_T.eq (pc2 := 713) ?_ rfl rfl rfl rfl
  refine mj_T.pl rfl rfl rfl rfl ?_
  refine mj_T.call rfl rfl (Nat.le_of_ble_eq_true rfl) (Nat.le_of_ble_eq_true rfl) rfl rfl (mj_Ok.up (by decide) (mj_Ok.and (mj_Ok.up (by decide) ((jw_319 (D := 0) cTY I.1 ck0.2 (jr_of' _) (jr_of' _)).qt rfl)) (jy_319 I.1 (jr_of' _) (jr_of' _) ((cz_111 A0 s0 (jr_of' _) (jr_of' _)).to (fun _ y => y.yz))))) (fun v h1 hq => ?_) (fun i' h1 hq => by obtain ⟨hq, _⟩ := hq; obtain ⟨hq, _⟩ := hq; exact (by obtain ⟨_, hq, _⟩ := hq; cases hq))
  obtain ⟨hq, qy⟩ := hq
  obtain ⟨hq, qx⟩ := hq
  have X1 := X.qt qx
  obtain ⟨z, hv, ⟨n1, hn1, hn2, w1⟩, f1⟩ := hq
  cases hv
  have I1 := I.cls jZ_pl w1 hn1 f1
  have E1 := E0.frame jZ_pl f1 (by have e1 := I.1.1.1; have e2 := w1.1.1; have e3 := hn1; omega)
  refine mj_T.pl (loc' := [some (.ref 0), some (.ref 1), some (.ref 563), some (.ref 571), some (.int (jn i)), some (.int (jn z)), l6, l7, l8]) rfl rfl rfl rfl ?_
  refine mj_T.pl rfl rfl rfl rfl ?_
  refine jL.arg (k := 1) I1.2.1 hi hL ⟨by decide, by decide⟩ rfl rfl rfl rfl rfl ?_
  refine jT.asJ ?_
  refine mj_T.eq (pc2 := 726) ?_ rfl rfl rfl rfl
  refine jL.arg (k := 2) I1.2.1 hi hL ⟨by decide, by decide⟩ rfl rfl rfl rfl rfl ?_
  refine jT.asJ ?_
  refine mj_T.eq (pc2 := 732) ?_ rfl rfl rfl rfl
  obtain ⟨fs, ho⟩ := I1.obj
  refine mj_T.call rfl rfl (Nat.le_of_ble_eq_true rfl) (Nat.le_of_ble_eq_true rfl) (by simp [mj_recv, ho]) rfl (mj_Ok.up (by decide) (mj_Ok.and (mj_Ok.up (by decide) ((I1.callI jZ_pl (fun hr hI => rp_simple (jr_of _) (jr_of _) hI) (fun N => rfl)).qt rfl)) (YX.call (tm' := tm) (er' := er) (T' := T) E1 qy (Q_simple.ag _ _) (rz_simple (jr_of _) (jr_of _) J0) (fun N => rfl)))) (fun v h2 hq => ?_) (fun i' h2 hq => by obtain ⟨hq, _⟩ := hq; obtain ⟨hq, _⟩ := hq; exact (by obtain ⟨_, hq, _⟩ := hq; cases hq))
  obtain ⟨hq, Y2⟩ := hq
  obtain ⟨hq, qx⟩ := hq
  have X2 := X1.qt qx
  obtain ⟨z2, hv, I2⟩ := hq
  cases hv
  refine mj_T.pl (loc' := [some (.ref 0), some (.ref 1), some (.ref 563), some (.ref 571), some (.int (jn i)), some (.int (jn z)), some (.int (jn z2)), l7, l8]) rfl rfl rfl rfl ?_
  refine mj_T.pl rfl rfl rfl rfl ?_
  exact k n1 tm er T h2 _ _ _ _ hn1 hn2 I2 X2 Y2
theorem jL_10 {n Lx : Nat} {xs : Nat → Int32} {tm er i : Int} {T : Nat → Int} {h : mj_H} {l5 l6 l7 l8 : Option Value} {Q : mj_R → Prop} (hi : 0 ≤ i ∧ i + 6 ≤ Lx) (hL : Lx ≤ 3072) (I : jLi cK cL cR (.inl (100, Lx, fun j => .int (xs j))) 571 563 n tm er T h) (X : jcx er tm T h) (Y : YX tm er T h) (k : ∀ (n' : Nat) (tm' er' : Int) (T' : Nat → Int) (h' : mj_H) (l5 l6 l7 l8 : Option Value), n ≤ n' → n' ≤ n + 1 → jLi cK cL cR (.inl (100, Lx, fun j => .int (xs j))) 571 563 n' tm' er' T' h' → jcx er' tm' T' h' → YX tm' er' T' h' → mj_T 100 mj_mK 2072 [some (.ref 0), some (.ref 1), some (.ref 563), some (.ref 571), some (.int (jn i)), l5, l6, l7, l8] [] h' Q) : mj_T 100 mj_mK 740 [some (.ref 0), some (.ref 1), some (.ref 563), some (.ref 571), some (.int (jn i)), l5, l6, l7, l8] [] h Q := by
  obtain ⟨N0, u0, H0, hr0, s0, E0, J0⟩ := Y
  have A0 := J0.AS
  refine mj_T.pl rfl rfl rfl rfl ?_
  refine jL.arg (k := 1) I.2.1 hi hL ⟨by decide, by decide⟩ rfl rfl rfl rfl rfl ?_
  refine jT.asJ ?_
  refine mj_T.eq (pc2 := 747) ?_ rfl rfl rfl rfl
  refine jL.arg (k := 2) I.2.1 hi hL ⟨by decide, by decide⟩ rfl rfl rfl rfl rfl ?_
  refine jT.asJ ?_
  refine mj_T.eq (pc2 := 753) ?_ rfl rfl rfl rfl
  refine jL.arg (k := 3) I.2.1 hi hL ⟨by decide, by decide⟩ rfl rfl rfl rfl rfl ?_
  refine jT.asJ ?_
  refine mj_T.eq (pc2 := 759) ?_ rfl rfl rfl rfl
  refine mj_T.pl rfl rfl rfl rfl ?_
  refine mj_T.call rfl rfl (Nat.le_of_ble_eq_true rfl) (Nat.le_of_ble_eq_true rfl) rfl rfl (mj_Ok.up (by decide) (mj_Ok.and (mj_Ok.up (by decide) ((jw_320 (D := 0) cTY I.1 ck0.2 (jr_of' _) (jr_of' _) (jr_of' _)).qt rfl)) (jy_320 I.1 (jr_of' _) (jr_of' _) (jr_of' _) ((cz_112 A0 s0 (jr_of' _) (jr_of' _) (jr_of' _)).to (fun _ y => y.yz))))) (fun v h1 hq => ?_) (fun i' h1 hq => by obtain ⟨hq, _⟩ := hq; obtain ⟨hq, _⟩ := hq; exact (by obtain ⟨_, hq, _⟩ := hq; cases hq))
  obtain ⟨hq, qy⟩ := hq
  obtain ⟨hq, qx⟩ := hq
  have X1 := X.qt qx
  obtain ⟨z, hv, ⟨n1, hn1, hn2, w1⟩, f1⟩ := hq
  cases hv
  have I1 := I.cls jZ_pl w1 hn1 f1
  have E1 := E0.frame jZ_pl f1 (by have e1 := I.1.1.1; have e2 := w1.1.1; have e3 := hn1; omega)
  refine mj_T.pl (loc' := [some (.ref 0), some (.ref 1), some (.ref 563), some (.ref 571), some (.int (jn i)), some (.int (jn z)), l6, l7, l8]) rfl rfl rfl rfl ?_
  refine mj_T.pl rfl rfl rfl rfl ?_
  refine jL.arg (k := 1) I1.2.1 hi hL ⟨by decide, by decide⟩ rfl rfl rfl rfl rfl ?_
  refine jT.asJ ?_
  refine mj_T.eq (pc2 := 772) ?_ rfl rfl rfl rfl
  refine jL.arg (k := 2) I1.2.1 hi hL ⟨by decide, by decide⟩ rfl rfl rfl rfl rfl ?_
  refine jT.asJ ?_
  refine mj_T.eq (pc2 := 778) ?_ rfl rfl rfl rfl
  refine jL.arg (k := 3) I1.2.1 hi hL ⟨by decide, by decide⟩ rfl rfl rfl rfl rfl ?_
  refine jT.asJ ?_
  refine mj_T.eq (pc2 := 784) ?_ rfl rfl rfl rfl
  obtain ⟨fs, ho⟩ := I1.obj
  refine mj_T.call rfl rfl (Nat.le_of_ble_eq_true rfl) (Nat.le_of_ble_eq_true rfl) (by simp [mj_recv, ho]) rfl (mj_Ok.up (by decide) (mj_Ok.and (mj_Ok.up (by decide) ((I1.callI jZ_pl (fun hr hI => rp_residue (jr_of _) (jr_of _) (jr_of _) hI) (fun N => rfl)).qt rfl)) (YX.call (tm' := tm) (er' := er) (T' := T) E1 qy (Q_residue.ag _ _ _) (rz_residue (jr_of _) (jr_of _) (jr_of _) J0) (fun N => rfl)))) (fun v h2 hq => ?_) (fun i' h2 hq => by obtain ⟨hq, _⟩ := hq; obtain ⟨hq, _⟩ := hq; exact (by obtain ⟨_, hq, _⟩ := hq; cases hq))
  obtain ⟨hq, Y2⟩ := hq
  obtain ⟨hq, qx⟩ := hq
  have X2 := X1.qt qx
  obtain ⟨z2, hv, I2⟩ := hq
  cases hv
  refine mj_T.pl (loc' := [some (.ref 0), some (.ref 1), some (.ref 563), some (.ref 571), some (.int (jn i)), some (.int (jn z)), some (.int (jn z2)), l7, l8]) rfl rfl rfl rfl ?_
  refine mj_T.pl rfl rfl rfl rfl ?_
  exact k n1 tm er T h2 _ _ _ _ hn1 hn2 I2 X2 Y2
