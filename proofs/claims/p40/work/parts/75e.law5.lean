/-! Rounds of the law. -/
theorem jL_12 {n Lx : Nat} {xs : Nat → Int32} {tm er i : Int} {T : Nat → Int} {h : mj_H} {l5 l6 l7 l8 : Option Value} {Q : mj_R → Prop} (hi : 0 ≤ i ∧ i + 6 ≤ Lx) (hL : Lx ≤ 3072) (I : jLi cK cL cR (.inl (100, Lx, fun j => .int (xs j))) 571 563 n tm er T h) (X : jcx er tm T h) (Y : YX tm er T h) (k : ∀ (n' : Nat) (tm' er' : Int) (T' : Nat → Int) (h' : mj_H) (l5 l6 l7 l8 : Option Value), n ≤ n' → n' ≤ n + 1 → jLi cK cL cR (.inl (100, Lx, fun j => .int (xs j))) 571 563 n' tm' er' T' h' → jcx er' tm' T' h' → YX tm' er' T' h' → mj_T 100 mj_mK 2072 [some (.ref 0), some (.ref 1), some (.ref 563), some (.ref 571), some (.int (jn i)), l5, l6, l7, l8] [] h' Q) : mj_T 100 mj_mK 876 [some (.ref 0), some (.ref 1), some (.ref 563), some (.ref 571), some (.int (jn i)), l5, l6, l7, l8] [] h Q := by
  obtain ⟨N0, u0, H0, hr0, s0, E0, J0⟩ := Y
  have A0 := J0.AS
  obtain ⟨t0, rfl⟩ : ∃ t0 : Nat, tm = (t0 : Int) := ⟨tm.toNat, by have := I.1.1.2.1; omega⟩
  refine mj_T.pl rfl rfl rfl rfl ?_
  refine jL.arg (k := 1) I.2.1 hi hL ⟨by decide, by decide⟩ rfl rfl rfl rfl rfl ?_
  refine jT.asJ ?_
  refine mj_T.eq (pc2 := 883) ?_ rfl rfl rfl rfl
  refine mj_T.pl rfl rfl rfl rfl ?_
  refine mj_T.call rfl rfl (Nat.le_of_ble_eq_true rfl) (Nat.le_of_ble_eq_true rfl) rfl rfl (mj_Ok.up (by decide) (mj_Ok.and (mj_Ok.up (by decide) ((mj_Ok.up (by decide : 57 ≤ 61) (jw_322 (D := 0) cTY I.1 ck0.2 (jr_of' _))).and (jv_322 I.1 (jr_of' _) X I.hT))) (jy_322 I.1 (jr_of' _) (mj_Ok.up (by decide) ((cz_114 A0 s0 (X.jBuf I.1.1) (by have := I.1.1.2.1; omega) I.hT (jr_of' _)).to (fun _ y => y.yz)))))) (fun v h1 hq => ?_) (fun i' h1 hq => by obtain ⟨hq, _⟩ := hq; obtain ⟨hq, _⟩ := hq; exact (by obtain ⟨_, hq, _⟩ := hq; cases hq))
  obtain ⟨hq, qy⟩ := hq
  obtain ⟨hq, qx⟩ := hq
  have X1 := qx
  obtain ⟨z, hv, ⟨n1, hn1, hn2, w1⟩, f1⟩ := hq
  cases hv
  have I1 := I.cls jZ_pl w1 hn1 f1
  have E1 := E0.frame jZ_pl f1 (by have e1 := I.1.1.1; have e2 := w1.1.1; have e3 := hn1; omega)
  refine mj_T.pl (loc' := [some (.ref 0), some (.ref 1), some (.ref 563), some (.ref 571), some (.int (jn i)), some (.int (jn z)), l6, l7, l8]) rfl rfl rfl rfl ?_
  refine mj_T.pl rfl rfl rfl rfl ?_
  refine jL.arg (k := 1) I1.2.1 hi hL ⟨by decide, by decide⟩ rfl rfl rfl rfl rfl ?_
  refine jT.asJ ?_
  refine mj_T.eq (pc2 := 896) ?_ rfl rfl rfl rfl
  obtain ⟨fs, ho⟩ := I1.obj
  by_cases hp : 0 ≤ (xs (i + 1).toNat).toInt ∧ (xs (i + 1).toNat).toInt ≤ 5
  · rw [if_pos hp] at I1
    have X1 := X1.elim (fun a => absurd hp a.1) (fun a => a.2)
    refine mj_T.call rfl rfl (Nat.le_of_ble_eq_true rfl) (Nat.le_of_ble_eq_true rfl) (by simp [mj_recv, ho]) rfl (mj_Ok.up (by decide) (mj_Ok.and (mj_Ok.up (by decide) ((I1.callI jZ_pl (fun hr hI => (rp_read (jr_of _) hI).to (fun r hh => hh.elim (fun a => a.2) (fun a => absurd hp a.1))) (fun N => rfl)).qt rfl)) (YX.call (tm' := 0) (er' := rdErr T t0) (T' := T) E1 qy (Q_read.ag _ _ _) ((rz_read (jr_of _) J0).to (fun r hh => hh.elim (fun a => a.2) (fun a => absurd hp a.1))) (fun N => rfl)))) (fun v h2 hq => ?_) (fun i' h2 hq => by obtain ⟨hq, _⟩ := hq; obtain ⟨hq, _⟩ := hq; exact (by obtain ⟨_, hq, _⟩ := hq; cases hq))
    obtain ⟨hq, Y2⟩ := hq
    obtain ⟨hq, qx⟩ := hq
    have X2 := X1.qt qx
    obtain ⟨z2, hv, I2⟩ := hq
    cases hv
    refine mj_T.pl (loc' := [some (.ref 0), some (.ref 1), some (.ref 563), some (.ref 571), some (.int (jn i)), some (.int (jn z)), some (.int (jn z2)), l7, l8]) rfl rfl rfl rfl ?_
    refine mj_T.pl rfl rfl rfl rfl ?_
    exact k n1 _ _ T h2 _ _ _ _ hn1 hn2 I2 X2 Y2
  · rw [if_neg hp] at I1
    have X1 := X1.elim (fun a => a.2) (fun a => absurd a.1 hp)
    refine mj_T.call rfl rfl (Nat.le_of_ble_eq_true rfl) (Nat.le_of_ble_eq_true rfl) (by simp [mj_recv, ho]) rfl (mj_Ok.up (by decide) (mj_Ok.and (mj_Ok.up (by decide) ((I1.callI jZ_pl (fun hr hI => (rp_read (jr_of _) hI).to (fun r hh => hh.elim (fun a => absurd a.1 hp) (fun a => a.2))) (fun N => rfl)).qt rfl)) (YX.call (tm' := (t0 : Int)) (er' := er) (T' := T) E1 qy (Q_read.ag _ _ _) ((rz_read (jr_of _) J0).to (fun r hh => hh.elim (fun a => absurd a.1 hp) (fun a => a.2))) (fun N => rfl)))) (fun v h2 hq => ?_) (fun i' h2 hq => by obtain ⟨hq, _⟩ := hq; obtain ⟨hq, _⟩ := hq; exact (by obtain ⟨_, hq, _⟩ := hq; cases hq))
    obtain ⟨hq, Y2⟩ := hq
    obtain ⟨hq, qx⟩ := hq
    have X2 := X1.qt qx
    obtain ⟨z2, hv, I2⟩ := hq
    cases hv
    refine mj_T.pl (loc' := [some (.ref 0), some (.ref 1), some (.ref 563), some (.ref 571), some (.int (jn i)), some (.int (jn z)), some (.int (jn z2)), l7, l8]) rfl rfl rfl rfl ?_
    refine mj_T.pl rfl rfl rfl rfl ?_
    exact k n1 _ _ T h2 _ _ _ _ hn1 hn2 I2 X2 Y2
theorem jL_11 {n Lx : Nat} {xs : Nat → Int32} {tm er i : Int} {T : Nat → Int} {h : mj_H} {l5 l6 l7 l8 : Option Value} {Q : mj_R → Prop} (hi : 0 ≤ i ∧ i + 6 ≤ Lx) (hL : Lx ≤ 3072) (I : jLi cK cL cR (.inl (100, Lx, fun j => .int (xs j))) 571 563 n tm er T h) (X : jcx er tm T h) (Y : YX tm er T h) (k : ∀ (n' : Nat) (tm' er' : Int) (T' : Nat → Int) (h' : mj_H) (l5 l6 l7 l8 : Option Value), n ≤ n' → n' ≤ n + 1 → jLi cK cL cR (.inl (100, Lx, fun j => .int (xs j))) 571 563 n' tm' er' T' h' → jcx er' tm' T' h' → YX tm' er' T' h' → mj_T 100 mj_mK 2072 [some (.ref 0), some (.ref 1), some (.ref 563), some (.ref 571), some (.int (jn i)), l5, l6, l7, l8] [] h' Q) : mj_T 100 mj_mK 792 [some (.ref 0), some (.ref 1), some (.ref 563), some (.ref 571), some (.int (jn i)), l5, l6, l7, l8] [] h Q := by
  obtain ⟨N0, u0, H0, hr0, s0, E0, J0⟩ := Y
  have A0 := J0.AS
  refine mj_T.pl rfl rfl rfl rfl ?_
  refine jL.arg (k := 1) I.2.1 hi hL ⟨by decide, by decide⟩ rfl rfl rfl rfl rfl ?_
  refine jT.asJ ?_
  refine mj_T.eq (pc2 := 799) ?_ rfl rfl rfl rfl
  refine jL.arg (k := 2) I.2.1 hi hL ⟨by decide, by decide⟩ rfl rfl rfl rfl rfl ?_
  refine jT.asJ ?_
  refine mj_T.eq (pc2 := 805) ?_ rfl rfl rfl rfl
  refine jL.arg (k := 3) I.2.1 hi hL ⟨by decide, by decide⟩ rfl rfl rfl rfl rfl ?_
  refine jT.asJ ?_
  refine mj_T.eq (pc2 := 811) ?_ rfl rfl rfl rfl
  refine mj_T.step rfl rfl rfl ?_
  iterate 2 refine mj_T.pl rfl rfl rfl rfl ?_
  refine mj_T.eq (pc2 := 815) ?_ rfl rfl rfl rfl
  refine jL.arg (k := 4) I.2.1 hi hL ⟨by decide, by decide⟩ rfl rfl rfl rfl rfl ?_
  refine jT.asJ ?_
  refine mj_T.eq (pc2 := 821) ?_ rfl rfl rfl rfl
  refine mj_T.step rfl rfl rfl ?_
  iterate 3 refine mj_T.pl rfl rfl rfl rfl ?_
  refine jT.asL ?_
  refine mj_T.pl rfl rfl rfl rfl ?_
  refine mj_T.call rfl rfl (Nat.le_of_ble_eq_true rfl) (Nat.le_of_ble_eq_true rfl) rfl rfl (mj_Ok.up (by decide) (mj_Ok.and (mj_Ok.up (by decide) ((jw_321 (D := 0) cTY I.1 ck0.2 (jr_of' _) (jr_of' _) (jR_of _)).qt rfl)) (jy_321 I.1 (jr_of' _) (jr_of' _) (jR_of _) ((cz_113 A0 s0 (jr_of' _) (jr_of' _) (jR_of _)).to (fun _ y => y.yz))))) (fun v h1 hq => ?_) (fun i' h1 hq => by obtain ⟨hq, _⟩ := hq; obtain ⟨hq, _⟩ := hq; exact (by obtain ⟨_, hq, _⟩ := hq; cases hq))
  obtain ⟨hq, qy⟩ := hq
  obtain ⟨hq, qx⟩ := hq
  have X1 := X.qt qx
  obtain ⟨z, hv, ⟨n1, hn1, hn2, w1⟩, f1⟩ := hq
  cases hv
  have I1 := I.cls jZ_pl w1 hn1 f1
  have E1 := E0.frame jZ_pl f1 (by have e1 := I.1.1.1; have e2 := w1.1.1; have e3 := hn1; omega)
  refine mj_T.pl (loc' := [some (.ref 0), some (.ref 1), some (.ref 563), some (.ref 571), some (.int (jn i)), some (.int (jn z)), l6, l7, l8]) rfl rfl rfl rfl ?_
  refine mj_T.pl rfl rfl rfl rfl ?_
  refine jL.arg (k := 1) I1.2.1 hi hL ⟨by decide, by decide⟩ rfl rfl rfl rfl rfl ?_
  refine jT.asJ ?_
  refine mj_T.eq (pc2 := 840) ?_ rfl rfl rfl rfl
  refine jL.arg (k := 2) I1.2.1 hi hL ⟨by decide, by decide⟩ rfl rfl rfl rfl rfl ?_
  refine jT.asJ ?_
  refine mj_T.eq (pc2 := 846) ?_ rfl rfl rfl rfl
  refine jL.arg (k := 3) I1.2.1 hi hL ⟨by decide, by decide⟩ rfl rfl rfl rfl rfl ?_
  refine jT.asJ ?_
  refine mj_T.eq (pc2 := 852) ?_ rfl rfl rfl rfl
  refine mj_T.step rfl rfl rfl ?_
  iterate 2 refine mj_T.pl rfl rfl rfl rfl ?_
  refine mj_T.eq (pc2 := 856) ?_ rfl rfl rfl rfl
  refine jL.arg (k := 4) I1.2.1 hi hL ⟨by decide, by decide⟩ rfl rfl rfl rfl rfl ?_
  refine jT.asJ ?_
  refine mj_T.eq (pc2 := 862) ?_ rfl rfl rfl rfl
  refine mj_T.step rfl rfl rfl ?_
  iterate 3 refine mj_T.pl rfl rfl rfl rfl ?_
  refine jT.asL ?_
  obtain ⟨fs, ho⟩ := I1.obj
  refine mj_T.call rfl rfl (Nat.le_of_ble_eq_true rfl) (Nat.le_of_ble_eq_true rfl) (by simp [mj_recv, ho]) rfl (mj_Ok.up (by decide) (mj_Ok.and (mj_Ok.up (by decide) ((I1.callI jZ_pl (fun hr hI => rp_setTerm (jr_of _) (jr_of _) (jR_of _) hI) (fun N => rfl)).qt rfl)) (YX.call (tm' := tm) (er' := er) (T' := T) E1 qy (Q_setTerm.ag _ _ _) (rz_setTerm (jr_of _) (jr_of _) (jR_of _) J0) (fun N => rfl)))) (fun v h2 hq => ?_) (fun i' h2 hq => by obtain ⟨hq, _⟩ := hq; obtain ⟨hq, _⟩ := hq; exact (by obtain ⟨_, hq, _⟩ := hq; cases hq))
  obtain ⟨hq, Y2⟩ := hq
  obtain ⟨hq, qx⟩ := hq
  have X2 := X1.qt qx
  obtain ⟨z2, hv, I2⟩ := hq
  cases hv
  refine mj_T.pl (loc' := [some (.ref 0), some (.ref 1), some (.ref 563), some (.ref 571), some (.int (jn i)), some (.int (jn z)), some (.int (jn z2)), l7, l8]) rfl rfl rfl rfl ?_
  refine mj_T.pl rfl rfl rfl rfl ?_
  exact k n1 tm er T h2 _ _ _ _ hn1 hn2 I2 X2 Y2
theorem jL_26 {n Lx : Nat} {xs : Nat → Int32} {tm er i : Int} {T : Nat → Int} {h : mj_H} {l5 l6 l7 l8 : Option Value} {Q : mj_R → Prop} (hi : 0 ≤ i ∧ i + 6 ≤ Lx) (hL : Lx ≤ 3072) (I : jLi cK cL cR (.inl (100, Lx, fun j => .int (xs j))) 571 563 n tm er T h) (X : jcx er tm T h) (Y : YX tm er T h) (k : ∀ (n' : Nat) (tm' er' : Int) (T' : Nat → Int) (h' : mj_H) (l5 l6 l7 l8 : Option Value), n ≤ n' → n' ≤ n + 1 → jLi cK cL cR (.inl (100, Lx, fun j => .int (xs j))) 571 563 n' tm' er' T' h' → jcx er' tm' T' h' → YX tm' er' T' h' → mj_T 100 mj_mK 2072 [some (.ref 0), some (.ref 1), some (.ref 563), some (.ref 571), some (.int (jn i)), l5, l6, l7, l8] [] h' Q) : mj_T 100 mj_mK 1334 [some (.ref 0), some (.ref 1), some (.ref 563), some (.ref 571), some (.int (jn i)), l5, l6, l7, l8] [] h Q := by
  obtain ⟨N0, u0, H0, hr0, s0, E0, J0⟩ := Y
  have A0 := J0.AS
  refine mj_T.pl rfl rfl rfl rfl ?_
  refine jL.arg (k := 1) I.2.1 hi hL ⟨by decide, by decide⟩ rfl rfl rfl rfl rfl ?_
  refine jT.asJ ?_
  refine mj_T.eq (pc2 := 1341) ?_ rfl rfl rfl rfl
  have tj : ∀ zb : Int, 0 ≤ zb ∧ zb ≤ 1 → mj_T 100 mj_mK 1349 [some (.ref 0), some (.ref 1), some (.ref 563), some (.ref 571), some (.int (jn i)), l5, l6, l7, l8] [.int (jn zb), .ref 1] h Q := by
    intro zb hzb
    refine mj_T.call rfl rfl (Nat.le_of_ble_eq_true rfl) (Nat.le_of_ble_eq_true rfl) (jrv_of I.1.1 ck0.2 (by decide) rfl (by decide) rfl _) rfl (mj_Ok.up (by decide) (mj_Ok.and (mj_Ok.up (by decide) ((mj_Ok.to (jc_128 (D := 0) cTY (Nat.le_of_eq I.1.1.1) I.1.1 ck0.2 hzb) (fun _ k => jQp.toQ I.1.1 k)).qt rfl)) (yr_128 A0 s0 I.1 hzb))) (fun v h1 hq => ?_) (fun i' h1 hq => by obtain ⟨hq, _⟩ := hq; obtain ⟨hq, _⟩ := hq; exact (absurd hq.1 (by simp)))
    obtain ⟨hq, qy⟩ := hq
    obtain ⟨hq, qx⟩ := hq
    have X1 := X.qt qx
    obtain ⟨⟨z, _, _, rfl⟩, o1⟩ := hq
    have I1 := I.cls jZ_pl (I.1.thr o1) (Nat.le_refl n) (jLf.of o1)
    have E1 := E0.frame jZ_pl (jLf.of o1) (by have e1 := I.1.1.1; have e2 := (I.1.thr o1).1.1; have e3 := (Nat.le_refl n); omega)
    refine mj_T.pl rfl rfl rfl rfl ?_
    refine mj_T.pl rfl rfl rfl rfl ?_
    refine jL.arg (k := 1) I1.2.1 hi hL ⟨by decide, by decide⟩ rfl rfl rfl rfl rfl ?_
    refine jT.asJ ?_
    refine mj_T.eq (pc2 := 1360) ?_ rfl rfl rfl rfl
    have tk : ∀ zb : Int, 0 ≤ zb ∧ zb ≤ 1 → mj_T 100 mj_mK 1368 [some (.ref 0), some (.ref 1), some (.ref 563), some (.ref 571), some (.int (jn i)), l5, l6, l7, l8] [.int (jn zb), .ref 563] h1 Q := by
      intro zb hzb
      obtain ⟨fs, ho⟩ := I1.obj
      refine mj_T.call rfl rfl (Nat.le_of_ble_eq_true rfl) (Nat.le_of_ble_eq_true rfl) (by simp [mj_recv, ho]) rfl (mj_Ok.up (by decide) (mj_Ok.and (mj_Ok.up (by decide) ((I1.callI jZ_pl (fun hr hI => rp_digits ⟨by omega, by omega⟩ hI) (fun N => rfl)).qt rfl)) (YX.call (tm' := tm) (er' := er) (T' := T) E1 qy (sameQ.ag _ _ _) ((rx_digits ⟨by omega, by omega⟩ J0).to (fun r k => rIx.z k ⟨rfl, rfl, rfl⟩)) (fun N => rfl)))) (fun v h2 hq => ?_) (fun i' h2 hq => by obtain ⟨hq, _⟩ := hq; obtain ⟨hq, _⟩ := hq; exact (by obtain ⟨_, hq, _⟩ := hq; cases hq))
      obtain ⟨hq, Y2⟩ := hq
      obtain ⟨hq, qx⟩ := hq
      have X2 := X1.qt qx
      obtain ⟨z2, hv, I2⟩ := hq
      cases hv
      iterate 2 refine mj_T.pl rfl rfl rfl rfl ?_
      exact k n tm er T h2 _ _ _ _ (Nat.le_refl n) (Nat.le_succ n) I2 X2 Y2
    refine jT.if0 rfl (jr_of' _) (fun _ => ?_) (fun _ => ?_)
    · refine mj_T.pl rfl rfl rfl rfl ?_
      exact tk 0 ⟨by decide, by decide⟩
    · iterate 2 refine mj_T.pl rfl rfl rfl rfl ?_
      exact tk 1 ⟨by decide, by decide⟩
  refine jT.if0 rfl (jr_of' _) (fun _ => ?_) (fun _ => ?_)
  · refine mj_T.pl rfl rfl rfl rfl ?_
    exact tj 0 ⟨by decide, by decide⟩
  · iterate 2 refine mj_T.pl rfl rfl rfl rfl ?_
    exact tj 1 ⟨by decide, by decide⟩
theorem jL_27 {n Lx : Nat} {xs : Nat → Int32} {tm er i : Int} {T : Nat → Int} {h : mj_H} {l5 l6 l7 l8 : Option Value} {Q : mj_R → Prop} (hi : 0 ≤ i ∧ i + 6 ≤ Lx) (hL : Lx ≤ 3072) (I : jLi cK cL cR (.inl (100, Lx, fun j => .int (xs j))) 571 563 n tm er T h) (X : jcx er tm T h) (Y : YX tm er T h) (k : ∀ (n' : Nat) (tm' er' : Int) (T' : Nat → Int) (h' : mj_H) (l5 l6 l7 l8 : Option Value), n ≤ n' → n' ≤ n + 1 → jLi cK cL cR (.inl (100, Lx, fun j => .int (xs j))) 571 563 n' tm' er' T' h' → jcx er' tm' T' h' → YX tm' er' T' h' → mj_T 100 mj_mK 2072 [some (.ref 0), some (.ref 1), some (.ref 563), some (.ref 571), some (.int (jn i)), l5, l6, l7, l8] [] h' Q) : mj_T 100 mj_mK 1375 [some (.ref 0), some (.ref 1), some (.ref 563), some (.ref 571), some (.int (jn i)), l5, l6, l7, l8] [] h Q := by
  obtain ⟨N0, u0, H0, hr0, s0, E0, J0⟩ := Y
  have A0 := J0.AS
  refine mj_T.pl rfl rfl rfl rfl ?_
  refine jL.arg (k := 1) I.2.1 hi hL ⟨by decide, by decide⟩ rfl rfl rfl rfl rfl ?_
  refine jT.asJ ?_
  refine mj_T.eq (pc2 := 1382) ?_ rfl rfl rfl rfl
  have tj : ∀ zb : Int, 0 ≤ zb ∧ zb ≤ 1 → mj_T 100 mj_mK 1390 [some (.ref 0), some (.ref 1), some (.ref 563), some (.ref 571), some (.int (jn i)), l5, l6, l7, l8] [.int (jn zb), .ref 1] h Q := by
    intro zb hzb
    refine jL.arg (k := 2) I.2.1 hi hL ⟨by decide, by decide⟩ rfl rfl rfl rfl rfl ?_
    refine jT.asJ ?_
    refine mj_T.eq (pc2 := 1396) ?_ rfl rfl rfl rfl
    refine mj_T.pl rfl rfl rfl rfl ?_
    refine mj_T.call rfl rfl (Nat.le_of_ble_eq_true rfl) (Nat.le_of_ble_eq_true rfl) rfl rfl (mj_Ok.up (by decide) (mj_Ok.and (mj_Ok.up (by decide) ((jw_334 (D := 0) cTY I.1 ck0.2 hzb (jr_of' _)).qt rfl)) (jy_334 I.1 hzb (jr_of' _) (yr_129 A0 s0 I.1 hzb (jr_of' _))))) (fun v h1 hq => ?_) (fun i' h1 hq => by obtain ⟨hq, _⟩ := hq; obtain ⟨hq, _⟩ := hq; exact (by obtain ⟨_, hq, _⟩ := hq; cases hq))
    obtain ⟨hq, qy⟩ := hq
    obtain ⟨hq, qx⟩ := hq
    have X1 := X.qt qx
    obtain ⟨z, hv, ⟨n1, hn1, hn2, w1⟩, f1⟩ := hq
    cases hv
    have I1 := I.cls jZ_pl w1 hn1 f1
    have E1 := E0.frame jZ_pl f1 (by have e1 := I.1.1.1; have e2 := w1.1.1; have e3 := hn1; omega)
    refine mj_T.pl (loc' := [some (.ref 0), some (.ref 1), some (.ref 563), some (.ref 571), some (.int (jn i)), some (.int (jn z)), l6, l7, l8]) rfl rfl rfl rfl ?_
    refine mj_T.pl rfl rfl rfl rfl ?_
    refine jL.arg (k := 1) I1.2.1 hi hL ⟨by decide, by decide⟩ rfl rfl rfl rfl rfl ?_
    refine jT.asJ ?_
    refine mj_T.eq (pc2 := 1409) ?_ rfl rfl rfl rfl
    have tk : ∀ zb : Int, 0 ≤ zb ∧ zb ≤ 1 → mj_T 100 mj_mK 1417 [some (.ref 0), some (.ref 1), some (.ref 563), some (.ref 571), some (.int (jn i)), some (.int (jn z)), l6, l7, l8] [.int (jn zb), .ref 563] h1 Q := by
      intro zb hzb
      obtain ⟨fs, ho⟩ := I1.obj
      refine jL.arg (k := 2) I1.2.1 hi hL ⟨by decide, by decide⟩ rfl rfl rfl rfl rfl ?_
      refine jT.asJ ?_
      refine mj_T.eq (pc2 := 1423) ?_ rfl rfl rfl rfl
      refine mj_T.call rfl rfl (Nat.le_of_ble_eq_true rfl) (Nat.le_of_ble_eq_true rfl) (by simp [mj_recv, ho]) rfl (mj_Ok.up (by decide) (mj_Ok.and (mj_Ok.up (by decide) ((I1.callI jZ_pl (fun hr hI => rp_digit ⟨by omega, by omega⟩ (jr_of _) hI) (fun N => rfl)).qt rfl)) (YX.call (tm' := tm) (er' := er) (T' := T) E1 qy (sameQ.ag _ _ _) ((rx_digit ⟨by omega, by omega⟩ (jr_of _) J0).to (fun r k => rIx.z k ⟨rfl, rfl, rfl⟩)) (fun N => rfl)))) (fun v h2 hq => ?_) (fun i' h2 hq => by obtain ⟨hq, _⟩ := hq; obtain ⟨hq, _⟩ := hq; exact (by obtain ⟨_, hq, _⟩ := hq; cases hq))
      obtain ⟨hq, Y2⟩ := hq
      obtain ⟨hq, qx⟩ := hq
      have X2 := X1.qt qx
      obtain ⟨z2, hv, I2⟩ := hq
      cases hv
      refine mj_T.pl (loc' := [some (.ref 0), some (.ref 1), some (.ref 563), some (.ref 571), some (.int (jn i)), some (.int (jn z)), some (.int (jn z2)), l7, l8]) rfl rfl rfl rfl ?_
      refine mj_T.pl rfl rfl rfl rfl ?_
      exact k n1 tm er T h2 _ _ _ _ hn1 hn2 I2 X2 Y2
    refine jT.if0 rfl (jr_of' _) (fun _ => ?_) (fun _ => ?_)
    · refine mj_T.pl rfl rfl rfl rfl ?_
      exact tk 0 ⟨by decide, by decide⟩
    · iterate 2 refine mj_T.pl rfl rfl rfl rfl ?_
      exact tk 1 ⟨by decide, by decide⟩
  refine jT.if0 rfl (jr_of' _) (fun _ => ?_) (fun _ => ?_)
  · refine mj_T.pl rfl rfl rfl rfl ?_
    exact tj 0 ⟨by decide, by decide⟩
  · iterate 2 refine mj_T.pl rfl rfl rfl rfl ?_
    exact tj 1 ⟨by decide, by decide⟩
theorem jL_28 {n Lx : Nat} {xs : Nat → Int32} {tm er i : Int} {T : Nat → Int} {h : mj_H} {l5 l6 l7 l8 : Option Value} {Q : mj_R → Prop} (hi : 0 ≤ i ∧ i + 6 ≤ Lx) (hL : Lx ≤ 3072) (I : jLi cK cL cR (.inl (100, Lx, fun j => .int (xs j))) 571 563 n tm er T h) (X : jcx er tm T h) (Y : YX tm er T h) (k : ∀ (n' : Nat) (tm' er' : Int) (T' : Nat → Int) (h' : mj_H) (l5 l6 l7 l8 : Option Value), n ≤ n' → n' ≤ n + 1 → jLi cK cL cR (.inl (100, Lx, fun j => .int (xs j))) 571 563 n' tm' er' T' h' → jcx er' tm' T' h' → YX tm' er' T' h' → mj_T 100 mj_mK 2072 [some (.ref 0), some (.ref 1), some (.ref 563), some (.ref 571), some (.int (jn i)), l5, l6, l7, l8] [] h' Q) : mj_T 100 mj_mK 1431 [some (.ref 0), some (.ref 1), some (.ref 563), some (.ref 571), some (.int (jn i)), l5, l6, l7, l8] [] h Q := by
  obtain ⟨N0, u0, H0, hr0, s0, E0, J0⟩ := Y
  have A0 := J0.AS
  refine mj_T.pl rfl rfl rfl rfl ?_
  refine jL.arg (k := 1) I.2.1 hi hL ⟨by decide, by decide⟩ rfl rfl rfl rfl rfl ?_
  refine jT.asJ ?_
  refine mj_T.eq (pc2 := 1438) ?_ rfl rfl rfl rfl
  have tj : ∀ zb : Int, 0 ≤ zb ∧ zb ≤ 1 → mj_T 100 mj_mK 1446 [some (.ref 0), some (.ref 1), some (.ref 563), some (.ref 571), some (.int (jn i)), l5, l6, l7, l8] [.int (jn zb), .ref 1] h Q := by
    intro zb hzb
    refine mj_T.call rfl rfl (Nat.le_of_ble_eq_true rfl) (Nat.le_of_ble_eq_true rfl) (jrv_of I.1.1 ck0.2 (by decide) rfl (by decide) rfl _) rfl (mj_Ok.up (by decide) (mj_Ok.and (mj_Ok.up (by decide) ((mj_Ok.to (jc_130 (D := 0) cTY (Nat.le_of_eq I.1.1.1) I.1.1 ck0.2 hzb) (fun _ k => jQp.toQ I.1.1 k)).qt rfl)) (yr_130 A0 s0 I.1 hzb))) (fun v h1 hq => ?_) (fun i' h1 hq => by obtain ⟨hq, _⟩ := hq; obtain ⟨hq, _⟩ := hq; exact (absurd hq.1 (by simp)))
    obtain ⟨hq, qy⟩ := hq
    obtain ⟨hq, qx⟩ := hq
    have X1 := X.qt qx
    obtain ⟨⟨z, _, rfl⟩, o1⟩ := hq
    have I1 := I.cls jZ_pl (I.1.thr o1) (Nat.le_refl n) (jLf.of o1)
    have E1 := E0.frame jZ_pl (jLf.of o1) (by have e1 := I.1.1.1; have e2 := (I.1.thr o1).1.1; have e3 := (Nat.le_refl n); omega)
    refine mj_T.pl rfl rfl rfl rfl ?_
    refine mj_T.pl rfl rfl rfl rfl ?_
    refine jL.arg (k := 1) I1.2.1 hi hL ⟨by decide, by decide⟩ rfl rfl rfl rfl rfl ?_
    refine jT.asJ ?_
    refine mj_T.eq (pc2 := 1457) ?_ rfl rfl rfl rfl
    have tk : ∀ zb : Int, 0 ≤ zb ∧ zb ≤ 1 → mj_T 100 mj_mK 1465 [some (.ref 0), some (.ref 1), some (.ref 563), some (.ref 571), some (.int (jn i)), l5, l6, l7, l8] [.int (jn zb), .ref 563] h1 Q := by
      intro zb hzb
      obtain ⟨fs, ho⟩ := I1.obj
      refine mj_T.call rfl rfl (Nat.le_of_ble_eq_true rfl) (Nat.le_of_ble_eq_true rfl) (by simp [mj_recv, ho]) rfl (mj_Ok.up (by decide) (mj_Ok.and (mj_Ok.up (by decide) ((I1.callJ jZ_pl (fun hr hI => rp_low ⟨by omega, by omega⟩ hI) (fun N => rfl)).qt rfl)) (YX.call (tm' := tm) (er' := er) (T' := T) E1 qy (sameQ.ag _ _ _) ((rx_low ⟨by omega, by omega⟩ J0).to (fun r k => rJx.z k ⟨rfl, rfl, rfl⟩)) (fun N => rfl)))) (fun v h2 hq => ?_) (fun i' h2 hq => by obtain ⟨hq, _⟩ := hq; obtain ⟨hq, _⟩ := hq; exact (by obtain ⟨_, hq, _⟩ := hq; cases hq))
      obtain ⟨hq, Y2⟩ := hq
      obtain ⟨hq, qx⟩ := hq
      have X2 := X1.qt qx
      obtain ⟨z2, hv, I2⟩ := hq
      cases hv
      iterate 2 refine mj_T.pl rfl rfl rfl rfl ?_
      exact k n tm er T h2 _ _ _ _ (Nat.le_refl n) (Nat.le_succ n) I2 X2 Y2
    refine jT.if0 rfl (jr_of' _) (fun _ => ?_) (fun _ => ?_)
    · refine mj_T.pl rfl rfl rfl rfl ?_
      exact tk 0 ⟨by decide, by decide⟩
    · iterate 2 refine mj_T.pl rfl rfl rfl rfl ?_
      exact tk 1 ⟨by decide, by decide⟩
  refine jT.if0 rfl (jr_of' _) (fun _ => ?_) (fun _ => ?_)
  · refine mj_T.pl rfl rfl rfl rfl ?_
    exact tj 0 ⟨by decide, by decide⟩
  · iterate 2 refine mj_T.pl rfl rfl rfl rfl ?_
    exact tj 1 ⟨by decide, by decide⟩
