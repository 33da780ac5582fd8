/-! Rounds of the law. -/
theorem jf2d : ∀ k, k < 10 → FP.f2d (FP.fdiv (FP.i2f (Int32.ofNat k)) (UInt32.ofNat 1086324736)) &&& 0x7fffffffffffffff ≤ 0x7ff0000000000000 := by decide +kernel
theorem jL_44 {n Lx : Nat} {xs : Nat → Int32} {tm er i : Int} {T : Nat → Int} {h : mj_H} {l5 l6 l7 l8 : Option Value} {Q : mj_R → Prop} (hi : 0 ≤ i ∧ i + 6 ≤ Lx) (hL : Lx ≤ 3072) (I : jLi cK cL cR (.inl (100, Lx, fun j => .int (xs j))) 571 563 n tm er T h) (X : jcx er tm T h) (Y : YX tm er T h) (k : ∀ (n' : Nat) (tm' er' : Int) (T' : Nat → Int) (h' : mj_H) (l5 l6 l7 l8 : Option Value), n ≤ n' → n' ≤ n + 1 → jLi cK cL cR (.inl (100, Lx, fun j => .int (xs j))) 571 563 n' tm' er' T' h' → jcx er' tm' T' h' → YX tm' er' T' h' → mj_T 100 mj_mK 2072 [some (.ref 0), some (.ref 1), some (.ref 563), some (.ref 571), some (.int (jn i)), l5, l6, l7, l8] [] h' Q) : mj_T 100 mj_mK 2027 [some (.ref 0), some (.ref 1), some (.ref 563), some (.ref 571), some (.int (jn i)), l5, l6, l7, l8] [] h Q := by
  obtain ⟨N0, u0, H0, hr0, s0, E0, J0⟩ := Y
  have A0 := J0.AS
  refine mj_T.pl rfl rfl rfl rfl ?_
  refine mj_T.call rfl rfl (Nat.le_of_ble_eq_true rfl) (Nat.le_of_ble_eq_true rfl) (jrv_of I.1.1 ck0.2 (by decide) rfl (by decide) rfl _) rfl (mj_Ok.up (by decide) (mj_Ok.and (mj_Ok.up (by decide) ((mj_Ok.to (jc_146 (D := 0) cTY (Nat.le_of_eq I.1.1.1) I.1.1 ck0.2) (fun _ k => jQp.toQ I.1.1 k)).qt rfl)) (yr_146 A0 s0 I.1))) (fun v h1 hq => ?_) (fun i' h1 hq => by obtain ⟨hq, _⟩ := hq; obtain ⟨hq, _⟩ := hq; exact (absurd hq.1 (by simp)))
  obtain ⟨hq, qy⟩ := hq
  obtain ⟨hq, qx⟩ := hq
  have X1 := X.qt qx
  obtain ⟨⟨x, rfl⟩, o1⟩ := hq
  have I1 := I.cls jZ_pl (I.1.thr o1) (Nat.le_refl n) (jLf.of o1)
  have E1 := E0.frame jZ_pl (jLf.of o1) (by have e1 := I.1.1.1; have e2 := (I.1.thr o1).1.1; have e3 := (Nat.le_refl n); omega)
  refine mj_T.pl (loc' := [some (.ref 0), some (.ref 1), some (.ref 563), some (.ref 571), some (.int (jn i)), some (.double x), none, l7, l8]) rfl rfl rfl rfl ?_
  refine mj_T.pl rfl rfl rfl rfl ?_
  obtain ⟨fs, ho⟩ := I1.obj
  have hc : mj_Ok 40 307 [.ref 563] h1 (fun r => ∃ x2, r.1 = .inl (some (.double x2)) ∧ jLc cK cL cR (.inl (100, Lx, fun j => .int (xs j))) 571 563 n tm tm er T r.2) := by
    refine (I1.call jZ_pl (fun hr hI => rp_meanTerms hI) (fun r hr => ?_) (fun N => rfl)).to (fun r ⟨r0, hr', a, b, d, s0, e⟩ => ?_)
    · obtain ⟨x2, h2, rfl, k⟩ := hr
      exact ⟨_, _, _, k⟩
    · obtain ⟨x2, h2, e2, k⟩ := a
      cases e2
      exact ⟨_, b, d, s0, hr', e, k⟩
  refine mj_T.call rfl rfl (Nat.le_of_ble_eq_true rfl) (Nat.le_of_ble_eq_true rfl) (by simp [mj_recv, ho]) rfl (mj_Ok.up (by decide) (mj_Ok.and (mj_Ok.up (by decide) (hc.qt rfl)) (YX.call (tm' := tm) (er' := er) (T' := T) E1 qy (sameQ.ag _ _ _) ((rx_meanTerms J0).to (fun r k => rDx.z k ⟨rfl, rfl, rfl⟩)) (fun N => rfl)))) (fun v h2 hq => ?_) (fun i' h2 hq => by obtain ⟨hq, _⟩ := hq; obtain ⟨hq, _⟩ := hq; exact (by obtain ⟨_, hq, _⟩ := hq; cases hq))
  obtain ⟨hq, Y2⟩ := hq
  obtain ⟨hq, qx⟩ := hq
  have X2 := X1.qt qx
  obtain ⟨x2, hv, I2⟩ := hq
  cases hv
  refine mj_T.pl (loc' := [some (.ref 0), some (.ref 1), some (.ref 563), some (.ref 571), some (.int (jn i)), some (.double x), none, some (.double x2), none]) rfl rfl rfl rfl ?_
  refine mj_T.pl rfl rfl rfl rfl ?_
  exact k n tm er T h2 _ _ _ _ (Nat.le_refl n) (Nat.le_succ n) I2 X2 Y2
