/-! Rounds of the law. -/
theorem jL_14 {K L : Nat → Nat} {R : Nat → Nat → Nat} {q m n Lx : Nat} {xs : Nat → Int32} {tm er i : Int} {T : Nat → Int} {h : mj_H} {l5 l6 l7 l8 : Option Value} {Q : mj_R → Prop} (ty : jTY K L R) (hm : jPl K q m) (k1 : K 1 = 19) (hi : 0 ≤ i ∧ i + 6 ≤ Lx) (hL : Lx ≤ 3072) (I : jLi K L R (.inl (100, Lx, fun j => .int (xs j))) q m n tm er T h) (k : ∀ (n' : Nat) (tm' er' : Int) (T' : Nat → Int) (h' : mj_H) (l5 l6 l7 l8 : Option Value), n ≤ n' → n' ≤ n + 1 → jLi K L R (.inl (100, Lx, fun j => .int (xs j))) q m n' tm' er' T' h' → mj_T 100 mj_mK 2072 [some (.ref 0), some (.ref 1), some (.ref m), some (.ref q), some (.int (jn i)), l5, l6, l7, l8] [] h' Q) : mj_T 100 mj_mK 944 [some (.ref 0), some (.ref 1), some (.ref m), some (.ref q), some (.int (jn i)), l5, l6, l7, l8] [] h Q := by
  refine mj_T.pl rfl rfl rfl rfl ?_
  refine mj_T.call rfl rfl (Nat.le_of_ble_eq_true rfl) (Nat.le_of_ble_eq_true rfl) (jrv_of I.1.1 k1 (by decide) rfl (by decide) rfl _) rfl (mj_Ok.up (by decide) (jc_116 (D := 0) ty (Nat.le_of_eq I.1.1.1) I.1.1 k1)) (fun v h1 hq => ?_) (fun i' h1 hq => absurd hq.1 (by simp))
  obtain ⟨⟨z, _, _, rfl⟩, o1⟩ := hq
  have I1 := I.cls hm (I.1.thr o1) (Nat.le_refl n) (jLf.of o1)
  iterate 2 refine mj_T.pl rfl rfl rfl rfl ?_
  obtain ⟨fs, ho⟩ := I1.obj
  refine mj_T.call rfl rfl (Nat.le_of_ble_eq_true rfl) (Nat.le_of_ble_eq_true rfl) (by simp [mj_recv, ho]) rfl (mj_Ok.up (by decide) (I1.callI hm (fun hr hI => rp_clearPoints hI) (fun N => rfl))) (fun v h2 hq => ?_) (fun i' h2 hq => by obtain ⟨_, hq, _⟩ := hq; cases hq)
  obtain ⟨z2, hv, I2⟩ := hq
  cases hv
  iterate 2 refine mj_T.pl rfl rfl rfl rfl ?_
  exact k n tm er T h2 _ _ _ _ (Nat.le_refl n) (Nat.le_succ n) I2
theorem jL_16 {K L : Nat → Nat} {R : Nat → Nat → Nat} {q m n Lx : Nat} {xs : Nat → Int32} {tm er i : Int} {T : Nat → Int} {h : mj_H} {l5 l6 l7 l8 : Option Value} {Q : mj_R → Prop} (ty : jTY K L R) (hm : jPl K q m) (k1 : K 1 = 19) (hi : 0 ≤ i ∧ i + 6 ≤ Lx) (hL : Lx ≤ 3072) (I : jLi K L R (.inl (100, Lx, fun j => .int (xs j))) q m n tm er T h) (k : ∀ (n' : Nat) (tm' er' : Int) (T' : Nat → Int) (h' : mj_H) (l5 l6 l7 l8 : Option Value), n ≤ n' → n' ≤ n + 1 → jLi K L R (.inl (100, Lx, fun j => .int (xs j))) q m n' tm' er' T' h' → mj_T 100 mj_mK 2072 [some (.ref 0), some (.ref 1), some (.ref m), some (.ref q), some (.int (jn i)), l5, l6, l7, l8] [] h' Q) : mj_T 100 mj_mK 985 [some (.ref 0), some (.ref 1), some (.ref m), some (.ref q), some (.int (jn i)), l5, l6, l7, l8] [] h Q := by
  refine mj_T.pl rfl rfl rfl rfl ?_
  refine mj_T.call rfl rfl (Nat.le_of_ble_eq_true rfl) (Nat.le_of_ble_eq_true rfl) (jrv_of I.1.1 k1 (by decide) rfl (by decide) rfl _) rfl (mj_Ok.up (by decide) (jc_118 (D := 0) ty (Nat.le_of_eq I.1.1.1) I.1.1 k1)) (fun v h1 hq => ?_) (fun i' h1 hq => absurd hq.1 (by simp))
  obtain ⟨⟨z, _, _, rfl⟩, o1⟩ := hq
  have I1 := I.cls hm (I.1.thr o1) (Nat.le_refl n) (jLf.of o1)
  iterate 2 refine mj_T.pl rfl rfl rfl rfl ?_
  obtain ⟨fs, ho⟩ := I1.obj
  refine mj_T.call rfl rfl (Nat.le_of_ble_eq_true rfl) (Nat.le_of_ble_eq_true rfl) (by simp [mj_recv, ho]) rfl (mj_Ok.up (by decide) (I1.callI hm (fun hr hI => rp_undo hI) (fun N => rfl))) (fun v h2 hq => ?_) (fun i' h2 hq => by obtain ⟨_, hq, _⟩ := hq; cases hq)
  obtain ⟨z2, hv, I2⟩ := hq
  cases hv
  iterate 2 refine mj_T.pl rfl rfl rfl rfl ?_
  exact k n tm er T h2 _ _ _ _ (Nat.le_refl n) (Nat.le_succ n) I2
theorem jL_38 {K L : Nat → Nat} {R : Nat → Nat → Nat} {q m n Lx : Nat} {xs : Nat → Int32} {tm er i : Int} {T : Nat → Int} {h : mj_H} {l5 l6 l7 l8 : Option Value} {Q : mj_R → Prop} (ty : jTY K L R) (hm : jPl K q m) (k1 : K 1 = 19) (hi : 0 ≤ i ∧ i + 6 ≤ Lx) (hL : Lx ≤ 3072) (I : jLi K L R (.inl (100, Lx, fun j => .int (xs j))) q m n tm er T h) (k : ∀ (n' : Nat) (tm' er' : Int) (T' : Nat → Int) (h' : mj_H) (l5 l6 l7 l8 : Option Value), n ≤ n' → n' ≤ n + 1 → jLi K L R (.inl (100, Lx, fun j => .int (xs j))) q m n' tm' er' T' h' → mj_T 100 mj_mK 2072 [some (.ref 0), some (.ref 1), some (.ref m), some (.ref q), some (.int (jn i)), l5, l6, l7, l8] [] h' Q) : mj_T 100 mj_mK 1856 [some (.ref 0), some (.ref 1), some (.ref m), some (.ref q), some (.int (jn i)), l5, l6, l7, l8] [] h Q := by
  refine mj_T.pl rfl rfl rfl rfl ?_
  refine mj_T.call rfl rfl (Nat.le_of_ble_eq_true rfl) (Nat.le_of_ble_eq_true rfl) (jrv_of I.1.1 k1 (by decide) rfl (by decide) rfl _) rfl (mj_Ok.up (by decide) (mj_Ok.to (jc_140 (D := 0) ty (Nat.le_of_eq I.1.1.1) I.1.1 k1) (fun _ k => jQp.toQ I.1.1 k))) (fun v h1 hq => ?_) (fun i' h1 hq => absurd hq.1 (by simp))
  obtain ⟨⟨z, _, _, rfl⟩, o1⟩ := hq
  have I1 := I.cls hm (I.1.thr o1) (Nat.le_refl n) (jLf.of o1)
  iterate 2 refine mj_T.pl rfl rfl rfl rfl ?_
  obtain ⟨fs, ho⟩ := I1.obj
  refine mj_T.call rfl rfl (Nat.le_of_ble_eq_true rfl) (Nat.le_of_ble_eq_true rfl) (by simp [mj_recv, ho]) rfl (mj_Ok.up (by decide) (I1.callI hm (fun hr hI => rp_pointCount hI) (fun N => rfl))) (fun v h2 hq => ?_) (fun i' h2 hq => by obtain ⟨_, hq, _⟩ := hq; cases hq)
  obtain ⟨z2, hv, I2⟩ := hq
  cases hv
  iterate 2 refine mj_T.pl rfl rfl rfl rfl ?_
  exact k n tm er T h2 _ _ _ _ (Nat.le_refl n) (Nat.le_succ n) I2
theorem jL_40 {K L : Nat → Nat} {R : Nat → Nat → Nat} {q m n Lx : Nat} {xs : Nat → Int32} {tm er i : Int} {T : Nat → Int} {h : mj_H} {l5 l6 l7 l8 : Option Value} {Q : mj_R → Prop} (ty : jTY K L R) (hm : jPl K q m) (k1 : K 1 = 19) (hi : 0 ≤ i ∧ i + 6 ≤ Lx) (hL : Lx ≤ 3072) (I : jLi K L R (.inl (100, Lx, fun j => .int (xs j))) q m n tm er T h) (k : ∀ (n' : Nat) (tm' er' : Int) (T' : Nat → Int) (h' : mj_H) (l5 l6 l7 l8 : Option Value), n ≤ n' → n' ≤ n + 1 → jLi K L R (.inl (100, Lx, fun j => .int (xs j))) q m n' tm' er' T' h' → mj_T 100 mj_mK 2072 [some (.ref 0), some (.ref 1), some (.ref m), some (.ref q), some (.int (jn i)), l5, l6, l7, l8] [] h' Q) : mj_T 100 mj_mK 1945 [some (.ref 0), some (.ref 1), some (.ref m), some (.ref q), some (.int (jn i)), l5, l6, l7, l8] [] h Q := by
  refine mj_T.pl rfl rfl rfl rfl ?_
  refine mj_T.call rfl rfl (Nat.le_of_ble_eq_true rfl) (Nat.le_of_ble_eq_true rfl) (jrv_of I.1.1 k1 (by decide) rfl (by decide) rfl _) rfl (mj_Ok.up (by decide) (jc_142 (D := 0) ty I.1.1 k1)) (fun v h1 hq => ?_) (fun i' h1 hq => by obtain ⟨hq, _⟩ := hq; cases hq)
  obtain ⟨hv, o1⟩ := hq
  cases hv
  have I1 := I.cls hm (I.1.thr o1) (Nat.le_refl n) (jLf.of o1)
  refine mj_T.pl rfl rfl rfl rfl ?_
  obtain ⟨fs, ho⟩ := I1.obj
  have hc : mj_Ok 40 286 [.ref m] h1 (fun r => ∃ z : Int, z = tm ∧ r.1 = .inl (some (.int (jn z))) ∧ jLc K L R (.inl (100, Lx, fun j => .int (xs j))) q m n 0 0 er T r.2) := by
    refine (I1.call hm (fun hr hI => rp_clearText hI) (fun r hr => ?_) (fun N => rfl)).to (fun r ⟨r0, hr', a, b, d, s0, e⟩ => ?_)
    · obtain ⟨h2, rfl, k⟩ := hr
      exact ⟨_, _, _, k⟩
    · obtain ⟨h2, e2, k⟩ := a
      cases e2
      exact ⟨_, rfl, b, d, s0, hr', e, k⟩
  refine mj_T.call rfl rfl (Nat.le_of_ble_eq_true rfl) (Nat.le_of_ble_eq_true rfl) (by simp [mj_recv, ho]) rfl (mj_Ok.up (by decide) hc) (fun v h2 hq => ?_) (fun i' h2 hq => by obtain ⟨_, _, hq, _⟩ := hq; cases hq)
  obtain ⟨z2, ez, hv, I2⟩ := hq
  cases hv
  have ht := I.1.1.2.1
  subst ez
  refine jT.icmp (a := z2) (b := z2) rfl ⟨by omega, by omega⟩ ⟨by omega, by omega⟩ (fun _ => ?_) (fun cc => by simp [jc] at cc)
  exact k n 0 er T h2 _ _ _ _ (Nat.le_refl n) (Nat.le_succ n) I2
theorem jL_41 {K L : Nat → Nat} {R : Nat → Nat → Nat} {q m n Lx : Nat} {xs : Nat → Int32} {tm er i : Int} {T : Nat → Int} {h : mj_H} {l5 l6 l7 l8 : Option Value} {Q : mj_R → Prop} (ty : jTY K L R) (hm : jPl K q m) (k1 : K 1 = 19) (hi : 0 ≤ i ∧ i + 6 ≤ Lx) (hL : Lx ≤ 3072) (I : jLi K L R (.inl (100, Lx, fun j => .int (xs j))) q m n tm er T h) (k : ∀ (n' : Nat) (tm' er' : Int) (T' : Nat → Int) (h' : mj_H) (l5 l6 l7 l8 : Option Value), n ≤ n' → n' ≤ n + 1 → jLi K L R (.inl (100, Lx, fun j => .int (xs j))) q m n' tm' er' T' h' → mj_T 100 mj_mK 2072 [some (.ref 0), some (.ref 1), some (.ref m), some (.ref q), some (.int (jn i)), l5, l6, l7, l8] [] h' Q) : mj_T 100 mj_mK 1958 [some (.ref 0), some (.ref 1), some (.ref m), some (.ref q), some (.int (jn i)), l5, l6, l7, l8] [] h Q := by
  refine mj_T.pl rfl rfl rfl rfl ?_
  refine mj_T.call rfl rfl (Nat.le_of_ble_eq_true rfl) (Nat.le_of_ble_eq_true rfl) (jrv_of I.1.1 k1 (by decide) rfl (by decide) rfl _) rfl (mj_Ok.up (by decide) (mj_Ok.to (jc_143 (D := 0) ty (Nat.le_of_eq I.1.1.1) I.1.1 k1) (fun _ k => jQp.toQ I.1.1 k))) (fun v h1 hq => ?_) (fun i' h1 hq => absurd hq.1 (by simp))
  obtain ⟨⟨z, _, _, rfl⟩, o1⟩ := hq
  have I1 := I.cls hm (I.1.thr o1) (Nat.le_refl n) (jLf.of o1)
  iterate 2 refine mj_T.pl rfl rfl rfl rfl ?_
  obtain ⟨fs, ho⟩ := I1.obj
  have hc : mj_Ok 40 287 [.ref m] h1 (fun r => ∃ z : Int, r.1 = .inl (some (.int (jn z))) ∧ jLc K L R (.inl (100, Lx, fun j => .int (xs j))) q m n tm tm er T r.2) := by
    refine (I1.call hm (fun hr hI => rp_errorPosition hI) (fun r hr => ?_) (fun N => rfl)).to (fun r ⟨r0, hr', a, b, d, s0, e⟩ => ?_)
    · obtain ⟨h2, rfl, k⟩ := hr
      exact ⟨_, _, _, k⟩
    · obtain ⟨h2, e2, k⟩ := a
      cases e2
      exact ⟨_, b, d, s0, hr', e, k⟩
  refine mj_T.call rfl rfl (Nat.le_of_ble_eq_true rfl) (Nat.le_of_ble_eq_true rfl) (by simp [mj_recv, ho]) rfl (mj_Ok.up (by decide) hc) (fun v h2 hq => ?_) (fun i' h2 hq => by obtain ⟨_, hq, _⟩ := hq; cases hq)
  obtain ⟨z2, hv, I2⟩ := hq
  cases hv
  iterate 2 refine mj_T.pl rfl rfl rfl rfl ?_
  exact k n tm er T h2 _ _ _ _ (Nat.le_refl n) (Nat.le_succ n) I2
theorem jL_46 {K L : Nat → Nat} {R : Nat → Nat → Nat} {q m n Lx : Nat} {xs : Nat → Int32} {tm er i : Int} {T : Nat → Int} {h : mj_H} {l5 l6 l7 l8 : Option Value} {Q : mj_R → Prop} (ty : jTY K L R) (hm : jPl K q m) (k1 : K 1 = 19) (hi : 0 ≤ i ∧ i + 6 ≤ Lx) (hL : Lx ≤ 3072) (I : jLi K L R (.inl (100, Lx, fun j => .int (xs j))) q m n tm er T h) (k : ∀ (n' : Nat) (tm' er' : Int) (T' : Nat → Int) (h' : mj_H) (l5 l6 l7 l8 : Option Value), n ≤ n' → n' ≤ n + 1 → jLi K L R (.inl (100, Lx, fun j => .int (xs j))) q m n' tm' er' T' h' → mj_T 100 mj_mK 2072 [some (.ref 0), some (.ref 1), some (.ref m), some (.ref q), some (.int (jn i)), l5, l6, l7, l8] [] h' Q) : mj_T 100 mj_mK 2059 [some (.ref 0), some (.ref 1), some (.ref m), some (.ref q), some (.int (jn i)), l5, l6, l7, l8] [] h Q := by
  refine mj_T.pl rfl rfl rfl rfl ?_
  refine mj_T.call rfl rfl (Nat.le_of_ble_eq_true rfl) (Nat.le_of_ble_eq_true rfl) (jrv_of I.1.1 k1 (by decide) rfl (by decide) rfl _) rfl (mj_Ok.up (by decide) (jc_148 (D := 0) ty (Nat.le_of_eq I.1.1.1) I.1.1 k1)) (fun v h1 hq => ?_) (fun i' h1 hq => absurd hq.1 (by simp))
  obtain ⟨⟨z, _, _, rfl⟩, o1⟩ := hq
  have I1 := I.cls hm (I.1.thr o1) (Nat.le_refl n) (jLf.of o1)
  iterate 2 refine mj_T.pl rfl rfl rfl rfl ?_
  obtain ⟨fs, ho⟩ := I1.obj
  have hc : mj_Ok 40 309 [.ref m] h1 (fun r => ∃ z : Int, r.1 = .inl (some (.int (jn z))) ∧ jLc K L R (.inl (100, Lx, fun j => .int (xs j))) q m n tm tm er T r.2) := by
    refine (I1.call hm (fun hr hI => rp_errors hI) (fun r hr => ?_) (fun N => rfl)).to (fun r ⟨r0, hr', a, b, d, s0, e⟩ => ?_)
    · obtain ⟨h2, rfl, k⟩ := hr
      exact ⟨_, _, _, k⟩
    · obtain ⟨h2, e2, k⟩ := a
      cases e2
      exact ⟨_, b, d, s0, hr', e, k⟩
  refine mj_T.call rfl rfl (Nat.le_of_ble_eq_true rfl) (Nat.le_of_ble_eq_true rfl) (by simp [mj_recv, ho]) rfl (mj_Ok.up (by decide) hc) (fun v h2 hq => ?_) (fun i' h2 hq => by obtain ⟨_, hq, _⟩ := hq; cases hq)
  obtain ⟨z2, hv, I2⟩ := hq
  cases hv
  iterate 2 refine mj_T.pl rfl rfl rfl rfl ?_
  exact k n tm er T h2 _ _ _ _ (Nat.le_refl n) (Nat.le_succ n) I2
