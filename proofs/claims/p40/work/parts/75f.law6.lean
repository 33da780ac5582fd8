/-! Rounds of the law. -/
section JLQ
variable {K L : Nat → Nat} {R : Nat → Nat → Nat} {e0 : mj_E} {q m n : Nat} {tc tm er c : Int} {T : Nat → Int} {h hr : mj_H}
/-- a call of the reference leaves the answers' cell -/
theorem jEm.callq {D j : Nat} {as as2 : List Value} (w : jLw K L R q n tc h) (s0 : h[0]? = some e0) (hm : jPl K q m) (E : jEm m hr h) {Q : mj_R → Prop} (c : mj_Ok D j as hr Q) (hQ : ∀ r, Q r → ∃ tm' er' T', jI tm' er' T' r.2) (has : ∀ N, as.map (mj_rn (jro m N)) = as2) : mj_Ok D j as2 h (fun r => ∃ r0 hr', Q (r0, hr') ∧ r.1 = mj_rR (jro m h.length) r0 ∧ jLw K L R q n tc r.2 ∧ r.2[0]? = some e0 ∧ jEm m hr' r.2 ∧ r.2[q]? = h[q]?) := by
  have := E.run c (fun r h2 h3 => by
    obtain ⟨_, _, _, hi⟩ := hQ r h2
    exact jI_s8 hi h3)
  rw [has] at this
  refine this.to (fun r ⟨r0, hr', a, b, d, e, f⟩ => ⟨r0, hr', a, b, w.frame hm e f, by rw [f 0 (List.getElem?_eq_some_iff.mp s0).1 (Or.inl hm.2.2.2)]; exact s0, d, ?_⟩)
  obtain ⟨_, _, g, hg⟩ := w
  refine f q (List.getElem?_eq_some_iff.mp hg).1 ?_
  rcases Nat.lt_or_ge q m with c1 | c1
  · exact Or.inl c1
  · rcases Nat.lt_or_ge q (m + 8) with d1 | d1
    · have := (hm.1 (q - m) (by omega)).2
      omega
    · exact Or.inr d1
end JLQ
theorem jL_39 {n Lx : Nat} {xs : Nat → Int32} {tm er i : Int} {T : Nat → Int} {h : mj_H} {l5 l6 l7 l8 : Option Value} {Q : mj_R → Prop} (hi : 0 ≤ i ∧ i + 6 ≤ Lx) (hL : Lx ≤ 3072) (I : jLi cK cL cR (.inl (100, Lx, fun j => .int (xs j))) 571 563 n tm er T h) (X : jcx er tm T h) (Y : YX tm er T h) (k : ∀ (n' : Nat) (tm' er' : Int) (T' : Nat → Int) (h' : mj_H) (l5 l6 l7 l8 : Option Value), n ≤ n' → n' ≤ n + 1 → jLi cK cL cR (.inl (100, Lx, fun j => .int (xs j))) 571 563 n' tm' er' T' h' → jcx er' tm' T' h' → YX tm' er' T' h' → mj_T 100 mj_mK 2072 [some (.ref 0), some (.ref 1), some (.ref 563), some (.ref 571), some (.int (jn i)), l5, l6, l7, l8] [] h' Q) : mj_T 100 mj_mK 1869 [some (.ref 0), some (.ref 1), some (.ref 563), some (.ref 571), some (.int (jn i)), l5, l6, l7, l8] [] h Q := by
  obtain ⟨N0, u0, H0, hr0, s0, E0, J0⟩ := Y
  have A0 := J0.AS
  obtain ⟨t0, rfl⟩ : ∃ t0 : Nat, tm = (t0 : Int) := ⟨tm.toNat, by have := I.1.1.2.1; omega⟩
  have ht := I.1.1.2.1
  refine mj_T.pl rfl rfl rfl rfl ?_
  refine jL.arg (k := 1) I.2.1 hi hL ⟨by decide, by decide⟩ rfl rfl rfl rfl rfl ?_
  refine mj_T.eq (pc2 := 1876) ?_ rfl rfl rfl rfl
  refine jL.arg (k := 2) I.2.1 hi hL ⟨by decide, by decide⟩ rfl rfl rfl rfl rfl ?_
  refine mj_T.eq (pc2 := 1882) ?_ rfl rfl rfl rfl
  refine jL.arg (k := 3) I.2.1 hi hL ⟨by decide, by decide⟩ rfl rfl rfl rfl rfl ?_
  refine mj_T.eq (pc2 := 1888) ?_ rfl rfl rfl rfl
  refine jL.arg (k := 4) I.2.1 hi hL ⟨by decide, by decide⟩ rfl rfl rfl rfl rfl ?_
  refine mj_T.eq (pc2 := 1894) ?_ rfl rfl rfl rfl
  refine jL.arg (k := 5) I.2.1 hi hL ⟨by decide, by decide⟩ rfl rfl rfl rfl rfl ?_
  refine mj_T.eq (pc2 := 1900) ?_ rfl rfl rfl rfl
  refine mj_T.pl rfl rfl rfl rfl ?_
  refine mj_T.call rfl rfl (Nat.le_of_ble_eq_true rfl) (Nat.le_of_ble_eq_true rfl) rfl rfl (mj_Ok.up (by decide) (mj_Ok.and (mj_Ok.up (by decide) ((jw_344 (D := 0) cTY I.1 ck0.2).and (jv_344 (D := 0) I.1 X))) (jy_344 I.1 (cz_141 s0 I.1.1 (Nat.le_of_eq I.1.1.1) (X.jBuf I.1.1) (by omega))))) (fun v h1 hq => ?_) (fun i' h1 hq => by obtain ⟨hq, _⟩ := hq; obtain ⟨hq, _⟩ := hq; exact (by rcases hq with ⟨_, hq, _⟩ | ⟨_, hq, _⟩ <;> cases hq))
  obtain ⟨hq, qy⟩ := hq
  obtain ⟨hq, qx⟩ := hq
  have X1 := qx
  rcases hq with ⟨ha, hv, w1, f1⟩ | ⟨ha, hv, w1, f1, g, hg, hgq⟩
  · cases hv
    have I1 := I.cls jZ_pl w1 (Nat.le_succ n) f1
    have E1 := E0.frame jZ_pl f1 (by have e1 := I.1.1.1; have e2 := w1.1.1; have e3 := (Nat.le_succ n); omega)
    have X1 := X1.elim (fun a => a.2) (fun a => absurd a.1 (by omega))
    refine mj_T.pl (loc' := [some (.ref 0), some (.ref 1), some (.ref 563), some (.ref 571), some (.int (jn i)), some (.int (jn 1)), l6, l7, l8]) rfl rfl rfl rfl ?_
    refine mj_T.pl rfl rfl rfl rfl ?_
    refine jL.arg (k := 1) I1.2.1 hi hL ⟨by decide, by decide⟩ rfl rfl rfl rfl rfl ?_
    refine mj_T.eq (pc2 := 1913) ?_ rfl rfl rfl rfl
    refine jL.arg (k := 2) I1.2.1 hi hL ⟨by decide, by decide⟩ rfl rfl rfl rfl rfl ?_
    refine mj_T.eq (pc2 := 1919) ?_ rfl rfl rfl rfl
    refine jL.arg (k := 3) I1.2.1 hi hL ⟨by decide, by decide⟩ rfl rfl rfl rfl rfl ?_
    refine mj_T.eq (pc2 := 1925) ?_ rfl rfl rfl rfl
    refine jL.arg (k := 4) I1.2.1 hi hL ⟨by decide, by decide⟩ rfl rfl rfl rfl rfl ?_
    refine mj_T.eq (pc2 := 1931) ?_ rfl rfl rfl rfl
    refine jL.arg (k := 5) I1.2.1 hi hL ⟨by decide, by decide⟩ rfl rfl rfl rfl rfl ?_
    refine mj_T.eq (pc2 := 1937) ?_ rfl rfl rfl rfl
    obtain ⟨fs, ho⟩ := I1.obj
    have hc : mj_Ok 40 285 [.ref 563, .int (xs (i + 1).toNat), .int (xs (i + 2).toNat), .int (xs (i + 3).toNat), .int (xs (i + 4).toNat), .int (xs (i + 5).toNat)] h1 (fun r => ∃ z : Int, r.1 = .inl (some (.int (jn z))) ∧ jLc cK cL cR (.inl (100, Lx, fun j => .int (xs j))) 571 563 (n + 1) (t0 : Int) (t0 : Int) er T r.2) := by
      refine (I1.call jZ_pl (fun hr hI => rp_append hI) (fun r hr => ?_) (fun N => rfl)).to (fun r ⟨r0, hr', a, b, d, s0, e⟩ => ?_)
      · rcases hr with ⟨_, h2, k, rfl⟩ | ⟨_, h2, k, rfl⟩
        · exact ⟨_, _, _, k.to⟩
        · exact ⟨_, _, _, k.to⟩
      · rcases a with ⟨_, h2, k, e2⟩ | ⟨a, _⟩
        · cases e2
          exact ⟨_, b, d, s0, hr', e, k.to⟩
        · omega
    refine mj_T.call rfl rfl (Nat.le_of_ble_eq_true rfl) (Nat.le_of_ble_eq_true rfl) (by simp [mj_recv, ho]) rfl (mj_Ok.up (by decide) (mj_Ok.and (mj_Ok.up (by decide) (hc.qt rfl)) (YX.call (tm' := (t0 : Int)) (er' := er) (T' := T) E1 qy (sameQ.ag _ _ _) ((rx_append J0).to (fun r k => by rcases k with ⟨_, h', k, rfl⟩ | ⟨a, _⟩; exact ⟨_, _, _, ⟨rfl, rfl, rfl⟩, k.to⟩; omega)) (fun N => rfl)))) (fun v h2 hq => ?_) (fun i' h2 hq => by obtain ⟨hq, _⟩ := hq; obtain ⟨hq, _⟩ := hq; exact (by obtain ⟨_, hq, _⟩ := hq; cases hq))
    obtain ⟨hq, Y2⟩ := hq
    obtain ⟨hq, qx⟩ := hq
    have X2 := X1.qt qx
    obtain ⟨z2, hv, I2⟩ := hq
    cases hv
    refine mj_T.pl (loc' := [some (.ref 0), some (.ref 1), some (.ref 563), some (.ref 571), some (.int (jn i)), some (.int (jn 1)), some (.int (jn z2)), l7, l8]) rfl rfl rfl rfl ?_
    refine mj_T.pl rfl rfl rfl rfl ?_
    exact k (n + 1) _ er _ h2 _ _ _ _ (Nat.le_succ n) (Nat.le_refl _) I2 X2 Y2
  · cases hv
    have I1 := I.cls jZ_pl w1 (Nat.le_refl n) f1
    have E1 := E0.frame jZ_pl f1 (by have e1 := I.1.1.1; have e2 := w1.1.1; have e3 := (Nat.le_refl n); omega)
    have X1 := X1.elim (fun a => absurd a.1 (by omega)) (fun a => a.2)
    rw [show ((t0 : Int) + ((jcn (xs (i + 1).toNat) (xs (i + 2).toNat) (xs (i + 3).toNat) (xs (i + 4).toNat) (xs (i + 5).toNat) 20) : Int)) = ((t0 + (jcn (xs (i + 1).toNat) (xs (i + 2).toNat) (xs (i + 3).toNat) (xs (i + 4).toNat) (xs (i + 5).toNat) 20) : Nat) : Int) by omega] at I1
    refine mj_T.pl (loc' := [some (.ref 0), some (.ref 1), some (.ref 563), some (.ref 571), some (.int (jn i)), some (.int (jn 0)), l6, l7, l8]) rfl rfl rfl rfl ?_
    refine mj_T.pl rfl rfl rfl rfl ?_
    refine jL.arg (k := 1) I1.2.1 hi hL ⟨by decide, by decide⟩ rfl rfl rfl rfl rfl ?_
    refine mj_T.eq (pc2 := 1913) ?_ rfl rfl rfl rfl
    refine jL.arg (k := 2) I1.2.1 hi hL ⟨by decide, by decide⟩ rfl rfl rfl rfl rfl ?_
    refine mj_T.eq (pc2 := 1919) ?_ rfl rfl rfl rfl
    refine jL.arg (k := 3) I1.2.1 hi hL ⟨by decide, by decide⟩ rfl rfl rfl rfl rfl ?_
    refine mj_T.eq (pc2 := 1925) ?_ rfl rfl rfl rfl
    refine jL.arg (k := 4) I1.2.1 hi hL ⟨by decide, by decide⟩ rfl rfl rfl rfl rfl ?_
    refine mj_T.eq (pc2 := 1931) ?_ rfl rfl rfl rfl
    refine jL.arg (k := 5) I1.2.1 hi hL ⟨by decide, by decide⟩ rfl rfl rfl rfl rfl ?_
    refine mj_T.eq (pc2 := 1937) ?_ rfl rfl rfl rfl
    obtain ⟨fs, ho⟩ := I1.obj
    have hc : mj_Ok 40 285 [.ref 563, .int (xs (i + 1).toNat), .int (xs (i + 2).toNat), .int (xs (i + 3).toNat), .int (xs (i + 4).toNat), .int (xs (i + 5).toNat)] h1 (fun r => ∃ z : Int, r.1 = .inl (some (.int (jn z))) ∧ jLc cK cL cR (.inl (100, Lx, fun j => .int (xs j))) 571 563 n ((t0 + (jcn (xs (i + 1).toNat) (xs (i + 2).toNat) (xs (i + 3).toNat) (xs (i + 4).toNat) (xs (i + 5).toNat) 20) : Nat) : Int) ((t0 + (jcn (xs (i + 1).toNat) (xs (i + 2).toNat) (xs (i + 3).toNat) (xs (i + 4).toNat) (xs (i + 5).toNat) 20) : Nat) : Int) er (apT (xs (i + 1).toNat) (xs (i + 2).toNat) (xs (i + 3).toNat) (xs (i + 4).toNat) (xs (i + 5).toNat) t0 T 20) r.2) := by
      refine (I1.call jZ_pl (fun hr hI => rp_append hI) (fun r hr => ?_) (fun N => rfl)).to (fun r ⟨r0, hr', a, b, d, s0, e⟩ => ?_)
      · rcases hr with ⟨_, h2, k, rfl⟩ | ⟨_, h2, k, rfl⟩
        · exact ⟨_, _, _, k.to⟩
        · exact ⟨_, _, _, k.to⟩
      · rcases a with ⟨a, _⟩ | ⟨_, h2, k, e2⟩
        · omega
        · cases e2
          exact ⟨_, b, d, s0, hr', e, k.to⟩
    refine mj_T.call rfl rfl (Nat.le_of_ble_eq_true rfl) (Nat.le_of_ble_eq_true rfl) (by simp [mj_recv, ho]) rfl (mj_Ok.up (by decide) (mj_Ok.and (mj_Ok.up (by decide) (hc.qt rfl)) (YX.call (tm' := ((t0 + jcn (xs (i + 1).toNat) (xs (i + 2).toNat) (xs (i + 3).toNat) (xs (i + 4).toNat) (xs (i + 5).toNat) 20 : Nat) : Int)) (er' := er) (T' := apT (xs (i + 1).toNat) (xs (i + 2).toNat) (xs (i + 3).toNat) (xs (i + 4).toNat) (xs (i + 5).toNat) t0 T 20) E1 qy (sameQ.ag _ _ _) ((rx_append J0).to (fun r k => by rcases k with ⟨a, _⟩ | ⟨_, h', k, rfl⟩; omega; exact ⟨_, _, _, ⟨rfl, rfl, rfl⟩, k.to⟩)) (fun N => rfl)))) (fun v h2 hq => ?_) (fun i' h2 hq => by obtain ⟨hq, _⟩ := hq; obtain ⟨hq, _⟩ := hq; exact (by obtain ⟨_, hq, _⟩ := hq; cases hq))
    obtain ⟨hq, Y2⟩ := hq
    obtain ⟨hq, qx⟩ := hq
    have X2 := X1.qt qx
    obtain ⟨z2, hv, I2⟩ := hq
    cases hv
    refine mj_T.pl (loc' := [some (.ref 0), some (.ref 1), some (.ref 563), some (.ref 571), some (.int (jn i)), some (.int (jn 0)), some (.int (jn z2)), l7, l8]) rfl rfl rfl rfl ?_
    refine mj_T.pl rfl rfl rfl rfl ?_
    exact k n _ er _ h2 _ _ _ _ (Nat.le_refl n) (Nat.le_succ n) I2 X2 Y2
