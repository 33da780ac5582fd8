/-! The round of usedShare. -/
def rE2 (tm er : Int) (T : Nat → Int) (r : mj_R) : Prop := ∃ (z : UInt32) (h' : mj_H), (FP.f2d z &&& 0x7fffffffffffffff ≤ 0x7ff0000000000000) ∧ r = (.inl (some (.float z)), h') ∧ jI tm er T h'
theorem rp_f2 : ∀ n, n < 79 → FP.f2d (FP.fdiv (FP.i2f (jn (n : Nat))) 1086324736) &&& 0x7fffffffffffffff ≤ 0x7ff0000000000000 := by decide +kernel
section RPU2
variable {tm er : Int} {T : Nat → Int} {h : mj_H}
theorem rp_usedShare2_loop {S N B X V : Nat → Int} (hs : rS S N B T X V h) (K : jK tm er S N B T) :
    ∀ (m k c : Nat), k + m = 6 → c ≤ 13 * k → mj_T 39 mj_m308 9 [some (.ref 0), some (.int (jn (c : Int))), some (.int (jn (k : Int)))] [] h (rE2 tm er T) := by
  intro m
  induction m with
  | zero =>
    intro k c hk hcb
    have hk : k = 6 := by omega
    subst hk
    iterate 2 refine mj_T.pl rfl rfl rfl rfl ?_
    refine mj_T.icmp (a := ((6 : Nat) : Int)) (b := 6) rfl ⟨by decide, by decide⟩ ⟨by decide, by decide⟩ (fun hc => ?_) (fun hc => ?_)
    · iterate 3 refine mj_T.pl rfl rfl rfl rfl ?_
      refine mj_T.fdv rfl (rp_ff c (by omega)) ?_
      exact mj_T.ret rfl rfl rfl ⟨_, h, rp_f2 c (by omega), rfl, ⟨_, _, _, _, _, hs, K⟩⟩
    · simp [jc] at hc
  | succ m ih =>
    intro k c hk hcb
    iterate 2 refine mj_T.pl rfl rfl rfl rfl ?_
    refine mj_T.icmp (a := (k : Int)) (b := 6) rfl ⟨by omega, by omega⟩ ⟨by decide, by decide⟩ (fun hc => ?_) (fun hc => ?_)
    · simp only [jc, decide_eq_true_eq] at hc
      omega
    iterate 3 refine mj_T.pl rfl rfl rfl rfl ?_
    refine mj_T.call (ins := .invokevirtual 232) rfl rfl (Nat.le_of_ble_eq_true rfl) (Nat.le_of_ble_eq_true rfl) (by simp [mj_recv, rS_f hs]) rfl (mj_Ok.up (by decide) (rp_isZero (D := 0) (r := k) (by omega) K.nR hs)) (fun v' h' hq' => ?_) (fun i h' hq' => by rcases hq' with ⟨_, h⟩ | ⟨_, h⟩ <;> cases h)
    rcases hq' with ⟨_, hq'⟩ | ⟨_, hq'⟩
    · cases hq'
      refine mj_T.if0 (a := 1) rfl ⟨by decide, by decide⟩ (fun hc => ?_) (fun hc => ?_)
      · simp [jc] at hc
      iterate 2 refine mj_T.pl rfl rfl rfl rfl ?_
      refine mj_T.iadd (a := (c : Int)) (b := 0) rfl ?_
      rw [show (c : Int) + 0 = ((c + 0 : Nat) : Int) by omega]
      refine mj_T.pl rfl rfl rfl rfl ?_
      refine mj_T.iinc (a := (k : Int)) rfl rfl ?_
      refine mj_T.pl rfl rfl rfl rfl ?_
      exact ih (k + 1) _ (by omega) (by omega)
    · cases hq'
      refine mj_T.if0 (a := 0) rfl ⟨by decide, by decide⟩ (fun hc => ?_) (fun hc => ?_)
      rotate_left
      · simp [jc] at hc
      refine mj_T.pl rfl rfl rfl rfl ?_
      refine mj_T.iadd (a := (c : Int)) (b := 1) rfl ?_
      rw [show (c : Int) + 1 = ((c + 1 : Nat) : Int) by omega]
      refine mj_T.pl rfl rfl rfl rfl ?_
      refine mj_T.iinc (a := (k : Int)) rfl rfl ?_
      refine mj_T.pl rfl rfl rfl rfl ?_
      exact ih (k + 1) _ (by omega) (by omega)
theorem rp_usedShare2  (hI : jI tm er T h) : mj_Ok 40 308 [.ref 0] h (rE2 tm er T) := by
  refine mj_Ok.of (M := mj_m308) rfl rfl rfl ?_
  obtain ⟨S, N, B, X, V, hs, K⟩ := hI
  iterate 2 refine mj_T.pl rfl rfl rfl rfl ?_
  refine rT_put (v := 0) hs rfl rfl (by decide) rfl (fun g6 hs6 => ?_)
  have K6 := K.put (k := 3) (v := 0) ⟨by decide, by decide⟩ (by decide) (by decide) (by decide) (by decide) (by decide)
  generalize jvu S 3 0 = S6 at hs6 K6
  iterate 4 refine mj_T.pl rfl rfl rfl rfl ?_
  exact rp_usedShare2_loop hs6 K6 6 0 0 (by omega) (by decide)
end RPU2
theorem jL_45 {n Lx : Nat} {xs : Nat → Int32} {tm er i : Int} {T : Nat → Int} {h : mj_H} {l5 l6 l7 l8 : Option Value} {Q : mj_R → Prop} (hi : 0 ≤ i ∧ i + 6 ≤ Lx) (hL : Lx ≤ 3072) (I : jLi cK cL cR (.inl (100, Lx, fun j => .int (xs j))) 571 563 n tm er T h) (X : jcx er tm T h) (Y : YX tm er T h) (k : ∀ (n' : Nat) (tm' er' : Int) (T' : Nat → Int) (h' : mj_H) (l5 l6 l7 l8 : Option Value), n ≤ n' → n' ≤ n + 1 → jLi cK cL cR (.inl (100, Lx, fun j => .int (xs j))) 571 563 n' tm' er' T' h' → jcx er' tm' T' h' → YX tm' er' T' h' → mj_T 100 mj_mK 2072 [some (.ref 0), some (.ref 1), some (.ref 563), some (.ref 571), some (.int (jn i)), l5, l6, l7, l8] [] h' Q) : mj_T 100 mj_mK 2042 [some (.ref 0), some (.ref 1), some (.ref 563), some (.ref 571), some (.int (jn i)), l5, l6, l7, l8] [] h Q := by
  obtain ⟨N0, u0, H0, hr0, s0, E0, J0⟩ := Y
  have A0 := J0.AS
  refine mj_T.pl rfl rfl rfl rfl ?_
  refine mj_T.call rfl rfl (Nat.le_of_ble_eq_true rfl) (Nat.le_of_ble_eq_true rfl) (jrv_of I.1.1 ck0.2 (by decide) rfl (by decide) rfl _) rfl (mj_Ok.up (by decide) (mj_Ok.and (mj_Ok.up (by decide) ((mj_Ok.to (jc_147 (D := 0) cTY (Nat.le_of_eq I.1.1.1) I.1.1 ck0.2) (fun _ k => jQp.toQ I.1.1 k)).qt rfl)) (yr_147 A0 s0 I.1))) (fun v h1 hq => ?_) (fun i' h1 hq => by obtain ⟨hq, _⟩ := hq; obtain ⟨hq, _⟩ := hq; exact (absurd hq.1 (by simp)))
  obtain ⟨hq, qy⟩ := hq
  obtain ⟨hq, qx⟩ := hq
  have X1 := X.qt qx
  obtain ⟨⟨kk, hkk, rfl⟩, o1⟩ := hq
  have hf := jf2d kk hkk
  have I1 := I.cls jZ_pl (I.1.thr o1) (Nat.le_refl n) (jLf.of o1)
  have E1 := E0.frame jZ_pl (jLf.of o1) (by have e1 := I.1.1.1; have e2 := (I.1.thr o1).1.1; have e3 := (Nat.le_refl n); omega)
  refine mj_T.step (pc' := 2047) (loc' := [some (.ref 0), some (.ref 1), some (.ref 563), some (.ref 571), some (.int (jn i)), l5, l6, l7, l8]) (st' := [.double (FP.f2d (FP.fdiv (FP.i2f (Int32.ofNat kk)) (UInt32.ofNat 1086324736)))]) (h' := h1) rfl rfl (by simp only [mj_step]; exact if_pos hf) ?_
  refine mj_T.pl (loc' := [some (.ref 0), some (.ref 1), some (.ref 563), some (.ref 571), some (.int (jn i)), some (.double (FP.f2d (FP.fdiv (FP.i2f (Int32.ofNat kk)) (UInt32.ofNat 1086324736)))), none, l7, l8]) rfl rfl rfl rfl ?_
  refine mj_T.pl rfl rfl rfl rfl ?_
  obtain ⟨fs, ho⟩ := I1.obj
  have hc : mj_Ok 40 308 [.ref 563] h1 (fun r => ∃ x2, (FP.f2d x2 &&& 0x7fffffffffffffff ≤ 0x7ff0000000000000) ∧ r.1 = .inl (some (.float x2)) ∧ jLc cK cL cR (.inl (100, Lx, fun j => .int (xs j))) 571 563 n tm tm er T r.2) := by
    refine (I1.call jZ_pl (fun hr hI => rp_usedShare2 hI) (fun r hr => ?_) (fun N => rfl)).to (fun r ⟨r0, hr', a, b, d, s0, e⟩ => ?_)
    · obtain ⟨k2, h2, _, rfl, k⟩ := hr
      exact ⟨_, _, _, k⟩
    · obtain ⟨k2, h2, hk2, e2, k⟩ := a
      cases e2
      exact ⟨_, hk2, b, d, s0, hr', e, k⟩
  refine mj_T.call rfl rfl (Nat.le_of_ble_eq_true rfl) (Nat.le_of_ble_eq_true rfl) (by simp [mj_recv, ho]) rfl (mj_Ok.up (by decide) (mj_Ok.and (mj_Ok.up (by decide) (hc.qt rfl)) (YX.call (tm' := tm) (er' := er) (T' := T) E1 qy (sameQ.ag _ _ _) ((rx_usedShare J0).to (fun r k => rEx.z k ⟨rfl, rfl, rfl⟩)) (fun N => rfl)))) (fun v h2 hq => ?_) (fun i' h2 hq => by obtain ⟨hq, _⟩ := hq; obtain ⟨hq, _⟩ := hq; exact (by obtain ⟨_, _, hq, _⟩ := hq; cases hq))
  obtain ⟨hq, Y2⟩ := hq
  obtain ⟨hq, qx⟩ := hq
  have X2 := X1.qt qx
  obtain ⟨x2, hf2, hv, I2⟩ := hq
  cases hv
  refine mj_T.step (pc' := 2054) (loc' := [some (.ref 0), some (.ref 1), some (.ref 563), some (.ref 571), some (.int (jn i)), some (.double (FP.f2d (FP.fdiv (FP.i2f (Int32.ofNat kk)) (UInt32.ofNat 1086324736)))), none, l7, l8]) (st' := [.double (FP.f2d x2)]) (h' := h2) rfl rfl (by simp only [mj_step]; exact if_pos hf2) ?_
  refine mj_T.pl (loc' := [some (.ref 0), some (.ref 1), some (.ref 563), some (.ref 571), some (.int (jn i)), some (.double (FP.f2d (FP.fdiv (FP.i2f (Int32.ofNat kk)) (UInt32.ofNat 1086324736)))), none, some (.double (FP.f2d x2)), none]) rfl rfl rfl rfl ?_
  refine mj_T.pl rfl rfl rfl rfl ?_
  exact k n tm er T h2 _ _ _ _ (Nat.le_refl n) (Nat.le_succ n) I2 X2 Y2
