/-! meanTerms, usedShare. -/
def mtc (N : Nat → Int) : Nat → Nat
  | 0 => 0
  | k + 1 => mtc N k + tmc (rwN N (k : Int)) 13
def usc (N : Nat → Int) : Nat → Nat
  | 0 => 0
  | k + 1 => if 0 < fdg (rwN N (k : Int)) 13 then usc N k + 1 else usc N k
theorem usc_s {N : Nat → Int} {k : Nat} (h : 0 < fdg (rwN N (k : Int)) 13) : usc N (k + 1) = usc N k + 1 := if_pos h
theorem usc_z {N : Nat → Int} {k : Nat} (h : ¬ 0 < fdg (rwN N (k : Int)) 13) : usc N (k + 1) = usc N k := if_neg h
theorem mtc_le (N : Nat → Int) : ∀ k, mtc N k ≤ 13 * k
  | 0 => Nat.le_refl 0
  | k + 1 => by
    have h1 := mtc_le N k
    have h2 := tmc_le (rwN N (k : Int)) 13
    show mtc N k + tmc (rwN N (k : Int)) 13 ≤ _
    omega
theorem usc_le (N : Nat → Int) : ∀ k, usc N k ≤ k
  | 0 => Nat.le_refl 0
  | k + 1 => by
    have h1 := usc_le N k
    by_cases q : 0 < fdg (rwN N (k : Int)) 13
    · rw [usc_s q]
      omega
    · rw [usc_z q]
      omega
def mtD (N : Nat → Int) : UInt64 := FP.ddiv (FP.i2d (jn ((mtc N 6 : Nat) : Int))) 4618441417868443648
def usD (N : Nat → Int) : UInt32 := FP.fdiv (FP.i2f (jn ((usc N 6 : Nat) : Int))) 1086324736
theorem rp_dc : ∀ n, n < 79 → Op.cmpValue (FP.dcmp (FP.ddiv (FP.i2d (jn (n : Nat))) 4618441417868443648) (FP.ddiv (FP.i2d (jn (n : Nat))) 4618441417868443648)) .l = jn 0 := by decide +kernel
theorem rp_fc : ∀ n, n < 79 → Op.cmpValue (FP.dcmp (FP.f2d (FP.fdiv (FP.i2f (jn (n : Nat))) 1086324736)) (FP.f2d (FP.fdiv (FP.i2f (jn (n : Nat))) 1086324736))) .l = jn 0 := by decide +kernel
theorem mtD_c (N : Nat → Int) : Op.cmpValue (FP.dcmp (mtD N) (mtD N)) .l = jn 0 := rp_dc _ (by have := mtc_le N 6; omega)
theorem usD_c (N : Nat → Int) : Op.cmpValue (FP.dcmp (FP.f2d (usD N)) (FP.f2d (usD N))) .l = jn 0 := rp_fc _ (by have := usc_le N 6; omega)
theorem rp_f2b : ∀ n, n < 79 → FP.f2d (FP.fdiv (FP.i2f (jn (n : Nat))) 1086324736) &&& 0x7fffffffffffffff ≤ 0x7ff0000000000000 := by decide +kernel
theorem usD_f (N : Nat → Int) : FP.f2d (usD N) &&& 0x7fffffffffffffff ≤ 0x7ff0000000000000 := rp_f2b _ (by have := usc_le N 6; omega)
section MVU
variable {g h : mj_H} {n D u r : Nat} {V : Nat → Int} {X : Nat → Nat → Int} {N : Nat → Int} {H : Nat → Nat → Int}
theorem CR.rwn {X : Nat → Nat → Int} {N : Nat → Int} {u : Nat} {H : Nat → Nat → Int} (c : CR X N u H) {k : Nat} (hk : k < 6) : ∀ j, j < 13 → X (4 + k) j = rwN N (k : Int) j := fun j hj => by
  have h := c.rw (a := (k : Int)) ⟨by omega, by omega⟩ j hj
  rwa [Int.toNat_natCast] at h
theorem CR.smn {X : Nat → Nat → Int} {N : Nat → Int} {u : Nat} {H : Nat → Nat → Int} (gn : gN N) (c : CR X N u H) {k : Nat} (hk : k < 6) : sml (X (4 + k)) := by
  have h := c.sm gn (a := (k : Int)) ⟨by omega, by omega⟩
  rwa [Int.toNat_natCast] at h
theorem cL_3 : cL (2 + 1) = 6 := by decide +kernel
theorem mX_mean_loop (m : jM g n V X h) (gn : gN N) (c : CR X N u H) {Q : mj_R → Prop} (hend : Q (.inl (some (.double (mtD N))), h)) : ∀ d k : Nat, k + d = 6 → mj_T (D + 1) mj_m146 4 [some (.ref 1), some (.int (jn ((mtc N k : Nat) : Int))), some (.int (jn (k : Int)))] [] h Q
  | 0, k, hk => by
    have l3 := cL_3
    iterate 2 refine mj_T.pl rfl rfl rfl rfl ?_
    refine mT_get m 19 cq_d1 (by decide) rfl rfl ?_
    refine mT_get m 10 cq_d2 (by decide) rfl rfl ?_
    refine mT_alen m 6 (mK_b cq_d2).1 (by decide) rfl ?_
    refine mj_T.icmp (a := ((k : Nat) : Int)) (b := ((cL (2 + 1) : Nat) : Int)) rfl ⟨by omega, by omega⟩ ⟨by omega, by omega⟩ (fun c1 => ?_) (fun c1 => ?_)
    · simp only [jc, Bool.not_eq_true', Bool.not_eq_false', decide_eq_true_eq, decide_eq_false_iff_not] at c1
      obtain rfl : k = 6 := by omega
      iterate 3 refine mj_T.pl rfl rfl rfl rfl ?_
      refine mj_T.ddv rfl (rp_dd _ (by have := mtc_le N 6; omega)) ?_
      exact mj_T.ret rfl rfl rfl hend
    · exfalso
      simp only [jc, Bool.not_eq_true', Bool.not_eq_false', decide_eq_true_eq, decide_eq_false_iff_not] at c1
      omega
  | d + 1, k, hk => by
    have l3 := cL_3
    have hb := mtc_le N k
    iterate 2 refine mj_T.pl rfl rfl rfl rfl ?_
    refine mT_get m 19 cq_d1 (by decide) rfl rfl ?_
    refine mT_get m 10 cq_d2 (by decide) rfl rfl ?_
    refine mT_alen m 6 (mK_b cq_d2).1 (by decide) rfl ?_
    refine mj_T.icmp (a := ((k : Nat) : Int)) (b := ((cL (2 + 1) : Nat) : Int)) rfl ⟨by omega, by omega⟩ ⟨by omega, by omega⟩ (fun c1 => ?_) (fun c1 => ?_)
    · exfalso
      simp only [jc, Bool.not_eq_true', Bool.not_eq_false', decide_eq_true_eq, decide_eq_false_iff_not] at c1
      omega
    · simp only [jc, Bool.not_eq_true', Bool.not_eq_false', decide_eq_true_eq, decide_eq_false_iff_not] at c1
      iterate 2 refine mj_T.pl rfl rfl rfl rfl ?_
      refine mT_get m 19 cq_d1 (by decide) rfl rfl ?_
      refine mT_get m 10 cq_d2 (by decide) rfl rfl ?_
      refine mj_T.pl rfl rfl rfl rfl ?_
      refine mT_aald m 6 (mK_b cq_d2).1 (by decide) rfl rfl (by omega) ⟨by omega, by omega⟩ ?_
      refine mj_T.eq (st2 := [.ref (4 + k), .int (jn ((mtc N k : Nat) : Int))]) ?_ rfl rfl rfl rfl
      refine mj_T.call rfl rfl (Nat.le_of_ble_eq_true rfl) (Nat.le_of_ble_eq_true rfl) rfl rfl (mj_Ok.up (by omega) (mS_terms (D := 0) m (mK_rt k (by omega)) (c.smn gn (k := k) (by omega)))) (fun v g2 hq => ?_) (fun i g2 hq => ?_)
      rotate_left
      · cases hq
      cases hq
      have e := tmc_cg 13 (c.rwn (k := k) (by omega))
      rw [e]
      refine mj_T.eq (pc2 := 29) (st2 := [.int (jn ((tmc (rwN N (k : Int)) 13 : Nat) : Int)), .int (jn ((mtc N k : Nat) : Int))]) ?_ rfl rfl rfl rfl
      refine mj_T.iadd (a := ((mtc N k : Nat) : Int)) (b := ((tmc (rwN N (k : Int)) 13 : Nat) : Int)) rfl ?_
      refine mj_T.pl (loc' := [some (.ref 1), some (.int (jn (((mtc N k : Nat) : Int) + ((tmc (rwN N (k : Int)) 13 : Nat) : Int)))), some (.int (jn ((k : Nat) : Int)))]) rfl rfl rfl rfl ?_
      refine mj_T.iinc rfl rfl ?_
      rw [show ((k : Nat) : Int) + 1 = ((k + 1 : Nat) : Int) by omega]
      refine mj_T.eq (loc2 := [some (.ref 1), some (.int (jn (((mtc N k : Nat) : Int) + ((tmc (rwN N (k : Int)) 13 : Nat) : Int)))), some (.int (jn (((k + 1) : Nat) : Int)))]) ?_ rfl rfl rfl rfl
      refine mj_T.pl rfl rfl rfl rfl ?_
      refine mj_T.eq (mX_mean_loop m gn c hend d (k + 1) (by omega)) rfl ?_ rfl rfl
      rw [show (((mtc N k : Nat) : Int) + ((tmc (rwN N (k : Int)) 13 : Nat) : Int)) = ((mtc N (k + 1) : Nat) : Int) by show _ = ((mtc N k + tmc (rwN N (k : Int)) 13 : Nat) : Int); omega]
theorem cv_146 (A : AS N u H) (s : cC N u H h) : mj_Ok 59 146 [.ref 1] h (fun r => r.1 = .inl (some (.double (mtD N)))) := by
  obtain ⟨V, X, m, b, d, c⟩ := s
  refine mj_Ok.of (M := mj_m146) rfl rfl rfl ?_
  iterate 4 refine mj_T.pl rfl rfl rfl rfl ?_
  exact mX_mean_loop (D := 57) (Q := fun r => r.1 = .inl (some (.double (mtD N)))) m A.1 c rfl 6 0 (by omega)
theorem mX_share_loop (m : jM g n V X h) (gn : gN N) (c : CR X N u H) {Q : mj_R → Prop} (hend : Q (.inl (some (.float (usD N))), h)) : ∀ d k : Nat, k + d = 6 → mj_T (D + 1) mj_m147 4 [some (.ref 1), some (.int (jn ((usc N k : Nat) : Int))), some (.int (jn (k : Int)))] [] h Q
  | 0, k, hk => by
    have l3 := cL_3
    iterate 2 refine mj_T.pl rfl rfl rfl rfl ?_
    refine mT_get m 19 cq_d1 (by decide) rfl rfl ?_
    refine mT_get m 10 cq_d2 (by decide) rfl rfl ?_
    refine mT_alen m 6 (mK_b cq_d2).1 (by decide) rfl ?_
    refine mj_T.icmp (a := ((k : Nat) : Int)) (b := ((cL (2 + 1) : Nat) : Int)) rfl ⟨by omega, by omega⟩ ⟨by omega, by omega⟩ (fun c1 => ?_) (fun c1 => ?_)
    · simp only [jc, Bool.not_eq_true', Bool.not_eq_false', decide_eq_true_eq, decide_eq_false_iff_not] at c1
      obtain rfl : k = 6 := by omega
      iterate 3 refine mj_T.pl rfl rfl rfl rfl ?_
      refine mj_T.fdv rfl (rp_ff _ (by have := usc_le N 6; omega)) ?_
      exact mj_T.ret rfl rfl rfl hend
    · exfalso
      simp only [jc, Bool.not_eq_true', Bool.not_eq_false', decide_eq_true_eq, decide_eq_false_iff_not] at c1
      omega
  | d + 1, k, hk => by
    have l3 := cL_3
    have hb := usc_le N k
    iterate 2 refine mj_T.pl rfl rfl rfl rfl ?_
    refine mT_get m 19 cq_d1 (by decide) rfl rfl ?_
    refine mT_get m 10 cq_d2 (by decide) rfl rfl ?_
    refine mT_alen m 6 (mK_b cq_d2).1 (by decide) rfl ?_
    refine mj_T.icmp (a := ((k : Nat) : Int)) (b := ((cL (2 + 1) : Nat) : Int)) rfl ⟨by omega, by omega⟩ ⟨by omega, by omega⟩ (fun c1 => ?_) (fun c1 => ?_)
    · exfalso
      simp only [jc, Bool.not_eq_true', Bool.not_eq_false', decide_eq_true_eq, decide_eq_false_iff_not] at c1
      omega
    · simp only [jc, Bool.not_eq_true', Bool.not_eq_false', decide_eq_true_eq, decide_eq_false_iff_not] at c1
      refine mj_T.pl rfl rfl rfl rfl ?_
      refine mT_get m 19 cq_d1 (by decide) rfl rfl ?_
      refine mT_get m 10 cq_d2 (by decide) rfl rfl ?_
      refine mj_T.pl rfl rfl rfl rfl ?_
      refine mT_aald m 6 (mK_b cq_d2).1 (by decide) rfl rfl (by omega) ⟨by omega, by omega⟩ ?_
      refine mj_T.eq (st2 := [.ref (4 + k)]) ?_ rfl rfl rfl rfl
      refine mj_T.call rfl rfl (Nat.le_of_ble_eq_true rfl) (Nat.le_of_ble_eq_true rfl) rfl rfl (mj_Ok.up (by omega) (mS_deg (D := 0) m (mK_rt k (by omega)) (c.smn gn (k := k) (by omega)))) (fun v g2 hq => ?_) (fun i g2 hq => ?_)
      rotate_left
      · cases hq
      cases hq
      have e := fdg_congr 13 (c.rwn (k := k) (by omega))
      have el := fdg_le (rwN N (k : Int)) 13
      rw [e]
      refine mj_T.eq (pc2 := 28) (st2 := [.int (jn ((fdg (rwN N (k : Int)) 13 : Int) - 1))]) ?_ rfl rfl rfl rfl
      refine mj_T.if0 (a := ((fdg (rwN N (k : Int)) 13 : Int) - 1)) rfl ⟨by omega, by omega⟩ (fun c3 => ?_) (fun c3 => ?_)
      · simp only [jc, Bool.not_eq_true', Bool.not_eq_false', decide_eq_true_eq, decide_eq_false_iff_not] at c3
        refine mj_T.iinc rfl rfl ?_
        rw [show ((k : Nat) : Int) + 1 = ((k + 1 : Nat) : Int) by omega]
        refine mj_T.eq (loc2 := [some (.ref 1), some (.int (jn ((usc N k : Nat) : Int))), some (.int (jn (((k + 1) : Nat) : Int)))]) ?_ rfl rfl rfl rfl
        refine mj_T.pl rfl rfl rfl rfl ?_
        have e2 := usc_z (N := N) (k := k) (by omega)
        rw [← e2]
        exact mX_share_loop m gn c hend d (k + 1) (by omega)
      · simp only [jc, Bool.not_eq_true', Bool.not_eq_false', decide_eq_true_eq, decide_eq_false_iff_not] at c3
        refine mj_T.iinc rfl rfl ?_
        rw [show ((usc N k : Nat) : Int) + 1 = ((usc N k + 1 : Nat) : Int) by omega]
        refine mj_T.eq (loc2 := [some (.ref 1), some (.int (jn (((usc N k + 1) : Nat) : Int))), some (.int (jn ((k : Nat) : Int)))]) ?_ rfl rfl rfl rfl
        refine mj_T.iinc rfl rfl ?_
        rw [show ((k : Nat) : Int) + 1 = ((k + 1 : Nat) : Int) by omega]
        refine mj_T.eq (loc2 := [some (.ref 1), some (.int (jn (((usc N k + 1) : Nat) : Int))), some (.int (jn (((k + 1) : Nat) : Int)))]) ?_ rfl rfl rfl rfl
        refine mj_T.pl rfl rfl rfl rfl ?_
        have e2 := usc_s (N := N) (k := k) (by omega)
        rw [← e2]
        exact mX_share_loop m gn c hend d (k + 1) (by omega)
theorem cv_147 (A : AS N u H) (s : cC N u H h) : mj_Ok 59 147 [.ref 1] h (fun r => r.1 = .inl (some (.float (usD N)))) := by
  obtain ⟨V, X, m, b, d, c⟩ := s
  refine mj_Ok.of (M := mj_m147) rfl rfl rfl ?_
  iterate 4 refine mj_T.pl rfl rfl rfl rfl ?_
  exact mX_share_loop (D := 57) (Q := fun r => r.1 = .inl (some (.float (usD N)))) m A.1 c rfl 6 0 (by omega)
end MVU
section RVU
variable {h : mj_H} {tm er : Int} {T : Nat → Int} {N0 : Nat → Int} {u0 : Nat} {H : Nat → Nat → Int}
theorem ra_meanTerms_loop {S N B X V : Nat → Int} (hs : rS S N B T X V h) (K : jKx N0 u0 H tm er S N B T) :
    ∀ (m k c : Nat), k + m = 6 → c = mtc N0 k → mj_T 39 mj_m307 9 [some (.ref 0), some (.int (jn (c : Int))), some (.int (jn (k : Int)))] [] h (fun r => r.1 = .inl (some (.double (mtD N0))) ∧ rZ (sameQ N0 u0 H) tm er T r) := by
  intro m
  induction m with
  | zero =>
    intro k c hk hcb
    have hb9 := mtc_le N0 k
    have hk : k = 6 := by omega
    subst hk
    iterate 2 refine mj_T.pl rfl rfl rfl rfl ?_
    refine mj_T.icmp (a := ((6 : Nat) : Int)) (b := 6) rfl ⟨by decide, by decide⟩ ⟨by decide, by decide⟩ (fun hc => ?_) (fun hc => ?_)
    · iterate 3 refine mj_T.pl rfl rfl rfl rfl ?_
      refine mj_T.ddv rfl (rp_dd c (by omega)) ?_
      subst hcb
      exact mj_T.ret rfl rfl rfl ⟨rfl, N0, u0, H, ⟨rfl, rfl, rfl⟩, ⟨_, _, _, _, _, hs, K⟩⟩
    · simp [jc] at hc
  | succ m ih =>
    intro k c hk hcb
    have hb9 := mtc_le N0 k
    iterate 2 refine mj_T.pl rfl rfl rfl rfl ?_
    refine mj_T.icmp (a := (k : Int)) (b := 6) rfl ⟨by omega, by omega⟩ ⟨by decide, by decide⟩ (fun hc => ?_) (fun hc => ?_)
    · simp only [jc, decide_eq_true_eq] at hc
      omega
    iterate 3 refine mj_T.pl rfl rfl rfl rfl ?_
    have hrt := rtm_le N k 13
    refine mj_T.call (ins := .invokevirtual 292) rfl rfl (Nat.le_of_ble_eq_true rfl) (Nat.le_of_ble_eq_true rfl) (by simp [mj_recv, rS_f hs]) rfl (mj_Ok.up (by decide) (rp_termsOf (D := 0) (r := k) (by omega) K.nR hs)) (fun v' h' hq' => ?_) (fun i h' hq' => by cases hq')
    cases hq'
    refine mj_T.iadd (a := (c : Int)) (b := ((rtm N k 13 : Nat) : Int)) rfl ?_
    rw [show (c : Int) + ((rtm N k 13 : Nat) : Int) = ((c + rtm N k 13 : Nat) : Int) by omega]
    refine mj_T.pl rfl rfl rfl rfl ?_
    refine mj_T.iinc (a := (k : Int)) rfl rfl ?_
    refine mj_T.pl rfl rfl rfl rfl ?_
    exact ih (k + 1) _ (by omega) (by rw [hcb, rtm_tmc K.2.1 (by omega) 13 (Nat.le_refl 13)]; rfl)
theorem ra_meanTerms  (hI : jIx N0 u0 H tm er T h) : mj_Ok 40 307 [.ref 0] h (fun r => r.1 = .inl (some (.double (mtD N0))) ∧ rZ (sameQ N0 u0 H) tm er T r) := by
  refine mj_Ok.of (M := mj_m307) rfl rfl rfl ?_
  obtain ⟨S, N, B, X, V, hs, K⟩ := hI
  iterate 2 refine mj_T.pl rfl rfl rfl rfl ?_
  refine rT_put (v := 0) hs rfl rfl (by decide) rfl (fun g5 hs5 => ?_)
  have K5 := K.put (k := 3) (v := 0) ⟨by decide, by decide⟩ (by decide) (by decide) (by decide) (by decide) (by decide)
  generalize jvu S 3 0 = S5 at hs5 K5
  iterate 4 refine mj_T.pl rfl rfl rfl rfl ?_
  exact ra_meanTerms_loop hs5 K5 6 0 0 (by omega) rfl
theorem ra_usedShare_loop {S N B X V : Nat → Int} (hs : rS S N B T X V h) (K : jKx N0 u0 H tm er S N B T) :
    ∀ (m k c : Nat), k + m = 6 → c = usc N0 k → mj_T 39 mj_m308 9 [some (.ref 0), some (.int (jn (c : Int))), some (.int (jn (k : Int)))] [] h (fun r => r.1 = .inl (some (.float (usD N0))) ∧ rZ (sameQ N0 u0 H) tm er T r) := by
  intro m
  induction m with
  | zero =>
    intro k c hk hcb
    have hb9 := usc_le N0 k
    have hk : k = 6 := by omega
    subst hk
    iterate 2 refine mj_T.pl rfl rfl rfl rfl ?_
    refine mj_T.icmp (a := ((6 : Nat) : Int)) (b := 6) rfl ⟨by decide, by decide⟩ ⟨by decide, by decide⟩ (fun hc => ?_) (fun hc => ?_)
    · iterate 3 refine mj_T.pl rfl rfl rfl rfl ?_
      refine mj_T.fdv rfl (rp_ff c (by omega)) ?_
      subst hcb
      exact mj_T.ret rfl rfl rfl ⟨rfl, N0, u0, H, ⟨rfl, rfl, rfl⟩, ⟨_, _, _, _, _, hs, K⟩⟩
    · simp [jc] at hc
  | succ m ih =>
    intro k c hk hcb
    have hb9 := usc_le N0 k
    iterate 2 refine mj_T.pl rfl rfl rfl rfl ?_
    refine mj_T.icmp (a := (k : Int)) (b := 6) rfl ⟨by omega, by omega⟩ ⟨by decide, by decide⟩ (fun hc => ?_) (fun hc => ?_)
    · simp only [jc, decide_eq_true_eq] at hc
      omega
    iterate 3 refine mj_T.pl rfl rfl rfl rfl ?_
    refine mj_T.call (ins := .invokevirtual 232) rfl rfl (Nat.le_of_ble_eq_true rfl) (Nat.le_of_ble_eq_true rfl) (by simp [mj_recv, rS_f hs]) rfl (mj_Ok.up (by decide) (rp_isZero (D := 0) (r := k) (by omega) K.nR hs)) (fun v' h' hq' => ?_) (fun i h' hq' => by rcases hq' with ⟨_, h⟩ | ⟨_, h⟩ <;> cases h)
    have hz9 : fdg (rwN N0 (k : Int)) 13 = jdg N k 13 := by
      rw [← fdg_jdg]
      exact (fdg_congr 13 (fun j hj => rwN_at K.2.1 (r := k) (by omega) hj)).symm
    rcases hq' with ⟨hz8, hq'⟩ | ⟨hz8, hq'⟩
    · cases hq'
      refine mj_T.if0 (a := 1) rfl ⟨by decide, by decide⟩ (fun hc => ?_) (fun hc => ?_)
      · simp [jc] at hc
      iterate 2 refine mj_T.pl rfl rfl rfl rfl ?_
      refine mj_T.iadd (a := (c : Int)) (b := 0) rfl ?_
      rw [show (c : Int) + 0 = ((c + 0 : Nat) : Int) by omega]
      refine mj_T.pl rfl rfl rfl rfl ?_
      refine mj_T.iinc (a := (k : Int)) rfl rfl ?_
      refine mj_T.pl rfl rfl rfl rfl ?_
      exact ih (k + 1) _ (by omega) (by rw [usc_z (by omega), hcb]; rfl)
    · cases hq'
      refine mj_T.if0 (a := 0) rfl ⟨by decide, by decide⟩ (fun hc => ?_) (fun hc => ?_)
      rotate_left
      · simp [jc] at hc
      refine mj_T.pl rfl rfl rfl rfl ?_
      refine mj_T.iadd (a := (c : Int)) (b := 1) rfl ?_
      rw [show (c : Int) + 1 = ((c + 1 : Nat) : Int) by omega]
      refine mj_T.pl rfl rfl rfl rfl ?_
      refine mj_T.iinc (a := (k : Int)) rfl rfl ?_
      refine mj_T.pl rfl rfl rfl rfl ?_
      exact ih (k + 1) _ (by omega) (by rw [usc_s (by omega), hcb])
theorem ra_usedShare  (hI : jIx N0 u0 H tm er T h) : mj_Ok 40 308 [.ref 0] h (fun r => r.1 = .inl (some (.float (usD N0))) ∧ rZ (sameQ N0 u0 H) tm er T r) := by
  refine mj_Ok.of (M := mj_m308) rfl rfl rfl ?_
  obtain ⟨S, N, B, X, V, hs, K⟩ := hI
  iterate 2 refine mj_T.pl rfl rfl rfl rfl ?_
  refine rT_put (v := 0) hs rfl rfl (by decide) rfl (fun g6 hs6 => ?_)
  have K6 := K.put (k := 3) (v := 0) ⟨by decide, by decide⟩ (by decide) (by decide) (by decide) (by decide) (by decide)
  generalize jvu S 3 0 = S6 at hs6 K6
  iterate 4 refine mj_T.pl rfl rfl rfl rfl ?_
  exact ra_usedShare_loop hs6 K6 6 0 0 (by omega) rfl
end RVU
section YXW
variable {N : Nat → Int} {u : Nat} {H : Nat → Nat → Int} {hr h : mj_H} {tm er : Int} {T : Nat → Int}
theorem YX.callvd {D j : Nat} {as as2 : List Value} {tm' er' : Int} {x : UInt64} {T' : Nat → Int} {Φ Ψ : SP} (E : jEm 563 hr h) (y : yZ Φ h) (ag : AgP Φ Ψ) (c : mj_Ok D j as hr (fun r => r.1 = .inl (some (.double x)) ∧ rZ Ψ tm' er' T' r)) (has : ∀ N, as.map (mj_rn (jro 563 N)) = as2) : mj_Ok D j as2 h (fun r => r.1 = .inl (some (.double x)) ∧ YX tm' er' T' r.2) := by
  have hL := E.2.2.1
  have := E.run c (fun r q h3 => by
    obtain ⟨_, N', u', H', _, k⟩ := q
    exact jI_s8 k.tI h3)
  rw [has] at this
  refine this.to (fun r hq => ?_)
  obtain ⟨r0, hr', ⟨v0, N2, u2, H2, p2, k⟩, v1, d, _, f⟩ := hq
  obtain ⟨N1, u1, H1, p1, s1⟩ := y
  have s2 : cC N1 u1 H1 r.2 := s1.fr (fun a ha => by
    have l : a < 563 := by
      rcases Nat.lt_or_ge a 563 with c | c
      · exact c
      · exact absurd (cK_out c) ha
    exact f a (by omega) (Or.inl l))
  have v0 : r0 = .inl (some (.double x)) := v0
  refine ⟨?_, N2, u2, H2, hr', s2.cg (ag _ _ _ _ _ _ p1 p2), d, k⟩
  rw [v1, v0]
  first
  | rfl
  | done
theorem YX.callvf {D j : Nat} {as as2 : List Value} {tm' er' : Int} {x : UInt32} {T' : Nat → Int} {Φ Ψ : SP} (E : jEm 563 hr h) (y : yZ Φ h) (ag : AgP Φ Ψ) (c : mj_Ok D j as hr (fun r => r.1 = .inl (some (.float x)) ∧ rZ Ψ tm' er' T' r)) (has : ∀ N, as.map (mj_rn (jro 563 N)) = as2) : mj_Ok D j as2 h (fun r => r.1 = .inl (some (.float x)) ∧ YX tm' er' T' r.2) := by
  have hL := E.2.2.1
  have := E.run c (fun r q h3 => by
    obtain ⟨_, N', u', H', _, k⟩ := q
    exact jI_s8 k.tI h3)
  rw [has] at this
  refine this.to (fun r hq => ?_)
  obtain ⟨r0, hr', ⟨v0, N2, u2, H2, p2, k⟩, v1, d, _, f⟩ := hq
  obtain ⟨N1, u1, H1, p1, s1⟩ := y
  have s2 : cC N1 u1 H1 r.2 := s1.fr (fun a ha => by
    have l : a < 563 := by
      rcases Nat.lt_or_ge a 563 with c | c
      · exact c
      · exact absurd (cK_out c) ha
    exact f a (by omega) (Or.inl l))
  have v0 : r0 = .inl (some (.float x)) := v0
  refine ⟨?_, N2, u2, H2, hr', s2.cg (ag _ _ _ _ _ _ p1 p2), d, k⟩
  rw [v1, v0]
  first
  | rfl
  | done
end YXW
