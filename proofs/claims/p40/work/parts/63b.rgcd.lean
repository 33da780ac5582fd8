/-! The reference's greatest common divisor of two numbers, exact quotients, negated polynomials. -/
theorem jrs_sg {bg : Nat → Int32} {s : Nat} {v w : Int} (h : jrs bg s v) (e : w.natAbs = v.natAbs) : jrs (upd bg (s * 702) (jn (jsg w))) s w := by
  obtain ⟨h1, h2, h3, h4⟩ := h
  refine ⟨?_, ?_, fun j hj => ?_, ?_⟩
  · unfold upd; rw [if_pos rfl]
  · unfold upd; rw [if_neg (by omega), e]; exact h2
  · unfold upd
    rw [e] at hj ⊢
    rw [if_neg (by omega)]
    exact h3 j hj
  · rw [e]; exact h4
theorem jrf_sg {bg : Nat → Int32} {s : Nat} {x : Int32} : jrf bg (upd bg (s * 702) x) s := fun j hj => by
  unfold upd
  rw [if_neg (by omega)]
section JQ
variable {D : Nat} {hp h : mj_H} {q0 q1 q2 q3 : Nat} {fs : List Value} {V : Nat → Int}
section JQT
variable {pc n r1 r2 r3 r4 r5 : Nat} {M : mj_M} {loc : mj_L} {st : List Value} {Q : mj_R → Prop}
theorem jS_gb (G : jG hp q0 q1 q2 q3 fs) (hs : jS hp q1 q2 q3 V h) (hc : M.2.2.2.2.1 pc = some (.getfield n, 10, 4, r3, r4, r5)) (k : mj_T D M (pc + 3) loc (.ref q1 :: st) h Q) : mj_T D M pc loc (.ref q0 :: st) h Q :=
  mj_T.step hc rfl (by simp only [mj_step, jS_a G hs, G.1.1.2.1, if_true]) k
theorem jS_st (G : jG hp q0 q1 q2 q3 fs) (hs : jS hp q1 q2 q3 V h) {s : Nat} {w : Int} (hl : s < 665) (e : w.natAbs = (V s).natAbs) (hc : M.2.2.2.2.1 pc = some (.iastore, r1, r2, r3, r4, r5)) (k : ∀ h', jS hp q1 q2 q3 (jvu V s w) h' → mj_T D M (pc + 1) loc st h' Q) : mj_T D M pc loc (.int (jn (jsg w)) :: .int (jn ((s * 702 : Nat) : Int)) :: .ref q1 :: st) h Q := by
  obtain ⟨bg, ov, db, kk, rfl⟩ := hs
  refine mj_T.xst (jE_c (jG_e G _) _) hc ⟨by omega, by omega⟩ ⟨by omega, by omega⟩ ?_
  rw [Int.toNat_natCast]
  exact k _ ⟨_, ov, db, kk.up (jrs_sg (kk s hl) e) jrf_sg, rfl⟩
end JQT
theorem jp_commons_loop (G : jG hp q0 q1 q2 q3 fs) {to i j : Nat} {g : Nat} (hto : to < 665) (t1 : to ≠ 655) (t2 : to ≠ 663) (t3 : to ≠ 664) {Q : mj_R → Prop}
    (hend : ∀ (W : Nat → Int) (h : mj_H), jS hp q1 q2 q3 W h → (W 663).natAbs = g → (∀ s, s ≠ to → s ≠ 655 → s ≠ 663 → s ≠ 664 → W s = V s) → mj_T (D + 4) mj_m193 61 [some (.ref q0), some (.int (jn (to : Nat))), some (.int (jn (i : Nat))), some (.int (jn (j : Nat)))] [] h Q) :
    ∀ (N : Nat) (W : Nat → Int) (h : mj_H), (W 664).natAbs ≤ N → jS hp q1 q2 q3 W h → Nat.gcd (W 663).natAbs (W 664).natAbs = g → (∀ s, s ≠ to → s ≠ 655 → s ≠ 663 → s ≠ 664 → W s = V s) → mj_T (D + 4) mj_m193 16 [some (.ref q0), some (.int (jn (to : Nat))), some (.int (jn (i : Nat))), some (.int (jn (j : Nat)))] [] h Q := by
  intro N
  induction N with
  | zero =>
    intro W h hN hs hg hf
    have h0 : W 664 = 0 := by omega
    iterate 2 refine mj_T.pl rfl rfl rfl rfl ?_
    refine mj_T.call (ins := .invokevirtual 68) rfl rfl (Nat.le_of_ble_eq_true rfl) (Nat.le_of_ble_eq_true rfl) (by simp [mj_recv, jS_a G hs]) rfl (jS_sign (D := D + 3) G (s := 664) (by decide) hs) (fun v' h' hq' => ?_) (fun i h' hq' => by cases hq')
    cases hq'
    rw [h0, jsg_zero]
    refine mj_T.if0 rfl ⟨by decide, by decide⟩ (fun hc => ?_) (fun hc => by cases hc)
    refine hend W h hs ?_ hf
    rw [h0] at hg
    simpa using hg
  | succ N ih =>
    intro W h hN hs hg hf
    iterate 2 refine mj_T.pl rfl rfl rfl rfl ?_
    refine mj_T.call (ins := .invokevirtual 68) rfl rfl (Nat.le_of_ble_eq_true rfl) (Nat.le_of_ble_eq_true rfl) (by simp [mj_recv, jS_a G hs]) rfl (jS_sign (D := D + 3) G (s := 664) (by decide) hs) (fun v' h' hq' => ?_) (fun i h' hq' => by cases hq')
    cases hq'
    have hsg := jsg_range (W 664)
    refine mj_T.if0 rfl ⟨by omega, by omega⟩ (fun hc => ?_) (fun hc => ?_)
    · simp only [jc, decide_eq_true_eq] at hc
      have h0 : W 664 = 0 := by
        rcases Int.lt_trichotomy (W 664) 0 with q | q | q
        · rw [jsg_neg q] at hc; omega
        · exact q
        · rw [jsg_pos q] at hc; omega
      refine hend W h hs ?_ hf
      rw [h0] at hg
      simpa using hg
    · simp only [jc, decide_eq_false_iff_not] at hc
      have h0 : W 664 ≠ 0 := fun q => hc (by rw [q]; rfl)
      iterate 5 refine mj_T.pl rfl rfl rfl rfl ?_
      refine mj_T.call (ins := .invokevirtual 101) rfl rfl (Nat.le_of_ble_eq_true rfl) (Nat.le_of_ble_eq_true rfl) (by simp [mj_recv, jS_a G hs]) rfl (jS_cuts (D := D) G (q := 655) (r := to) (a := 663) (b := 664) (by decide) hto (by decide) (by decide) (Ne.symm t1) (by decide) (by decide) t2 h0 hs) (fun v' h1 hq' => ?_) (fun i h' hq' => by obtain ⟨_, _, h⟩ := hq'; cases h)
      obtain ⟨_, hs1, hq'⟩ := hq'
      cases hq'
      iterate 3 refine mj_T.pl rfl rfl rfl rfl ?_
      refine mj_T.call (ins := .invokevirtual 84) rfl rfl (Nat.le_of_ble_eq_true rfl) (Nat.le_of_ble_eq_true rfl) (by simp [mj_recv, jS_a G hs1]) rfl (jS_copies (D := D + 2) G (to := 663) (s := 664) (by decide) (by decide) hs1) (fun v' h2 hq' => ?_) (fun i h' hq' => by obtain ⟨_, _, h⟩ := hq'; cases h)
      obtain ⟨_, hs2, hq'⟩ := hq'
      cases hq'
      iterate 3 refine mj_T.pl rfl rfl rfl rfl ?_
      refine mj_T.call (ins := .invokevirtual 84) rfl rfl (Nat.le_of_ble_eq_true rfl) (Nat.le_of_ble_eq_true rfl) (by simp [mj_recv, jS_a G hs2]) rfl (jS_copies (D := D + 2) G (to := 664) (s := to) (by decide) hto hs2) (fun v' h3 hq' => ?_) (fun i h' hq' => by obtain ⟨_, _, h⟩ := hq'; cases h)
      obtain ⟨_, hs3, hq'⟩ := hq'
      cases hq'
      refine mj_T.pl rfl rfl rfl rfl ?_
      have v664 : (jvu (jvu (jvu (jvu W 655 ((W 663).tdiv (W 664))) to ((W 663).tmod (W 664))) 663 (jvu (jvu W 655 ((W 663).tdiv (W 664))) to ((W 663).tmod (W 664)) 664)) 664 (jvu (jvu (jvu W 655 ((W 663).tdiv (W 664))) to ((W 663).tmod (W 664))) 663 (jvu (jvu W 655 ((W 663).tdiv (W 664))) to ((W 663).tmod (W 664)) 664) to)) 664 = (W 663).tmod (W 664) := by
        unfold jvu
        rw [if_pos rfl, if_neg t2, if_pos rfl]
      have v663 : (jvu (jvu (jvu (jvu W 655 ((W 663).tdiv (W 664))) to ((W 663).tmod (W 664))) 663 (jvu (jvu W 655 ((W 663).tdiv (W 664))) to ((W 663).tmod (W 664)) 664)) 664 (jvu (jvu (jvu W 655 ((W 663).tdiv (W 664))) to ((W 663).tmod (W 664))) 663 (jvu (jvu W 655 ((W 663).tdiv (W 664))) to ((W 663).tmod (W 664)) 664) to)) 663 = W 664 := by
        unfold jvu
        rw [if_neg (by decide), if_pos rfl, if_neg (Ne.symm t3), if_neg (by decide)]
      have hlt : ((W 663).tmod (W 664)).natAbs < (W 664).natAbs := by
        rw [Int.natAbs_tmod]
        exact Nat.mod_lt _ (by omega)
      refine ih _ h3 (by rw [v664]; omega) hs3 ?_ (fun s s1 s2 s3 s4 => ?_)
      · rw [v663, v664, Int.natAbs_tmod, Nat.gcd_comm, ← Nat.gcd_rec, Nat.gcd_comm]
        exact hg
      · rw [← hf s s1 s2 s3 s4]
        unfold jvu
        rw [if_neg s4, if_neg s3, if_neg s1, if_neg s2]
theorem jp_commons (G : jG hp q0 q1 q2 q3 fs) {to i j : Nat} (hto : to < 665) (hi : i < 665) (hj : j < 665) (t1 : to ≠ 655) (t2 : to ≠ 663) (t3 : to ≠ 664) (hj2 : j ≠ 663) (hs : jS hp q1 q2 q3 V h) :
    mj_Ok (D + 5) 193 [.ref q0, .int (jn (to : Nat)), .int (jn (i : Nat)), .int (jn (j : Nat))] h (fun r => ∃ (W : Nat → Int) (h' : mj_H), jS hp q1 q2 q3 W h' ∧ W to = ((Nat.gcd (V i).natAbs (V j).natAbs : Nat) : Int) ∧ (∀ s, s ≠ to → s ≠ 655 → s ≠ 663 → s ≠ 664 → W s = V s) ∧ r = (.inl none, h')) := by
  refine mj_Ok.of (M := mj_m193) rfl rfl rfl ?_
  iterate 3 refine mj_T.pl rfl rfl rfl rfl ?_
  refine mj_T.call (ins := .invokevirtual 84) rfl rfl (Nat.le_of_ble_eq_true rfl) (Nat.le_of_ble_eq_true rfl) (by simp [mj_recv, jS_a G hs]) rfl (jS_copies (D := D + 2) G (to := 663) (s := i) (by decide) hi hs) (fun v' h1 hq' => ?_) (fun i h' hq' => by obtain ⟨_, _, h⟩ := hq'; cases h)
  obtain ⟨_, hs1, hq'⟩ := hq'
  cases hq'
  iterate 3 refine mj_T.pl rfl rfl rfl rfl ?_
  refine mj_T.call (ins := .invokevirtual 84) rfl rfl (Nat.le_of_ble_eq_true rfl) (Nat.le_of_ble_eq_true rfl) (by simp [mj_recv, jS_a G hs1]) rfl (jS_copies (D := D + 2) G (to := 664) (s := j) (by decide) hj hs1) (fun v' h2 hq' => ?_) (fun i h' hq' => by obtain ⟨_, _, h⟩ := hq'; cases h)
  obtain ⟨_, hs2, hq'⟩ := hq'
  cases hq'
  refine jp_commons_loop (D := D) (V := V) G (g := Nat.gcd (V i).natAbs (V j).natAbs) hto t1 t2 t3 (fun W h3 hs3 k1 k2 => ?_) _ _ h2 (Nat.le_refl _) hs2 ?_ (fun s s1 s2 s3 s4 => ?_)
  · iterate 3 refine mj_T.pl rfl rfl rfl rfl ?_
    refine mj_T.call (ins := .invokevirtual 84) rfl rfl (Nat.le_of_ble_eq_true rfl) (Nat.le_of_ble_eq_true rfl) (by simp [mj_recv, jS_a G hs3]) rfl (jS_copies (D := D + 2) G (to := to) (s := 663) hto (by decide) hs3) (fun v' h4 hq' => ?_) (fun i h' hq' => by obtain ⟨_, _, h⟩ := hq'; cases h)
    obtain ⟨_, hs4, hq'⟩ := hq'
    cases hq'
    refine mj_T.pl rfl rfl rfl rfl ?_
    refine jS_gb G hs4 rfl ?_
    iterate 2 refine mj_T.pl rfl rfl rfl rfl ?_
    refine mj_T.imul (a := (to : Int)) (b := 702) rfl ?_
    rw [show (to : Int) * 702 = ((to * 702 : Nat) : Int) by omega]
    iterate 2 refine mj_T.pl rfl rfl rfl rfl ?_
    refine mj_T.call (ins := .invokevirtual 68) rfl rfl (Nat.le_of_ble_eq_true rfl) (Nat.le_of_ble_eq_true rfl) (by simp [mj_recv, jS_a G hs4]) rfl (jS_sign (D := D + 3) G (s := to) hto hs4) (fun v' h' hq' => ?_) (fun i h' hq' => by cases hq')
    cases hq'
    have vto : jvu W to (W 663) to = W 663 := by unfold jvu; rw [if_pos rfl]
    rw [vto]
    have fin : ∀ y : Int, y = jsg ((W 663).natAbs : Int) → mj_T (D + 4) mj_m193 91 [some (.ref q0), some (.int (jn (to : Nat))), some (.int (jn (i : Nat))), some (.int (jn (j : Nat)))] [.int (jn y), .int (jn ((to * 702 : Nat) : Int)), .ref q1] h4 (fun r => ∃ (W : Nat → Int) (h' : mj_H), jS hp q1 q2 q3 W h' ∧ W to = ((Nat.gcd (V i).natAbs (V j).natAbs : Nat) : Int) ∧ (∀ s, s ≠ to → s ≠ 655 → s ≠ 663 → s ≠ 664 → W s = V s) ∧ r = (.inl none, h')) := by
      intro y hy
      subst hy
      refine jS_st G hs4 (s := to) (w := ((W 663).natAbs : Int)) hto (by rw [vto]; exact Int.natAbs_natCast _) rfl (fun h5 hs5 => ?_)
      refine mj_T.ret rfl rfl rfl ⟨_, h5, hs5, ?_, fun s s1 s2 s3 s4 => ?_, rfl⟩
      · unfold jvu
        rw [if_pos rfl, k1]
      · rw [← k2 s s1 s2 s3 s4]
        unfold jvu
        rw [if_neg s1, if_neg s1]
    have hsg := jsg_range (W 663)
    refine mj_T.if0 rfl ⟨by omega, by omega⟩ (fun hc => ?_) (fun hc => ?_)
    · simp only [jc, Bool.not_eq_true', decide_eq_false_iff_not] at hc
      refine mj_T.pl rfl rfl rfl rfl ?_
      refine fin 1 ?_
      have : W 663 ≠ 0 := fun q => hc (by rw [q]; rfl)
      rw [jsg_pos (by omega)]
    · simp only [jc, Bool.not_eq_false', decide_eq_true_eq] at hc
      iterate 2 refine mj_T.pl rfl rfl rfl rfl ?_
      refine fin 0 ?_
      have : W 663 = 0 := by
        rcases Int.lt_trichotomy (W 663) 0 with q | q | q
        · rw [jsg_neg q] at hc; omega
        · exact q
        · rw [jsg_pos q] at hc; omega
      rw [this]
      rfl
  · have e1 : jvu (jvu V 663 (V i)) 664 (jvu V 663 (V i) j) 663 = V i := by unfold jvu; rw [if_neg (by decide), if_pos rfl]
    have e2 : jvu (jvu V 663 (V i)) 664 (jvu V 663 (V i) j) 664 = V j := by unfold jvu; rw [if_pos rfl, if_neg hj2]
    rw [e1, e2]
  · unfold jvu
    rw [if_neg s4, if_neg s3]
theorem jp_exact (G : jG hp q0 q1 q2 q3 fs) {i j : Nat} (hi : i < 665) (hj : j < 665) (n1 : i ≠ 663) (n2 : i ≠ 664) (n3 : i ≠ j) (n4 : j ≠ 663) (hv0 : V j ≠ 0) (hs : jS hp q1 q2 q3 V h) :
    mj_Ok (D + 5) 194 [.ref q0, .int (jn (i : Nat)), .int (jn (j : Nat))] h (fun r => ∃ (W : Nat → Int) (h' : mj_H), jS hp q1 q2 q3 W h' ∧ W i = (V i).tdiv (V j) ∧ (∀ s, s ≠ i → s ≠ 663 → s ≠ 664 → W s = V s) ∧ r = (.inl none, h')) := by
  refine mj_Ok.of (M := mj_m194) rfl rfl rfl ?_
  iterate 3 refine mj_T.pl rfl rfl rfl rfl ?_
  refine mj_T.call (ins := .invokevirtual 84) rfl rfl (Nat.le_of_ble_eq_true rfl) (Nat.le_of_ble_eq_true rfl) (by simp [mj_recv, jS_a G hs]) rfl (jS_copies (D := D + 2) G (to := 663) (s := i) (by decide) hi hs) (fun v' h1 hq' => ?_) (fun i h' hq' => by obtain ⟨_, _, h⟩ := hq'; cases h)
  obtain ⟨_, hs1, hq'⟩ := hq'
  cases hq'
  have ej : jvu V 663 (V i) j = V j := by unfold jvu; rw [if_neg n4]
  have e3 : jvu V 663 (V i) 663 = V i := by unfold jvu; rw [if_pos rfl]
  iterate 5 refine mj_T.pl rfl rfl rfl rfl ?_
  refine mj_T.call (ins := .invokevirtual 101) rfl rfl (Nat.le_of_ble_eq_true rfl) (Nat.le_of_ble_eq_true rfl) (by simp [mj_recv, jS_a G hs1]) rfl (jS_cuts (D := D) G (q := i) (r := 664) (a := 663) (b := j) hi (by decide) (by decide) hj n2 n1 n3 (by decide) (by rw [ej]; exact hv0) hs1) (fun v' h2 hq' => ?_) (fun i h' hq' => by obtain ⟨_, _, h⟩ := hq'; cases h)
  obtain ⟨_, hs2, hq'⟩ := hq'
  cases hq'
  refine mj_T.ret rfl rfl rfl ⟨_, h2, hs2, ?_, fun s s1 s2 s3 => ?_, rfl⟩
  · rw [ej, e3]
    unfold jvu
    rw [if_neg n2, if_pos rfl]
  · unfold jvu
    rw [if_neg s3, if_neg s1, if_neg s2]
theorem jp_negates_loop (G : jG hp q0 q1 q2 q3 fs) {p : Nat} (hpp : p ≤ 50) {Q : mj_R → Prop} (hend : ∀ h, jS hp q1 q2 q3 (jfl V p (fun e => - V (p * 13 + e)) 13) h → Q (.inl none, h)) :
    ∀ (d k : Nat) (h : mj_H), k + d = 13 → jS hp q1 q2 q3 (jfl V p (fun e => - V (p * 13 + e)) k) h → mj_T (D + 2) mj_m208 2 [some (.ref q0), some (.int (jn (p : Nat))), some (.int (jn (k : Nat)))] [] h Q := by
  intro d
  induction d with
  | zero =>
    intro k h hk hs
    have hk : k = 13 := by omega
    subst hk
    iterate 2 refine mj_T.pl rfl rfl rfl rfl ?_
    refine mj_T.icmp (a := ((13 : Nat) : Int)) (b := 13) rfl ⟨by decide, by decide⟩ ⟨by decide, by decide⟩ (fun hc => ?_) (fun hc => ?_)
    · exact mj_T.ret rfl rfl rfl (hend h hs)
    · simp [jc] at hc
  | succ d ih =>
    intro k h hk hs
    iterate 2 refine mj_T.pl rfl rfl rfl rfl ?_
    refine mj_T.icmp (a := (k : Int)) (b := 13) rfl ⟨by omega, by omega⟩ ⟨by decide, by decide⟩ (fun hc => ?_) (fun hc => ?_)
    · simp only [jc, decide_eq_true_eq] at hc
      omega
    · refine mj_T.pl rfl rfl rfl rfl ?_
      refine jS_gb G hs rfl ?_
      iterate 2 refine mj_T.pl rfl rfl rfl rfl ?_
      refine mj_T.call (ins := .invokestatic 104) rfl rfl (Nat.le_of_ble_eq_true rfl) (Nat.le_of_ble_eq_true rfl) rfl rfl (jq_slot (D := D + 1) (p := p) (i := k)) (fun v' h' hq' => ?_) (fun i h' hq' => by cases hq')
      cases hq'
      refine mj_T.pl rfl rfl rfl rfl ?_
      refine mj_T.imul (a := ((p * 13 + k : Nat) : Int)) (b := 702) rfl ?_
      rw [show ((p * 13 + k : Nat) : Int) * 702 = (((p * 13 + k) * 702 : Nat) : Int) by omega]
      iterate 3 refine mj_T.pl rfl rfl rfl rfl ?_
      refine mj_T.call (ins := .invokestatic 104) rfl rfl (Nat.le_of_ble_eq_true rfl) (Nat.le_of_ble_eq_true rfl) rfl rfl (jq_slot (D := D + 1) (p := p) (i := k)) (fun v' h' hq' => ?_) (fun i h' hq' => by cases hq')
      cases hq'
      refine mj_T.call (ins := .invokevirtual 68) rfl rfl (Nat.le_of_ble_eq_true rfl) (Nat.le_of_ble_eq_true rfl) (by simp [mj_recv, jS_a G hs]) rfl (jS_sign (D := D + 1) G (s := p * 13 + k) (by omega) hs) (fun v' h' hq' => ?_) (fun i h' hq' => by cases hq')
      cases hq'
      have ev : jfl V p (fun e => - V (p * 13 + e)) k (p * 13 + k) = V (p * 13 + k) := jfl_off V p _ (by omega)
      rw [ev]
      refine mj_T.ineg rfl ?_
      rw [show - jsg (V (p * 13 + k)) = jsg (- V (p * 13 + k)) by unfold jsg; (repeat' split) <;> omega]
      refine jS_st G hs (s := p * 13 + k) (w := - V (p * 13 + k)) (by omega) (by rw [ev]; exact Int.natAbs_neg _) rfl (fun h1 hs1 => ?_)
      refine mj_T.iinc (a := k) rfl rfl ?_
      refine mj_T.pl rfl rfl rfl rfl ?_
      exact ih (k + 1) h1 (by omega) (hs1.to (jfl_succ _ _ _ _))
theorem jp_negates (G : jG hp q0 q1 q2 q3 fs) {p : Nat} (hpp : p ≤ 50) (hs : jS hp q1 q2 q3 V h) : mj_Ok (D + 3) 208 [.ref q0, .int (jn (p : Nat))] h (fun r => ∃ h', jS hp q1 q2 q3 (jfl V p (fun e => - V (p * 13 + e)) 13) h' ∧ r = (.inl none, h')) := by
  refine mj_Ok.of (M := mj_m208) rfl rfl rfl ?_
  iterate 2 refine mj_T.pl rfl rfl rfl rfl ?_
  exact jp_negates_loop (D := D) G hpp (fun h k => ⟨h, k, rfl⟩) 13 0 h rfl (hs.to (jfl_zero _ _ _))
end JQ
