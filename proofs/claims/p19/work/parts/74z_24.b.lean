/-! The row of Sturm: one step of it, with its divisions exact. -/
/-- two neighbours of the row of A (degree m) and B (degree n): X of degree dx, Y of degree dy; la and ps divide what comes next -/
def RI (A B : pz_P) (m n : Nat) (X Y : pz_P) (dx dy : Nat) (la ps : Int) : Prop := (∀ i, dx < i → X i = 0) ∧ (∀ i, dy < i → Y i = 0) ∧ Y dy ≠ 0 ∧ dy ≤ dx ∧ (dy = dx → ps = 1) ∧ 0 < la ∧ 0 < ps ∧ SI A B m n X Y dx dy la ps
theorem RI.start {A B : pz_P} {m n : Nat} (hA : ∀ i, m < i → A i = 0) (hB : ∀ i, n < i → B i = 0) (hn : B n ≠ 0) (hmn : n ≤ m) : RI A B m n A B m n 1 1 := ⟨hA, hB, hn, hmn, fun _ => rfl, by decide, by decide, SI.start A B m n⟩
/-- what is left of X by Y, divided -/
def rdv (X Y : pz_P) (dx dy : Nat) (la ps : Int) : pz_P := fun i => itd (itd (er X Y dy (dx - dy) (dx - dy + 1) i) la 1) ps (dx - dy)
theorem itd_neg (x d : Int) : ∀ t, itd (-x) d t = -itd x d t
  | 0 => rfl
  | t + 1 => by
    show (itd (-x) d t).tdiv d = -((itd x d t).tdiv d)
    rw [itd_neg x d t, Int.neg_tdiv]
theorem RI.div {A B X Y : pz_P} {m n dx dy : Nat} {la ps : Int} (r : RI A B m n X Y dx dy la ps) (h1 : 1 ≤ dy) : pm (rdv X Y dx dy la ps) (SB (n - (dy - 1)) (m - (dy - 1)) n A B) ∧ pm (er X Y dy (dx - dy) (dx - dy + 1)) (pz_sc (la * ps ^ (dx - dy)) (SB (n - (dy - 1)) (m - (dy - 1)) n A B)) := by
  obtain ⟨r1, r2, r3, r4, r5, r6, r7, r8⟩ := r
  have e := r8.exact r4 h1 r2 r3 (er_SE r4 r2 r1) (er_low r4 r2 r1)
  refine ⟨?_, e⟩
  have val : ∀ s : Int, itd (itd (la * ps ^ (dx - dy) * s) la 1) ps (dx - dy) = s := fun s => by
    have q1 : itd (la * ps ^ (dx - dy) * s) la 1 = ps ^ (dx - dy) * s := by
      have := itd_mul (d := la) (by omega) (ps ^ (dx - dy) * s) 1
      rw [Int.pow_one, ← Int.mul_assoc] at this
      exact this
    rw [q1]
    exact itd_mul (by omega) s _
  rcases e with e | e
  · refine Or.inl fun i => ?_
    unfold rdv
    rw [e i]
    exact val _
  · refine Or.inr fun i => ?_
    unfold rdv
    rw [e i, itd_neg, itd_neg]
    exact congrArg Neg.neg (val _)
/-- the number that is known next -/
def nxk (Y : pz_P) (dx dy : Nat) (ps : Int) : Int := if dx = dy then ps else itd (((Y dy).natAbs : Int) ^ (dx - dy)) ps (dx - dy - 1)
theorem RI.known {A B X Y : pz_P} {m n dx dy : Nat} {la ps : Int} (r : RI A B m n X Y dx dy la ps) (hd : dy < dx) : nxk Y dx dy ps = ((SB (n - dy) (m - dy) n A B dy).natAbs : Int) ∧ ((Y dy).natAbs : Int) ^ (dx - dy) = ps ^ (dx - dy - 1) * nxk Y dx dy ps ∧ 0 < nxk Y dx dy ps := by
  obtain ⟨r1, r2, r3, r4, r5, r6, r7, r8⟩ := r
  have k := r8.known hd r2
  have k2 : ((Y dy).natAbs : Int) ^ (dx - dy) = ps ^ (dx - dy - 1) * ((SB (n - dy) (m - dy) n A B dy).natAbs : Int) := by
    have := congrArg (fun t : Nat => (t : Int)) k
    rw [Int.natCast_pow, Int.natCast_mul, Int.natCast_pow, show ((ps.natAbs : Nat) : Int) = ps by omega] at this
    exact this
  have e : nxk Y dx dy ps = ((SB (n - dy) (m - dy) n A B dy).natAbs : Int) := by
    unfold nxk
    rw [if_neg (by omega), k2]
    exact itd_mul (by omega) _ _
  refine ⟨e, by rw [e]; exact k2, ?_⟩
  rw [e]
  rcases Nat.eq_zero_or_pos (SB (n - dy) (m - dy) n A B dy).natAbs with z | z
  · rw [z] at k2
    have : ((Y dy).natAbs : Int) ^ (dx - dy) ≠ 0 := Int.pow_ne_zero (by omega)
    rw [k2] at this
    exact absurd (Int.mul_zero _) this
  · omega
/-- the next two neighbours -/
theorem RI.next {A B X Y F : pz_P} {m n dx dy rr : Nat} {la ps : Int} (r : RI A B m n X Y dx dy la ps) (h1 : 1 ≤ dy) (hF : pm F (rdv X Y dx dy la ps)) (hr : rr < dy) (hz : ∀ i, rr < i → F i = 0) (hn : F rr ≠ 0) : RI A B m n Y F dy rr ((Y dy).natAbs : Int) (nxk Y dx dy ps) := by
  have r0 := r
  obtain ⟨r1, r2, r3, r4, r5, r6, r7, r8⟩ := r
  obtain ⟨d1, d2⟩ := r0.div h1
  have hpos : 0 < nxk Y dx dy ps := by
    by_cases c : dx = dy
    · unfold nxk
      rw [if_pos c]
      exact r7
    · exact (r0.known (by omega)).2.2
  have hRz : ∀ i, rr < i → er X Y dy (dx - dy) (dx - dy + 1) i = 0 := fun i hi => by
    have f1 := hz i hi
    have f2 : rdv X Y dx dy la ps i = 0 := by
      rcases hF with q | q
      · rw [← q i]
        exact f1
      · have := q i
        omega
    have f3 : SB (n - (dy - 1)) (m - (dy - 1)) n A B i = 0 := by
      rcases d1 with q | q
      · rw [← q i]
        exact f2
      · have := q i
        omega
    rcases d2 with q | q
    · rw [q i]
      show _ * SB _ _ _ _ _ i = 0
      rw [f3, Int.mul_zero]
    · rw [q i]
      show -(_ * SB _ _ _ _ _ i) = 0
      rw [f3, Int.mul_zero]
      rfl
  have hRF : pm (er X Y dy (dx - dy) (dx - dy + 1)) (pz_sc (la * ps ^ (dx - dy)) F) := d2.tr ((d1.sy.tr hF.sy).sc _)
  refine ⟨r2, hz, hn, by omega, fun e => by omega, by omega, hpos, ?_⟩
  refine SI.step r8 r4 hr r2 r3 (er_SE r4 r2 r1) hRz hRF (by omega) (by omega) rfl ?_
  by_cases c : dx = dy
  · refine Or.inl ⟨c, r5 c.symm, ?_⟩
    unfold nxk
    rw [if_pos c]
    exact r5 c.symm
  · exact Or.inr ⟨by omega, (r0.known (by omega)).2.1⟩
/-! The row of Sturm ends in what divides both, up to a factor. -/
/-- G divides x, with fractions -/
def qdv (G x : pz_P) : Prop := ∃ (c : Int) (T : pz_P) (N : Nat), c ≠ 0 ∧ pz_lt T N ∧ pz_sc c x = pz_mul T G
theorem er_rel {F B : pz_P} {db gap : Nat} (hB : ∀ i, db < i → B i = 0) (hF : ∀ i, db + gap < i → F i = 0) : ∀ k, k ≤ gap + 1 → ∃ Q : pz_P, pz_lt Q (gap + 1) ∧ pz_sc ((B db) ^ k) F = pz_add (pz_mul Q B) (er F B db gap k)
  | 0, _ => ⟨pz_0, fun _ _ => rfl, by
    rw [Int.pow_zero, pz_sc_one, pz_mul_0L]
    funext i
    show F i = 0 + F i
    omega⟩
  | k + 1, hk => by
    obtain ⟨Q, hQl, hQ⟩ := er_rel hB hF k (by omega)
    have e := (elw_top (F := er F B db gap k) (db := db) (s := gap - k) hB (fun i hi => er_top hB hF k (by omega) i (by omega))).1
    refine ⟨pz_add (pz_sc (B db) Q) (pz_mono (gap - k) (er F B db gap k (db + (gap - k)))), ?_, ?_⟩
    · refine pz_lt.add (hQl.sc _) (fun i hi => ?_)
      unfold pz_mono
      rw [if_neg (by omega)]
    rw [Int.pow_succ, Int.mul_comm]
    refine jdv_next (lc := B db) (m := gap - k) (t := er F B db gap k (db + (gap - k))) hQ rfl ?_
    funext i
    show elw (er F B db gap k) B db (gap - k) i = B db * er F B db gap k i + -1 * pz_c i (pz_mono (gap - k) (er F B db gap k (db + (gap - k)))) B
    rw [e i, pz_mono_mul]
    unfold pz_sh
    by_cases c : i < gap - k
    · rw [if_pos c, if_neg (by omega), Int.mul_zero, Int.mul_zero]
      omega
    · rw [if_neg c, if_pos (by omega)]
      omega
theorem qdv.add {G x y : pz_P} (h : qdv G x) (k : qdv G y) : qdv G (pz_add x y) := by
  obtain ⟨c, T, N, hc, hT, h⟩ := h
  obtain ⟨d, S, K, hd, hS, k⟩ := k
  refine ⟨c * d, pz_add (pz_sc d T) (pz_sc c S), N + K, Int.mul_ne_zero hc hd, pz_lt.add ((hT.sc d).mono (by omega)) ((hS.sc c).mono (by omega)), ?_⟩
  rw [pz_mul_addL, pz_mul_scL, pz_mul_scL, ← h, ← k]
  funext i
  show c * d * (x i + y i) = d * (c * x i) + c * (d * y i)
  rw [Int.mul_add]
  have e1 : c * d * x i = d * (c * x i) := by ac_rfl
  have e2 : c * d * y i = c * (d * y i) := by ac_rfl
  rw [e1, e2]
theorem qdv.sc {G x : pz_P} (h : qdv G x) (a : Int) : qdv G (pz_sc a x) := by
  obtain ⟨c, T, N, hc, hT, h⟩ := h
  refine ⟨c, pz_sc a T, N, hc, hT.sc a, ?_⟩
  rw [pz_mul_scL, ← h, pz_sc_sc, pz_sc_sc, Int.mul_comm]
theorem qdv.un {G x : pz_P} {a : Int} (ha : a ≠ 0) (h : qdv G (pz_sc a x)) : qdv G x := by
  obtain ⟨c, T, N, hc, hT, h⟩ := h
  exact ⟨c * a, T, N, Int.mul_ne_zero hc ha, hT, by rw [← pz_sc_sc]; exact h⟩
theorem qdv.mul {G x Q : pz_P} {K : Nat} (h : qdv G x) (hQ : pz_lt Q K) : qdv G (pz_mul Q x) := by
  obtain ⟨c, T, N, hc, hT, h⟩ := h
  refine ⟨c, pz_mul Q T, K + N, hc, pz_lt.mul hQ hT (by omega), ?_⟩
  rw [pz_mul_assoc, ← h, pz_mul_scR]
theorem qdv.pm {G x y : pz_P} (h : qdv G x) (p : pm x y) : qdv G y := by
  rcases p with p | p
  · rw [← funext p]
    exact h
  · have : y = pz_sc (-1) x := funext fun i => by
      show y i = -1 * x i
      rw [p i]
      omega
    rw [this]
    exact h.sc _
/-- X and Y have the same common divisors as A and B -/
def CD (A B X Y : pz_P) : Prop := ∀ G : pz_P, (qdv G A ∧ qdv G B) ↔ (qdv G X ∧ qdv G Y)
theorem CD.start (A B : pz_P) : CD A B A B := fun G => Iff.rfl
theorem qdv_rem {X Y R Q G : pz_P} {c : Int} {K : Nat} (hc : c ≠ 0) (hQ : pz_lt Q K) (h : pz_sc c X = pz_add (pz_mul Q Y) R) (hY : qdv G Y) : qdv G X ↔ qdv G R := by
  constructor
  · intro hX
    have e : R = pz_add (pz_sc c X) (pz_sc (-1) (pz_mul Q Y)) := by
      rw [h]
      funext i
      show R i = pz_mul Q Y i + R i + -1 * pz_mul Q Y i
      omega
    rw [e]
    exact (hX.sc c).add ((hY.mul hQ).sc _)
  · intro hR
    refine qdv.un hc ?_
    rw [h]
    exact (hY.mul hQ).add hR
/-- one step of the row -/
theorem CD.next {A B X Y F : pz_P} {m n dx dy : Nat} {la ps : Int} (r : RI A B m n X Y dx dy la ps) (h1 : 1 ≤ dy) (hF : pm F (rdv X Y dx dy la ps)) (k : CD A B X Y) : CD A B Y F := fun G => by
  obtain ⟨d1, d2⟩ := r.div h1
  obtain ⟨r1, r2, r3, r4, r5, r6, r7, r8⟩ := r
  have hRF : pm (er X Y dy (dx - dy) (dx - dy + 1)) (pz_sc (la * ps ^ (dx - dy)) F) := d2.tr ((d1.sy.tr hF.sy).sc _)
  have hl : la * ps ^ (dx - dy) ≠ 0 := Int.mul_ne_zero (by omega) (Int.pow_ne_zero (by omega))
  obtain ⟨Q, hQl, hQ⟩ := er_rel (F := X) (B := Y) (db := dy) (gap := dx - dy) r2 (fun i hi => r1 i (by omega)) (dx - dy + 1) (Nat.le_refl _)
  have hc : (Y dy) ^ (dx - dy + 1) ≠ 0 := Int.pow_ne_zero r3
  rw [k G]
  constructor
  · rintro ⟨hX, hY⟩
    exact ⟨hY, qdv.un hl ((((qdv_rem hc hQl hQ hY).mp hX)).pm hRF)⟩
  · rintro ⟨hY, hFF⟩
    exact ⟨(qdv_rem hc hQl hQ hY).mpr ((hFF.sc _).pm hRF.sy), hY⟩
theorem pz_one_mul (G : pz_P) : pz_mul pz_one G = G := funext fun i => by
  show pz_c i pz_one G = G i
  rw [pz_c_zs, zs_one (p := 0) (by omega) (fun j hj hn => by
    show (if j = 0 then (1 : Int) else 0) * _ = 0
    rw [if_neg hn, Int.zero_mul])]
  show 1 * G (i - 0) = G i
  rw [Int.one_mul, Nat.sub_zero]
theorem qdv.rf (G : pz_P) : qdv G G := ⟨1, pz_one, 1, by decide, fun i hi => if_neg (by omega), by
  rw [pz_sc_one, pz_one_mul]⟩
theorem qdv.z (G : pz_P) : qdv G pz_0 := ⟨1, pz_0, 0, by decide, fun _ _ => rfl, by rw [pz_mul_0L]; funext i; rfl⟩
/-- the last of the row, where nothing is left -/
theorem CD.last {A B X Y : pz_P} {m n dx dy : Nat} {la ps : Int} (r : RI A B m n X Y dx dy la ps) (h1 : 1 ≤ dy) (hz : ∀ i, rdv X Y dx dy la ps i = 0) (k : CD A B X Y) : ∀ G, (qdv G A ∧ qdv G B) ↔ qdv G Y := fun G => by
  have k2 := CD.next (F := pz_0) r h1 (Or.inl fun i => (hz i).symm) k
  rw [k2 G]
  exact ⟨fun h => h.1, fun h => ⟨h, qdv.z G⟩⟩
/-- or where it is a number -/
theorem CD.const {A B X Y : pz_P} {N : Nat} (hX : pz_lt X N) (h0 : Y 0 ≠ 0) (hz : ∀ i, 0 < i → Y i = 0) (k : CD A B X Y) : ∀ G, (qdv G A ∧ qdv G B) ↔ qdv G Y := fun G => by
  rw [k G]
  refine ⟨fun h => h.2, fun h => ⟨?_, h⟩⟩
  have hm : pz_mul X Y = pz_sc (Y 0) X := funext fun i => by
    show pz_c i X Y = Y 0 * X i
    rw [pz_c_zs, zs_one (p := i) (by omega) (fun j hj hn => by rw [hz (i - j) (by omega), Int.mul_zero]), Nat.sub_self, Int.mul_comm]
  refine qdv.un h0 ?_
  rw [← hm]
  exact h.mul hX
/-! The row of Sturm of the class: the number that is known next. -/
section MRK
variable {g h : mj_H} {n D a c : Nat} {V : Nat → Int} {X : Nat → Nat → Int}
theorem mW_setSizeOf (m : jM g n V X h) (kc : cK c = 18) (ka : cK a = 18) (hne : a ≠ c) (hm : jnl (V a).natAbs ≤ cL (c + 1)) : mj_Ok (D + 2) 88 [.ref c, .ref a] h (fun r => ∃ h2, jM g n (jvu V c (((V a).natAbs : Nat) : Int)) X h2 ∧ r = (.inl none, h2)) := by
  have hcc2 : jnl (V a).natAbs ≤ 1500 := by
    have q := (mK_w (Or.inl kc)).2.1
    omega
  refine mj_Ok.of (M := mj_m88) rfl rfl rfl ?_
  iterate 2 refine mj_T.pl rfl rfl rfl rfl ?_
  refine mj_T.call rfl rfl (Nat.le_of_ble_eq_true rfl) (Nat.le_of_ble_eq_true rfl) (mV_of m 18 kc (by decide) rfl (by decide) rfl _) rfl (mj_Ok.up (by omega) (mW_set (D := 0) m kc ka (by omega) (by rw [(rfl : V a = _)]; exact hm))) (fun v g1 hq => ?_) (fun i g1 hq => ?_)
  rotate_left
  · obtain ⟨_, _, hq⟩ := hq; cases hq
  obtain ⟨_, m2, hq⟩ := hq
  cases hq
  have m2 := m2.to (V' := (jvu V c (V a))) (by rw [(rfl : V a = _)]) rfl
  refine mj_T.eq (pc2 := 5) (st2 := []) ?_ rfl rfl rfl rfl
  iterate 2 refine mj_T.pl rfl rfl rfl rfl ?_
  refine mT_sg m2 kc rfl ?_ (hcl := by rw [(jvu_at _ _ _)]; exact hcc2)
  refine mj_T.if0 (a := (jsg ((jvu V c (V a)) c))) rfl (jsg_r _) (fun c3 => ?_) (fun c3 => ?_)
  · simp only [jc, Bool.not_eq_true', Bool.not_eq_false', decide_eq_true_eq, decide_eq_false_iff_not] at c3
    have hs1 : jsg (((V a).natAbs : Nat) : Int) = 1 := jsg_pos (by rw [jvu_at] at c3; have := mt jsg_z0.mpr c3; omega)
    refine mj_T.pl rfl rfl rfl rfl ?_
    refine mT_psg (w := (((V a).natAbs : Nat) : Int)) m2 kc (by rw [(jvu_at _ _ _)]; rfl) hs1 rfl (fun h4 m5 => ?_) (hcl := by rw [(jvu_at _ _ _)]; exact hcc2)
    exact mj_T.ret rfl rfl rfl ⟨_, m5.to (by rw [jvu_jvu]) rfl, rfl⟩
  · simp only [jc, Bool.not_eq_true', Bool.not_eq_false', decide_eq_true_eq, decide_eq_false_iff_not] at c3
    have hs0 : jsg (((V a).natAbs : Nat) : Int) = 0 := jsg_z0.mpr (by rw [jvu_at] at c3; have := jsg_z0.mp c3; omega)
    iterate 2 refine mj_T.pl rfl rfl rfl rfl ?_
    refine mT_psg (w := (((V a).natAbs : Nat) : Int)) m2 kc (by rw [(jvu_at _ _ _)]; rfl) hs0 rfl (fun h6 m7 => ?_) (hcl := by rw [(jvu_at _ _ _)]; exact hcc2)
    exact mj_T.ret rfl rfl rfl ⟨_, m7.to (by rw [jvu_jvu]) rfl, rfl⟩
theorem mR_pow {p : Nat} {L : Int} (hp : p ≤ 12) (hL : ∀ i, i ≤ p → jnl (L ^ i).natAbs ≤ 239) {Q : mj_R → Prop} (hend : ∀ (V1 : Nat → Int) (h1 : mj_H), jM g n V1 X h1 → V1 164 = L ^ p → V1 174 = L → (∀ x, x ≠ 164 → x ≠ 166 → V1 x = V x) → mj_T (D + 1) mj_m72 55 [some (.ref 172), some (.int (jn (p : Int))), some (.ref 164), some (.int (jn (p : Int)))] [] h1 Q) : ∀ k i, i + k = p → ∀ (V1 : Nat → Int) (h1 : mj_H), jM g n V1 X h1 → V1 164 = L ^ i → V1 174 = L → (∀ x, x ≠ 164 → x ≠ 166 → V1 x = V x) → mj_T (D + 1) mj_m72 18 [some (.ref 172), some (.int (jn (p : Int))), some (.ref 164), some (.int (jn (i : Int)))] [] h1 Q
  | 0, i, hi, V1, h1, m, e1, e2, e3 => by
    iterate 2 refine mj_T.pl rfl rfl rfl rfl ?_
    refine mj_T.icmp (a := ((i : Nat) : Int)) (b := ((p : Nat) : Int)) rfl ⟨by omega, by omega⟩ ⟨by omega, by omega⟩ (fun c1 => ?_) (fun c1 => ?_)
    · simp only [jc, Bool.not_eq_true', Bool.not_eq_false', decide_eq_true_eq, decide_eq_false_iff_not] at c1
      have hip : i = p := by omega
      subst hip
      exact hend V1 _ m e1 e2 e3
    · exfalso
      simp only [jc, Bool.not_eq_true', Bool.not_eq_false', decide_eq_true_eq, decide_eq_false_iff_not] at c1
      omega
  | k + 1, i, hi, V1, h1, m, e1, e2, e3 => by
    have c1 : cL (164 + 1) = 240 := mK_z.2.2.2.2.2.2.2.1
    have c2 : cL (166 + 1) = 240 := mK_z.2.2.2.2.2.2.2.2.1
    iterate 2 refine mj_T.pl rfl rfl rfl rfl ?_
    refine mj_T.icmp (a := ((i : Nat) : Int)) (b := ((p : Nat) : Int)) rfl ⟨by omega, by omega⟩ ⟨by omega, by omega⟩ (fun c1 => ?_) (fun c1 => ?_)
    · exfalso
      simp only [jc, Bool.not_eq_true', Bool.not_eq_false', decide_eq_true_eq, decide_eq_false_iff_not] at c1
      omega
    · simp only [jc, Bool.not_eq_true', Bool.not_eq_false', decide_eq_true_eq, decide_eq_false_iff_not] at c1
      refine mj_T.pl rfl rfl rfl rfl ?_
      refine mT_get m 16 cq_d172 (by decide) rfl rfl ?_
      refine mT_get m 11 cq_d19 (by decide) rfl rfl ?_
      iterate 2 refine mj_T.pl rfl rfl rfl rfl ?_
      refine mT_get m 16 cq_d172 (by decide) rfl rfl ?_
      refine mj_T.call rfl rfl (Nat.le_of_ble_eq_true rfl) (Nat.le_of_ble_eq_true rfl) (mV_of m 18 cq_d166 (by decide) rfl (by decide) rfl _) rfl (mj_Ok.up (by omega) (mW_setProduct (D := 0) m cq_d166 cq_d164 cq_d174 (by omega) (by omega) (by omega) (by rw [(rfl : V1 164 = _), (rfl : V1 174 = _)]; exact (by rw [e1, e2, ← Int.pow_succ]; exact Nat.le_trans (hL (i + 1) (by omega)) (by omega))) (hca := by rw [(rfl : V1 164 = _)]; rw [e1]; exact Nat.le_trans (hL i (by omega)) (by decide)) (hcb := by rw [(rfl : V1 174 = _)]; rw [e2]; have q := hL 1 (by omega); rw [Int.pow_one] at q; omega))) (fun v g2 hq => ?_) (fun i g2 hq => ?_)
      rotate_left
      · obtain ⟨_, _, hq⟩ := hq; cases hq
      obtain ⟨_, m3, hq⟩ := hq
      cases hq
      have m3 := m3.to (V' := (jvu V1 166 ((V1 164) * (V1 174)))) (by rw [(rfl : V1 164 = _), (rfl : V1 174 = _)]) rfl
      refine mj_T.eq (pc2 := 38) (st2 := []) ?_ rfl rfl rfl rfl
      iterate 2 refine mj_T.pl rfl rfl rfl rfl ?_
      refine mT_get m3 16 cq_d172 (by decide) rfl rfl ?_
      refine mT_get m3 11 cq_d19 (by decide) rfl rfl ?_
      refine mj_T.call rfl rfl (Nat.le_of_ble_eq_true rfl) (Nat.le_of_ble_eq_true rfl) (mV_of m3 18 cq_d164 (by decide) rfl (by decide) rfl _) rfl (mj_Ok.up (by omega) (mW_set (D := 0) m3 cq_d164 cq_d166 (by omega) (by rw [(jvu_at _ _ _)]; exact (by rw [e1, e2, ← Int.pow_succ]; exact Nat.le_trans (hL (i + 1) (by omega)) (by omega))))) (fun v g4 hq => ?_) (fun i g4 hq => ?_)
      rotate_left
      · obtain ⟨_, _, hq⟩ := hq; cases hq
      obtain ⟨_, m5, hq⟩ := hq
      cases hq
      have m5 := m5.to (V' := (jvu (jvu V1 166 ((V1 164) * (V1 174))) 164 ((V1 164) * (V1 174)))) (by rw [(jvu_at _ _ _)]) rfl
      refine mj_T.eq (pc2 := 49) (st2 := []) ?_ rfl rfl rfl rfl
      refine mj_T.iinc rfl rfl ?_
      rw [show ((i : Nat) : Int) + 1 = ((i + 1 : Nat) : Int) by omega]
      refine mj_T.eq (loc2 := [some (.ref 172), some (.int (jn ((p : Nat) : Int))), some (.ref 164), some (.int (jn (((i + 1) : Nat) : Int)))]) ?_ rfl rfl rfl rfl
      refine mj_T.pl rfl rfl rfl rfl ?_
      refine mR_pow hp hL hend k (i + 1) (by omega) _ _ m5 ?_ ?_ (fun x x1 x2 => ?_)
      · rw [(jvu_at _ _ _), e1, e2, Int.pow_succ]
      · rw [((jvu_ne _ _ _ (by omega)).trans ((jvu_ne _ _ _ (by omega)).trans (rfl : V1 174 = _)))]
        exact e2
      · rw [((jvu_ne _ _ _ (by omega)).trans ((jvu_ne _ _ _ (by omega)).trans (rfl : V1 x = _)))]
        exact e3 x x1 x2
theorem mR_itd {p : Nat} {P K : Int} (hp : p ≤ 12) (hP : jnl P.natAbs ≤ 239) (hK : jnl K.natAbs ≤ 60) {Q : mj_R → Prop} (hend : ∀ (V1 : Nat → Int) (h1 : mj_H), jM g n V1 X h1 → V1 164 = itd P K (p - 1) → (∀ x, x ≠ 164 → x ≠ 166 → x ≠ 170 → V1 x = V x) → mj_T (D + 2) mj_m72 111 [some (.ref 172), some (.int (jn (p : Int))), some (.ref 164), some (.int (jn (p : Int)))] [] h1 Q) : ∀ k i, 1 ≤ i → i + k = p → ∀ (V1 : Nat → Int) (h1 : mj_H), jM g n V1 X h1 → V1 164 = itd P K (i - 1) → V1 170 = K → (∀ x, x ≠ 164 → x ≠ 166 → x ≠ 170 → V1 x = V x) → mj_T (D + 2) mj_m72 71 [some (.ref 172), some (.int (jn (p : Int))), some (.ref 164), some (.int (jn (i : Int)))] [] h1 Q
  | 0, i, h0, hi, V1, h1, m, e1, e2, e3 => by
    iterate 2 refine mj_T.pl rfl rfl rfl rfl ?_
    refine mj_T.icmp (a := ((i : Nat) : Int)) (b := ((p : Nat) : Int)) rfl ⟨by omega, by omega⟩ ⟨by omega, by omega⟩ (fun c1 => ?_) (fun c1 => ?_)
    · simp only [jc, Bool.not_eq_true', Bool.not_eq_false', decide_eq_true_eq, decide_eq_false_iff_not] at c1
      have hip : i = p := by omega
      subst hip
      exact hend V1 _ m e1 e3
    · exfalso
      simp only [jc, Bool.not_eq_true', Bool.not_eq_false', decide_eq_true_eq, decide_eq_false_iff_not] at c1
      omega
  | k + 1, i, h0, hi, V1, h1, m, e1, e2, e3 => by
    have c1 : cL (164 + 1) = 240 := mK_z.2.2.2.2.2.2.2.1
    have c2 : cL (166 + 1) = 240 := mK_z.2.2.2.2.2.2.2.2.1
    have hle := jnl_mono (itd_le P K (i - 1))
    iterate 2 refine mj_T.pl rfl rfl rfl rfl ?_
    refine mj_T.icmp (a := ((i : Nat) : Int)) (b := ((p : Nat) : Int)) rfl ⟨by omega, by omega⟩ ⟨by omega, by omega⟩ (fun c1 => ?_) (fun c1 => ?_)
    · exfalso
      simp only [jc, Bool.not_eq_true', Bool.not_eq_false', decide_eq_true_eq, decide_eq_false_iff_not] at c1
      omega
    · simp only [jc, Bool.not_eq_true', Bool.not_eq_false', decide_eq_true_eq, decide_eq_false_iff_not] at c1
      refine mj_T.pl rfl rfl rfl rfl ?_
      refine mT_get m 16 cq_d172 (by decide) rfl rfl ?_
      refine mT_get m 11 cq_d19 (by decide) rfl rfl ?_
      iterate 2 refine mj_T.pl rfl rfl rfl rfl ?_
      refine mT_get m 16 cq_d172 (by decide) rfl rfl ?_
      refine mT_get m 11 cq_d19 (by decide) rfl rfl ?_
      refine mj_T.call rfl rfl (Nat.le_of_ble_eq_true rfl) (Nat.le_of_ble_eq_true rfl) (mV_of m 12 cq_d170 (by decide) rfl (by decide) rfl _) rfl (mj_Ok.up (by omega) (mW_split (D := 0) m cq_d170 cq_d164 cq_d166 (by omega) (by rw [(rfl : V1 164 = _), (rfl : V1 170 = _)]; exact (by rw [e1]; exact jfa_one (by omega))) (by rw [(rfl : V1 164 = _), (rfl : V1 170 = _)]; exact (by rw [e1]; exact Nat.le_trans (jnl_tdiv (Nat.le_refl _)) (by omega))) (hcc := by rw [(rfl : V1 170 = _)]; rw [e2]; omega))) (fun v g2 hq => ?_) (fun i g2 hq => ?_)
      rotate_left
      · obtain ⟨_, _, hq⟩ := hq; cases hq
      obtain ⟨_, m3, hq⟩ := hq
      cases hq
      have m3 := m3.to (V' := (jvu (jvu V1 164 ((V1 164).tmod (V1 170))) 166 ((V1 164).tdiv (V1 170)))) (by rw [(rfl : V1 164 = _), (rfl : V1 170 = _)]) rfl
      refine mj_T.eq (pc2 := 94) (st2 := []) ?_ rfl rfl rfl rfl
      iterate 2 refine mj_T.pl rfl rfl rfl rfl ?_
      refine mT_get m3 16 cq_d172 (by decide) rfl rfl ?_
      refine mT_get m3 11 cq_d19 (by decide) rfl rfl ?_
      refine mj_T.call rfl rfl (Nat.le_of_ble_eq_true rfl) (Nat.le_of_ble_eq_true rfl) (mV_of m3 18 cq_d164 (by decide) rfl (by decide) rfl _) rfl (mj_Ok.up (by omega) (mW_set (D := 0) m3 cq_d164 cq_d166 (by omega) (by rw [(jvu_at _ _ _)]; exact (by rw [e1]; exact Nat.le_trans (jnl_tdiv (Nat.le_refl _)) (by omega))))) (fun v g4 hq => ?_) (fun i g4 hq => ?_)
      rotate_left
      · obtain ⟨_, _, hq⟩ := hq; cases hq
      obtain ⟨_, m5, hq⟩ := hq
      cases hq
      have m5 := m5.to (V' := (jvu (jvu (jvu V1 164 ((V1 164).tmod (V1 170))) 166 ((V1 164).tdiv (V1 170))) 164 ((V1 164).tdiv (V1 170)))) (by rw [(jvu_at _ _ _)]) rfl
      refine mj_T.eq (pc2 := 105) (st2 := []) ?_ rfl rfl rfl rfl
      refine mj_T.iinc rfl rfl ?_
      rw [show ((i : Nat) : Int) + 1 = ((i + 1 : Nat) : Int) by omega]
      refine mj_T.eq (loc2 := [some (.ref 172), some (.int (jn ((p : Nat) : Int))), some (.ref 164), some (.int (jn (((i + 1) : Nat) : Int)))]) ?_ rfl rfl rfl rfl
      refine mj_T.pl rfl rfl rfl rfl ?_
      refine mR_itd hp hP hK hend k (i + 1) (by omega) (by omega) _ _ m5 ?_ ?_ (fun x x1 x2 x3 => ?_)
      · rw [(jvu_at _ _ _), e1, e2, show i + 1 - 1 = i - 1 + 1 by omega]
        rfl
      · rw [((jvu_ne _ _ _ (by omega)).trans ((jvu_ne _ _ _ (by omega)).trans ((jvu_ne _ _ _ (by omega)).trans (rfl : V1 170 = _))))]
        exact e2
      · rw [((jvu_ne _ _ _ (by omega)).trans ((jvu_ne _ _ _ (by omega)).trans ((jvu_ne _ _ _ (by omega)).trans (rfl : V1 x = _))))]
        exact e3 x x1 x2 x3
theorem mR_renew (m : jM g n V X h) {p : Nat} (hp1 : 1 ≤ p) (hp : p ≤ 12) (hL : ∀ i, i ≤ p → jnl (V 174 ^ i).natAbs ≤ 239) (hk : jnl (V 176).natAbs ≤ 60) (hl : jnl (V 174).natAbs ≤ 240) (hk2 : jnl (itd (V 174 ^ p) (V 176) (p - 1)).natAbs ≤ cL (176 + 1)) : mj_Ok (D + 3) 72 [.ref 172, .int (jn (p : Int))] h (fun r => ∃ V2 h2, jM g n V2 X h2 ∧ V2 176 = itd (V 174 ^ p) (V 176) (p - 1) ∧ (∀ x, x ≠ 164 → x ≠ 166 → x ≠ 170 → x ≠ 176 → V2 x = V x) ∧ r = (.inl none, h2)) := by
  have c1 : cL (164 + 1) = 240 := mK_z.2.2.2.2.2.2.2.1
  have c4 : cL (170 + 1) = 60 := mK_z.2.2.2.2.2.2.2.2.2.2.1
  refine mj_Ok.of (M := mj_m72) rfl rfl rfl ?_
  refine mj_T.pl rfl rfl rfl rfl ?_
  refine mT_get m 16 cq_d172 (by decide) rfl rfl ?_
  refine mT_get m 11 cq_d19 (by decide) rfl rfl ?_
  refine mj_T.pl (loc' := [some (.ref 172), some (.int (jn ((p : Nat) : Int))), some (.ref 164), none]) rfl rfl rfl rfl ?_
  iterate 2 refine mj_T.pl rfl rfl rfl rfl ?_
  refine mT_get m 16 cq_d172 (by decide) rfl rfl ?_
  refine mj_T.call rfl rfl (Nat.le_of_ble_eq_true rfl) (Nat.le_of_ble_eq_true rfl) (mV_of m 18 cq_d164 (by decide) rfl (by decide) rfl _) rfl (mj_Ok.up (by omega) (mW_set (D := 0) m cq_d164 cq_d174 (by omega) (by rw [(rfl : V 174 = _)]; exact (by omega)))) (fun v g1 hq => ?_) (fun i g1 hq => ?_)
  rotate_left
  · obtain ⟨_, _, hq⟩ := hq; cases hq
  obtain ⟨_, m2, hq⟩ := hq
  cases hq
  have m2 := m2.to (V' := (jvu V 164 (V 174))) (by rw [(rfl : V 174 = _)]) rfl
  refine mj_T.eq (pc2 := 16) (st2 := []) ?_ rfl rfl rfl rfl
  refine mj_T.pl rfl rfl rfl rfl ?_
  refine mj_T.pl (loc' := [some (.ref 172), some (.int (jn ((p : Nat) : Int))), some (.ref 164), some (.int (jn 1))]) rfl rfl rfl rfl ?_
  refine mR_pow (V := V) (L := V 174) hp hL (fun V2 h2 m2 e1 e2 e3 => ?_) (p - 1) 1 (by omega) _ _ m2 ((jvu_at _ _ _).trans (Int.pow_one _).symm) (jvu_ne _ _ _ (by decide)) (fun x x1 x2 => jvu_ne _ _ _ x1)
  refine mj_T.pl rfl rfl rfl rfl ?_
  refine mT_get m2 16 cq_d172 (by decide) rfl rfl ?_
  refine mT_get m2 11 cq_d19 (by decide) rfl rfl ?_
  refine mj_T.pl rfl rfl rfl rfl ?_
  refine mT_get m2 16 cq_d172 (by decide) rfl rfl ?_
  refine mj_T.call rfl rfl (Nat.le_of_ble_eq_true rfl) (Nat.le_of_ble_eq_true rfl) (mV_of m2 12 cq_d170 (by decide) rfl (by decide) rfl _) rfl (mj_Ok.up (by omega) (mW_prepare (D := 0) m2 cq_d170 cq_d176 (by rw [(rfl : V2 176 = _)]; exact (by rw [e3 176 (by decide) (by decide)]; omega)))) (fun v g51 hq => ?_) (fun i g51 hq => ?_)
  rotate_left
  · obtain ⟨_, _, hq⟩ := hq; cases hq
  obtain ⟨_, m52, hq⟩ := hq
  cases hq
  have m52 := m52.to (V' := (jvu V2 170 (V2 176))) (by rw [(rfl : V2 176 = _)]) rfl
  refine mj_T.eq (pc2 := 69) (st2 := []) ?_ rfl rfl rfl rfl
  refine mj_T.pl rfl rfl rfl rfl ?_
  refine mj_T.pl (loc' := [some (.ref 172), some (.int (jn ((p : Nat) : Int))), some (.ref 164), some (.int (jn 1))]) rfl rfl rfl rfl ?_
  refine mR_itd (V := V) (P := V 174 ^ p) (K := V2 176) hp (hL p (Nat.le_refl p)) (by rw [e3 176 (by decide) (by decide)]; exact hk) (fun V4 h4 m4 f1 f3 => ?_) (p - 1) 1 (by omega) (by omega) _ _ m52 ((jvu_ne _ _ _ (by decide)).trans e1) (jvu_at _ _ _) (fun x x1 x2 x3 => (jvu_ne _ _ _ x3).trans (e3 x x1 x2))
  refine mj_T.pl rfl rfl rfl rfl ?_
  refine mT_get m4 16 cq_d172 (by decide) rfl rfl ?_
  refine mj_T.pl rfl rfl rfl rfl ?_
  refine mj_T.call rfl rfl (Nat.le_of_ble_eq_true rfl) (Nat.le_of_ble_eq_true rfl) (mV_of m4 18 cq_d176 (by decide) rfl (by decide) rfl _) rfl (mj_Ok.up (by omega) (mW_set (D := 0) m4 cq_d176 cq_d164 (by omega) (by rw [(rfl : V4 164 = _)]; exact (by rw [f1]; exact Nat.le_trans (jnl_mono (by rw [e3 176 (by decide) (by decide)]; exact Nat.le_refl _)) hk2)))) (fun v g91 hq => ?_) (fun i g91 hq => ?_)
  rotate_left
  · obtain ⟨_, _, hq⟩ := hq; cases hq
  obtain ⟨_, m92, hq⟩ := hq
  cases hq
  have m92 := m92.to (V' := (jvu V4 176 (V4 164))) (by rw [(rfl : V4 164 = _)]) rfl
  refine mj_T.eq (pc2 := 119) (st2 := []) ?_ rfl rfl rfl rfl
  refine mj_T.ret rfl rfl rfl ⟨_, _, m92, ?_, fun x x1 x2 x3 x4 => ?_, rfl⟩
  · rw [jvu_at, f1, e3 176 (by decide) (by decide)]
  · rw [jvu_ne _ _ _ x4]
    exact f3 x x1 x2 x3
end MRK
/-! The row of Sturm of the class: the derivative; the last of the row. -/
theorem cq_d180 : cK 180 = 13 := by decide +kernel
theorem cq_d210 : cK 210 = 13 := by decide +kernel
/-- the derivative -/
def drv (A : pz_P) : pz_P := fun e => A (e + 1) * ((e + 1 : Nat) : Int)
/-- so much of it -/
def drw (A : pz_P) (j : Nat) : pz_P := fun e => if e < j then drv A e else 0
theorem drw_0 (A : pz_P) : drw A 0 = fun _ => 0 := funext fun e => if_neg (by omega)
theorem drw_put (A : pz_P) (j : Nat) : jvu (drw A j) j (drv A j) = drw A (j + 1) := funext fun e => by
  simp only [jvu, drw]
  by_cases c : e = j
  · rw [if_pos c, if_pos (by omega), c]
  · rw [if_neg c]
    by_cases d : e < j
    · rw [if_pos d, if_pos (by omega)]
    · rw [if_neg d, if_neg (by omega)]
section MPU
variable {g h : mj_H} {n D : Nat} {V : Nat → Int} {X : Nat → Nat → Int}
theorem mR_der_loop {d : Nat} (hd : X 180 2 = (d : Int) - 1) (hd13 : d ≤ 13) (hA : sml (pcs V 180)) {Q : mj_R → Prop} (hend : ∀ h, jM g n (pfl V 210 (drw (pcs V 180) (d - 1)) 13) (xup X 210 2 (-1)) h → mj_T (D + 1) mj_m69 64 [some (.ref 172), some (.ref 210), some (.int (jn (((d - 1) + 1 : Nat) : Int)))] [] h Q) : ∀ k j, j + k = d - 1 → ∀ h, jM g n (pfl V 210 (drw (pcs V 180) j) 13) (xup X 210 2 (-1)) h → mj_T (D + 1) mj_m69 13 [some (.ref 172), some (.ref 210), some (.int (jn ((j + 1 : Nat) : Int)))] [] h Q
  | 0, j, hj, h, m => by
    have l173 : cL 173 = 14 := mK_r.2.2.2.1
    have p210 : cL (210 + 3) = 13 := (mK_r.2.2.2.2.2.1 1 (by decide)).2
    have p180 : cL (180 + 3) = 13 := (mK_r.2.2.2.2.2.1 0 (by decide)).2
    iterate 2 refine mj_T.pl rfl rfl rfl rfl ?_
    refine mT_get m 16 cq_d172 (by decide) rfl rfl ?_
    refine mj_T.pl rfl rfl rfl rfl ?_
    refine mT_aald m 5 cq_d173 (by decide) rfl rfl (by omega) ⟨by omega, by omega⟩ ?_
    refine mj_T.eq (st2 := [.ref 180, .int (jn (((j + 1) : Nat) : Int))]) ?_ rfl rfl rfl rfl
    refine mT_get (v := .int (jn ((d : Int) - 1))) m 13 cq_d180 (by decide) rfl (congrArg (fun z : Int => some (Value.int (jn z))) ((xup_ne X (-1) (Or.inl (by decide))).trans hd)) ?_
    refine mj_T.icmp (a := (((j + 1) : Nat) : Int)) (b := ((d : Int) - 1)) rfl ⟨by omega, by omega⟩ ⟨by omega, by omega⟩ (fun c1 => ?_) (fun c1 => ?_)
    · simp only [jc, Bool.not_eq_true', Bool.not_eq_false', decide_eq_true_eq, decide_eq_false_iff_not] at c1
      have hj : j = d - 1 := by omega
      subst hj
      exact hend _ m
    · exfalso
      simp only [jc, Bool.not_eq_true', Bool.not_eq_false', decide_eq_true_eq, decide_eq_false_iff_not] at c1
      omega
  | k + 1, j, hj, h, m => by
    have l173 : cL 173 = 14 := mK_r.2.2.2.1
    have p210 : cL (210 + 3) = 13 := (mK_r.2.2.2.2.2.1 1 (by decide)).2
    have p180 : cL (180 + 3) = 13 := (mK_r.2.2.2.2.2.1 0 (by decide)).2
    have hc : cL (210 + 4 + 2 * j + 1) = 30 - 2 * j := mK_z.2.2.2.2.2.2.1 1 (by decide) j (by show j < 13; omega)
    have hrd : pfl V 210 (drw (pcs V 180) j) 13 (180 + 4 + 2 * (j + 1)) = V (180 + 4 + 2 * (j + 1)) := pfl_off _ _ _ (by omega)
    have hs := hA (j + 1) (by omega)
    rw [pcs_in (by omega)] at hs
    have hj2 := jnl_two.mpr hs
    have hdv : drv (pcs V 180) j = V (180 + 4 + 2 * (j + 1)) * ((j + 1 : Nat) : Int) := by
      unfold drv
      rw [pcs_in (by omega)]
    have hj3 : jnl (drv (pcs V 180) j).natAbs ≤ 3 := by
      rw [hdv, jnl_le_lt, Int.natAbs_mul, Int.natAbs_natCast]
      have h12 : (V (180 + 4 + 2 * (j + 1))).natAbs * (j + 1) ≤ 999999999999999999 * 13 := Nat.mul_le_mul hs (by omega)
      exact Nat.lt_of_le_of_lt h12 (by decide +kernel)
    iterate 2 refine mj_T.pl rfl rfl rfl rfl ?_
    refine mT_get m 16 cq_d172 (by decide) rfl rfl ?_
    refine mj_T.pl rfl rfl rfl rfl ?_
    refine mT_aald m 5 cq_d173 (by decide) rfl rfl (by omega) ⟨by omega, by omega⟩ ?_
    refine mj_T.eq (st2 := [.ref 180, .int (jn (((j + 1) : Nat) : Int))]) ?_ rfl rfl rfl rfl
    refine mT_get (v := .int (jn ((d : Int) - 1))) m 13 cq_d180 (by decide) rfl (congrArg (fun z : Int => some (Value.int (jn z))) ((xup_ne X (-1) (Or.inl (by decide))).trans hd)) ?_
    refine mj_T.icmp (a := (((j + 1) : Nat) : Int)) (b := ((d : Int) - 1)) rfl ⟨by omega, by omega⟩ ⟨by omega, by omega⟩ (fun c1 => ?_) (fun c1 => ?_)
    · exfalso
      simp only [jc, Bool.not_eq_true', Bool.not_eq_false', decide_eq_true_eq, decide_eq_false_iff_not] at c1
      omega
    · simp only [jc, Bool.not_eq_true', Bool.not_eq_false', decide_eq_true_eq, decide_eq_false_iff_not] at c1
      iterate 3 refine mj_T.pl rfl rfl rfl rfl ?_
      refine mj_T.isub (a := (((j + 1) : Nat) : Int)) (b := 1) rfl ?_
      rw [show (((j + 1) : Nat) : Int) - 1 = (j : Int) by omega]
      refine mj_T.call rfl rfl (Nat.le_of_ble_eq_true rfl) (Nat.le_of_ble_eq_true rfl) (mV_of m 13 cq_d210 (by decide) rfl (by decide) rfl _) rfl (mj_Ok.up (by omega) (mP_at (D := 0) m cq_d210 (e := j) (by omega))) (fun v g2 hq => ?_) (fun i g2 hq => ?_)
      rotate_left
      · cases hq
      cases hq
      refine mj_T.eq (pc2 := 33) (st2 := [.ref (210 + 4 + 2 * j)]) ?_ rfl rfl rfl rfl
      refine mj_T.pl rfl rfl rfl rfl ?_
      refine mT_get m 16 cq_d172 (by decide) rfl rfl ?_
      refine mj_T.pl rfl rfl rfl rfl ?_
      refine mT_aald m 5 cq_d173 (by decide) rfl rfl (by omega) ⟨by omega, by omega⟩ ?_
      refine mj_T.eq (st2 := [.ref 180, .ref (210 + 4 + 2 * j)]) ?_ rfl rfl rfl rfl
      refine mj_T.pl rfl rfl rfl rfl ?_
      refine mj_T.call rfl rfl (Nat.le_of_ble_eq_true rfl) (Nat.le_of_ble_eq_true rfl) (mV_of m 13 cq_d180 (by decide) rfl (by decide) rfl _) rfl (mj_Ok.up (by omega) (mP_at (D := 0) m cq_d180 (e := (j + 1)) (by omega))) (fun v g3 hq => ?_) (fun i g3 hq => ?_)
      rotate_left
      · cases hq
      cases hq
      refine mj_T.eq (pc2 := 43) (st2 := [.ref (180 + 4 + 2 * (j + 1)), .ref (210 + 4 + 2 * j)]) ?_ rfl rfl rfl rfl
      refine mj_T.call rfl rfl (Nat.le_of_ble_eq_true rfl) (Nat.le_of_ble_eq_true rfl) (mV_of m 18 ((mK_p cq_d210).2.2.2 j (by omega)) (by decide) rfl (by decide) rfl _) rfl (mj_Ok.up (by omega) (mW_set (D := 0) m ((mK_p cq_d210).2.2.2 j (by omega)) ((mK_p cq_d180).2.2.2 _ (by omega)) (by omega) (by rw [hrd]; omega))) (fun v g4 hq => ?_) (fun i g4 hq => ?_)
      rotate_left
      · obtain ⟨_, _, hq⟩ := hq; cases hq
      obtain ⟨_, m5, hq⟩ := hq
      cases hq
      rw [hrd] at m5
      refine mj_T.eq (pc2 := 46) (st2 := []) ?_ rfl rfl rfl rfl
      iterate 3 refine mj_T.pl rfl rfl rfl rfl ?_
      refine mj_T.isub (a := (((j + 1) : Nat) : Int)) (b := 1) rfl ?_
      rw [show (((j + 1) : Nat) : Int) - 1 = (j : Int) by omega]
      refine mj_T.call rfl rfl (Nat.le_of_ble_eq_true rfl) (Nat.le_of_ble_eq_true rfl) (mV_of m5 13 cq_d210 (by decide) rfl (by decide) rfl _) rfl (mj_Ok.up (by omega) (mP_at (D := 0) m5 cq_d210 (e := j) (by omega))) (fun v g6 hq => ?_) (fun i g6 hq => ?_)
      rotate_left
      · cases hq
      cases hq
      refine mj_T.eq (pc2 := 53) (st2 := [.ref (210 + 4 + 2 * j)]) ?_ rfl rfl rfl rfl
      refine mj_T.pl rfl rfl rfl rfl ?_
      refine mj_T.i2l rfl ⟨by omega, by omega⟩ ?_
      refine mj_T.call rfl rfl (Nat.le_of_ble_eq_true rfl) (Nat.le_of_ble_eq_true rfl) (mV_of m5 18 ((mK_p cq_d210).2.2.2 j (by omega)) (by decide) rfl (by decide) rfl _) rfl (mj_Ok.up (by omega) (mW_scale (D := 0) (f := j + 1) m5 ((mK_p cq_d210).2.2.2 j (by omega)) (by omega) (by omega) (by rw [jvu_at, ← hdv]; omega))) (fun v g7 hq => ?_) (fun i g7 hq => ?_)
      rotate_left
      · obtain ⟨_, _, hq⟩ := hq; cases hq
      obtain ⟨_, m8, hq⟩ := hq
      cases hq
      rw [jvu_at, jvu_jvu, ← hdv, pfl_upd (by omega), drw_put] at m8
      refine mj_T.eq (pc2 := 58) (st2 := []) ?_ rfl rfl rfl rfl
      refine mj_T.iinc rfl rfl ?_
      rw [show (((j + 1) : Nat) : Int) + 1 = (((j + 1) + 1 : Nat) : Int) by omega]
      refine mj_T.eq (loc2 := [some (.ref 172), some (.ref 210), some (.int (jn ((((j + 1) + 1) : Nat) : Int)))]) ?_ rfl rfl rfl rfl
      refine mj_T.pl rfl rfl rfl rfl ?_
      exact mR_der_loop hd hd13 hA hend k (j + 1) (by omega) _ m8
theorem mR_der (m : jM g n V X h) {d : Nat} (hd : X 180 2 = (d : Int) - 1) (hd13 : d ≤ 13) (hA : sml (pcs V 180)) (hz : ∀ i, d ≤ i → pcs V 180 i = 0) : mj_Ok (D + 3) 69 [.ref 172] h (fun r => ∃ h2, jM g n (pfl V 210 (drv (pcs V 180)) 13) (xup X 210 2 ((fdg (drv (pcs V 180)) 13 : Int) - 1)) h2 ∧ r = (.inl none, h2)) := by
  have l173 : cL 173 = 14 := mK_r.2.2.2.1
  have p210 : cL (210 + 3) = 13 := (mK_r.2.2.2.2.2.1 1 (by decide)).2
  have hfull : drw (pcs V 180) (d - 1) = drv (pcs V 180) := funext fun e => by
    unfold drw
    split
    · rfl
    · show 0 = pcs V 180 (e + 1) * ((e + 1 : Nat) : Int)
      rw [hz (e + 1) (by omega), Int.zero_mul]
  have hcl0 : ∀ i, i < 13 → jnl (drw (pcs V 180) (d - 1) i).natAbs ≤ 1500 := fun i hi => by
    rw [hfull]
    show jnl (pcs V 180 (i + 1) * ((i + 1 : Nat) : Int)).natAbs ≤ 1500
    have q1 : (pcs V 180 (i + 1)).natAbs ≤ 999999999999999999 := by
      by_cases c : i + 1 < 13
      · exact hA _ c
      · rw [hz _ (by omega)]
        decide
    have q2 : jnl (pcs V 180 (i + 1) * ((i + 1 : Nat) : Int)).natAbs ≤ 3 := by
      rw [jnl_le_lt, Int.natAbs_mul, Int.natAbs_natCast]
      exact Nat.lt_of_le_of_lt (Nat.mul_le_mul q1 (show i + 1 ≤ 13 by omega)) (by decide +kernel)
    omega
  refine mj_Ok.of (M := mj_m69) rfl rfl rfl ?_
  refine mj_T.pl rfl rfl rfl rfl ?_
  refine mT_get m 16 cq_d172 (by decide) rfl rfl ?_
  refine mj_T.pl rfl rfl rfl rfl ?_
  refine mT_aald m 5 cq_d173 (by decide) rfl rfl (by omega) ⟨by omega, by omega⟩ ?_
  refine mj_T.eq (st2 := [.ref 210]) ?_ rfl rfl rfl rfl
  refine mj_T.pl (loc' := [some (.ref 172), some (.ref 210), none]) rfl rfl rfl rfl ?_
  refine mj_T.pl rfl rfl rfl rfl ?_
  refine mj_T.call rfl rfl (Nat.le_of_ble_eq_true rfl) (Nat.le_of_ble_eq_true rfl) (mV_of m 13 cq_d210 (by decide) rfl (by decide) rfl _) rfl (mj_Ok.up (by omega) (mP_clear (D := 0) m cq_d210)) (fun v g1 hq => ?_) (fun i g1 hq => ?_)
  rotate_left
  · obtain ⟨_, _, hq⟩ := hq; cases hq
  obtain ⟨_, m2, hq⟩ := hq
  cases hq
  rw [p210, ← drw_0 (pcs V 180)] at m2
  refine mj_T.eq (pc2 := 11) (st2 := []) ?_ rfl rfl rfl rfl
  refine mj_T.pl rfl rfl rfl rfl ?_
  refine mj_T.pl (loc' := [some (.ref 172), some (.ref 210), some (.int (jn 1))]) rfl rfl rfl rfl ?_
  refine mR_der_loop (D := D + 1) hd hd13 hA (fun h1 m1 => ?_) (d - 1) 0 (by omega) _ m2
  refine mj_T.pl rfl rfl rfl rfl ?_
  refine mj_T.call rfl rfl (Nat.le_of_ble_eq_true rfl) (Nat.le_of_ble_eq_true rfl) (mV_of m1 13 cq_d210 (by decide) rfl (by decide) rfl _) rfl (mj_Ok.up (by omega) (mP_settle (D := 0) m1 cq_d210 (pcl_pfl (Nat.le_of_eq p210) hcl0))) (fun v g61 hq => ?_) (fun i g61 hq => ?_)
  rotate_left
  · obtain ⟨_, _, hq⟩ := hq; cases hq
  obtain ⟨_, m62, hq⟩ := hq
  cases hq
  rw [p210, xup_xup, fdg_congr _ (fun i hi => pco_pfl i hi)] at m62
  refine mj_T.eq (pc2 := 68) (st2 := []) ?_ rfl rfl rfl rfl
  rw [hfull] at m62
  exact mj_T.ret rfl rfl rfl ⟨_, m62, rfl⟩
end MPU
/-! The row of Sturm of the class: all eliminations of one step. -/
theorem elw_ext {F F' B B' : pz_P} {db s : Nat} (hs : db + s < 13) (hF : ∀ e, e < 13 → F' e = F e) (hB : ∀ e, e ≤ db → B' e = B e) : ∀ e, e < 13 → elw F' B' db s e = elw F B db s e := fun e he => by
  unfold elw
  rw [hB db (Nat.le_refl db), hF e he, hF (db + s) hs]
  by_cases c : e ≤ db + s
  · rw [if_pos c, if_pos c]
    by_cases d : e < s
    · rw [if_pos d, if_pos d]
    · rw [if_neg d, if_neg d, hB (e - s) (by omega)]
  · rw [if_neg c, if_neg c]
section MMN
variable {g h : mj_H} {n D p q r : Nat} {V : Nat → Int} {X : Nat → Nat → Int}
theorem mR_el {gap dy al be : Nat} {F : pz_P} (kp : cK p = 13) (kq : cK q = 13) (kr : cK r = 13) (hq : q ≠ 80) (hdy : X q 2 = (dy : Int)) (hdq : dy < cL (q + 3)) (hg : dy + gap < 13) (hF : ∀ e, (F e).natAbs ≤ al) (hB : ∀ e, (pcs V q e).natAbs ≤ be) (hbe : 1 ≤ be) (hfit : al * (2 * be) ^ (gap + 1) < jB ^ 235) (hbc : be < jB ^ 1500) {Q : mj_R → Prop} (hend : ∀ (V1 : Nat → Int) (h1 : mj_H), jM g n V1 X h1 → (∀ e, e < 13 → V1 (80 + 4 + 2 * e) = er F (pcs V q) dy gap (gap + 1) e) → (∀ x, x ≠ 164 → x ≠ 166 → (x < 80 + 4 ∨ 80 + 4 + 2 * 13 ≤ x) → V1 x = V x) → mj_T (D + 3) mj_m71 54 [some (.ref 172), some (.ref p), some (.ref q), some (.ref r), some (.int (jn (gap : Int))), some (.int (jn ((((0 : Nat) : Int) : Int) - 1)))] [] h1 Q) : ∀ (u k : Nat), k + u = gap + 1 → ∀ (V1 : Nat → Int) (h1 : mj_H), jM g n V1 X h1 → (∀ e, e < 13 → V1 (80 + 4 + 2 * e) = er F (pcs V q) dy gap k e) → (∀ x, x ≠ 164 → x ≠ 166 → (x < 80 + 4 ∨ 80 + 4 + 2 * 13 ≤ x) → V1 x = V x) → mj_T (D + 3) mj_m71 26 [some (.ref 172), some (.ref p), some (.ref q), some (.ref r), some (.int (jn (gap : Int))), some (.int (jn ((u : Int) - 1)))] [] h1 Q
  | 0, k, hk, V1, h1, m, e1, e2 => by
    refine mj_T.pl rfl rfl rfl rfl ?_
    refine mj_T.if0 (a := (((0 : Nat) : Int) - 1)) rfl ⟨by omega, by omega⟩ (fun c1 => ?_) (fun c1 => ?_)
    · simp only [jc, Bool.not_eq_true', Bool.not_eq_false', decide_eq_true_eq, decide_eq_false_iff_not] at c1
      have hk : k = gap + 1 := by omega
      subst hk
      exact hend V1 _ m e1 e2
    · exfalso
      simp only [jc, Bool.not_eq_true', Bool.not_eq_false', decide_eq_true_eq, decide_eq_false_iff_not] at c1
      omega
  | u + 1, k, hk, V1, h1, m, e1, e2 => by
    have hfq := mP_far kq cq_d80 hq
    have h83 : cL (80 + 3) = 13 := mK_z.2.2.1
    have hpq0 := mP_pos kq
    rw [h83] at hfq
    rw [show ((u + 1 : Nat) : Int) - 1 = (u : Int) by omega]
    have hF1 : ∀ e, e < 13 → (V1 (80 + 4 + 2 * e)).natAbs ≤ al * (2 * be) ^ k := fun e he => by
      rw [e1 e he]
      exact er_abs hF hB hbe k e
    have hpq : ∀ e, e ≤ dy → pco V1 q e = pcs V q e := fun e he => by
      rw [pcs_in (by omega)]
      exact e2 _ (by omega) (by omega) (by omega)
    have hB1 : ∀ e, e < cL (q + 3) → (V1 (q + 4 + 2 * e)).natAbs ≤ be := fun e he => by
      rw [e2 _ (by omega) (by omega) (by omega), ← pcs_in (V := V) he]
      exact hB e
    have hft : 2 * (al * (2 * be) ^ k * be) < jB ^ 236 := by
      have h1 : 2 * (al * (2 * be) ^ k * be) = al * (2 * be) ^ (k + 1) := by
        rw [Nat.pow_succ]
        ac_rfl
      have h2 : al * (2 * be) ^ (k + 1) ≤ al * (2 * be) ^ (gap + 1) := Nat.mul_le_mul_left _ (Nat.pow_le_pow_right (by omega) (by omega))
      have h3 : jB ^ 235 ≤ jB ^ 236 := Nat.pow_le_pow_right (by decide) (by decide)
      omega
    have hfc : al * (2 * be) ^ k < jB ^ 236 := by
      have h4 := Nat.le_mul_of_pos_right (al * (2 * be) ^ k) (show 0 < be by omega)
      omega
    refine mj_T.pl rfl rfl rfl rfl ?_
    refine mj_T.if0 (a := ((u : Nat) : Int)) rfl ⟨by omega, by omega⟩ (fun c1 => ?_) (fun c1 => ?_)
    · exfalso
      simp only [jc, Bool.not_eq_true', Bool.not_eq_false', decide_eq_true_eq, decide_eq_false_iff_not] at c1
      omega
    · simp only [jc, Bool.not_eq_true', Bool.not_eq_false', decide_eq_true_eq, decide_eq_false_iff_not] at c1
      refine mj_T.pl rfl rfl rfl rfl ?_
      refine mT_get m 16 cq_d172 (by decide) rfl rfl ?_
      refine mj_T.pl rfl rfl rfl rfl ?_
      refine mT_get m 16 cq_d172 (by decide) rfl rfl ?_
      refine mT_get m 11 cq_d19 (by decide) rfl rfl ?_
      iterate 2 refine mj_T.pl rfl rfl rfl rfl ?_
      refine mj_T.call rfl rfl (Nat.le_of_ble_eq_true rfl) (Nat.le_of_ble_eq_true rfl) (mV_of m 11 cq_d19 (by decide) rfl (by decide) rfl _) rfl (mj_Ok.up (by omega) (mD_elim (D := 0) (db := dy) (s := u) (al := al * (2 * be) ^ k) (be := be) m kq hq hdy hdq (by omega) hF1 hB1 hft (jB_15 (m := 236) hfc (by decide)) hbc)) (fun v g2 hq => ?_) (fun i g2 hq => ?_)
      rotate_left
      · obtain ⟨_, _, _, _, hq⟩ := hq; cases hq
      obtain ⟨z1, z2, _, m3, hq⟩ := hq
      cases hq
      refine mj_T.eq (pc2 := 48) (st2 := []) ?_ rfl rfl rfl rfl
      refine mj_T.iinc rfl rfl ?_
      refine mj_T.eq (loc2 := [some (.ref 172), some (.ref p), some (.ref q), some (.ref r), some (.int (jn ((gap : Nat) : Int))), some (.int (jn (((u : Nat) : Int) + (-1))))]) ?_ rfl rfl rfl rfl
      refine mj_T.pl rfl rfl rfl rfl ?_
      rw [show (((u : Nat) : Int) + (-1)) = (u : Int) - 1 by omega]
      refine mR_el kp kq kr hq hdy hdq hg hF hB hbe hfit hbc hend u (k + 1) (by omega) _ _ m3 (fun e he => ?_) (fun x x1 x2 x3 => ?_)
      · rw [pfl_at _ _ _ he]
        show _ = elw (er F (pcs V q) dy gap k) (pcs V q) dy (gap - k) e
        rw [show gap - k = u by omega]
        exact elw_ext (by omega) e1 hpq e he
      · rw [lk_off (by omega) x1 x2]
        exact e2 x x1 x2 x3
end MMN
/-! The row of Sturm of the class: the next of the row. -/
section MNX
variable {g h : mj_H} {n D p q r : Nat} {V : Nat → Int} {X : Nat → Nat → Int}
theorem mR_tail {gap dy : Nat} {w : Nat → Int} {V5 : Nat → Int} {X5 : Nat → Nat → Int} {hh5 : mj_H} {l5 : Option Value} (m : jM g n V5 X5 hh5) (kp : cK p = 13) (kq : cK q = 13) (kr : cK r = 13) (hq : 180 ≤ q) (hr : 180 ≤ r) (hqr : q ≠ r) (hdy5 : X5 q 2 = (dy : Int)) (hdq : dy < cL (q + 3)) (hg : dy + gap < 13) (h176 : jnl (V 176).natAbs ≤ 60) (hlq : ∀ i, i ≤ gap → jnl ((((pcs V q dy).natAbs : Nat) : Int) ^ i).natAbs ≤ 239) (hl60 : jnl (pcs V q dy).natAbs ≤ 60) (hk60 : jnl (itd ((((pcs V q dy).natAbs : Nat) : Int) ^ gap) (V 176) (gap - 1)).natAbs ≤ 60) (hw : (∀ e, e < cL (r + 3) → V5 (r + 4 + 2 * e) = w e)) (h5 : (∀ x, (x < 80 + 4 ∨ 80 + 4 + 2 * 13 ≤ x) → x ≠ 164 → x ≠ 166 → x ≠ 170 → (x < r + 4 ∨ r + 4 + 2 * cL (r + 3) ≤ x) → V5 x = V x)) : mj_T (D + 4) mj_m71 135 [some (.ref 172), some (.ref p), some (.ref q), some (.ref r), some (.int (jn (gap : Int))), l5] [] hh5 (fun z => ∃ V2 h2, jM g n V2 X5 h2 ∧ (∀ e, e < cL (r + 3) → V2 (r + 4 + 2 * e) = w e) ∧ V2 174 = (((pcs V q dy).natAbs : Nat) : Int) ∧ V2 176 = nxk (pcs V q) (dy + gap) dy (V 176) ∧ (∀ x, (x < 80 + 4 ∨ 80 + 4 + 2 * 13 ≤ x) → x ≠ 164 → x ≠ 166 → x ≠ 170 → x ≠ 174 → x ≠ 176 → (x < r + 4 ∨ r + 4 + 2 * cL (r + 3) ≤ x) → V2 x = V x) ∧ z = (.inl none, h2)) := by
  have c6 : cL (174 + 1) = 60 := mK_z.2.2.2.2.2.2.2.2.2.2.2.1
  have c7 : cL (176 + 1) = 60 := mK_z.2.2.2.2.2.2.2.2.2.2.2.2.1
  have hfq := mP_far kq kr hqr
  have hpq := mP_pos kq
  have hpr := mP_pos kr
  have hq5 : V5 (q + 4 + 2 * dy) = pcs V q dy := by
    rw [pcs_in hdq]
    exact h5 _ (by omega) (by omega) (by omega) (by omega) (by omega)
  have e176 : V5 176 = V 176 := h5 176 (by omega) (by decide) (by decide) (by decide) (by omega)
  refine mj_T.pl rfl rfl rfl rfl ?_
  refine mT_get m 16 cq_d172 (by decide) rfl rfl ?_
  refine mj_T.pl rfl rfl rfl rfl ?_
  refine mj_T.call rfl rfl (Nat.le_of_ble_eq_true rfl) (Nat.le_of_ble_eq_true rfl) (mV_of m 13 kq (by decide) rfl (by decide) rfl _) rfl (mj_Ok.up (by omega) (mP_lead (D := 0) m kq hdy5 hdq)) (fun v g1 hq => ?_) (fun i g1 hq => ?_)
  rotate_left
  · cases hq
  cases hq
  refine mj_T.eq (pc2 := 143) (st2 := [.ref (q + 4 + 2 * dy), .ref 174]) ?_ rfl rfl rfl rfl
  refine mj_T.call rfl rfl (Nat.le_of_ble_eq_true rfl) (Nat.le_of_ble_eq_true rfl) (mV_of m 18 cq_d174 (by decide) rfl (by decide) rfl _) rfl (mj_Ok.up (by omega) (mW_setSizeOf (D := 0) m cq_d174 ((mK_p kq).2.2.2 dy hdq) (by omega) (by rw [hq5]; omega))) (fun v g2 hq => ?_) (fun i g2 hq => ?_)
  rotate_left
  · obtain ⟨_, _, hq⟩ := hq; cases hq
  obtain ⟨_, m3, hq⟩ := hq
  cases hq
  rw [hq5] at m3
  refine mj_T.eq (pc2 := 146) (st2 := []) ?_ rfl rfl rfl rfl
  refine mj_T.pl rfl rfl rfl rfl ?_
  refine mj_T.if0 (a := ((gap : Nat) : Int)) rfl ⟨by omega, by omega⟩ (fun c4 => ?_) (fun c4 => ?_)
  · simp only [jc, Bool.not_eq_true', Bool.not_eq_false', decide_eq_true_eq, decide_eq_false_iff_not] at c4
    refine mj_T.ret rfl rfl rfl ⟨_, _, m3, fun e he => ?_, jvu_at _ _ _, ?_, fun x x1 x2 x3 x4 x5 x6 x7 => ?_, rfl⟩
    · rw [jvu_ne _ _ _ (by omega)]
      exact hw e he
    · rw [jvu_ne _ _ _ (by decide), e176]
      unfold nxk
      rw [if_pos (by omega)]
    · rw [jvu_ne _ _ _ x5]
      exact h5 x x1 x2 x3 x4 x7
  · simp only [jc, Bool.not_eq_true', Bool.not_eq_false', decide_eq_true_eq, decide_eq_false_iff_not] at c4
    iterate 2 refine mj_T.pl rfl rfl rfl rfl ?_
    refine mj_T.call rfl rfl (Nat.le_of_ble_eq_true rfl) (Nat.le_of_ble_eq_true rfl) (mV_of m3 16 cq_d172 (by decide) rfl (by decide) rfl _) rfl (mj_Ok.up (by omega) (mR_renew (D := D) (p := gap) m3 (by omega) (by omega) (by rw [jvu_at]; exact hlq) (by rw [jvu_ne _ _ _ (by decide), e176]; exact h176) (by rw [jvu_at, Int.natAbs_natCast]; omega) (by rw [jvu_at, jvu_ne _ _ _ (by decide), e176, c7]; exact hk60))) (fun v g5 hq => ?_) (fun i g5 hq => ?_)
    rotate_left
    · obtain ⟨_, _, _, _, _, hq⟩ := hq; cases hq
    obtain ⟨V6, _, m6, f1, f2, hq⟩ := hq
    cases hq
    refine mj_T.eq (pc2 := 157) (st2 := []) ?_ rfl rfl rfl rfl
    refine mj_T.ret rfl rfl rfl ⟨_, _, m6, fun e he => ?_, ?_, ?_, fun x x1 x2 x3 x4 x5 x6 x7 => ?_, rfl⟩
    · rw [f2 _ (by omega) (by omega) (by omega) (by omega), jvu_ne _ _ _ (by omega)]
      exact hw e he
    · rw [f2 _ (by decide) (by decide) (by decide) (by decide), jvu_at]
    · rw [f1, jvu_at, jvu_ne _ _ _ (by decide), e176]
      unfold nxk
      rw [if_neg (by omega), show dy + gap - dy = gap by omega]
    · rw [f2 x x2 x3 x4 x6, jvu_ne _ _ _ x5]
      exact h5 x x1 x2 x3 x4 x7
end MNX
/-! The row of Sturm of the class: makeNext as a whole. -/
theorem pls_4 : (pls.all fun p => decide (p < 180) || decide (cL (p + 3) ≤ 13)) = true := by decide +kernel
theorem mP_13 {p : Nat} (kp : cK p = 13) (h : 180 ≤ p) : cL (p + 3) ≤ 13 := by
  have h1 := jall pls_1 (cK_in (a := p) (by omega))
  simp only [kp, decide_true, Bool.not_true, Bool.false_or, decide_eq_true_eq] at h1
  have h3 := List.all_eq_true.mp pls_4 p h1
  simp only [Bool.or_eq_true, decide_eq_true_eq] at h3
  omega
theorem rdv_eq (F B : pz_P) (dy gap : Nat) (la ps : Int) (e : Nat) : rdv F B (dy + gap) dy la ps e = itd (itd (er F B dy gap (gap + 1) e) la 1) ps gap := by
  unfold rdv
  rw [Nat.add_sub_cancel_left]
section MNY
variable {g h : mj_H} {n D p q r : Nat} {V : Nat → Int} {X : Nat → Nat → Int}
theorem xup_oth {X : Nat → Nat → Int} {a i b : Nat} {v : Int} (h : b ≠ a) : xup X a i v b = X b := funext fun j => xup_ne _ _ (Or.inl h)
theorem jsg_pp {v : Int} (h : 0 < jsg v) : 0 < v := by
  unfold jsg at h
  split at h
  · omega
  · split at h <;> omega
theorem mj_T.imp {D pc : Nat} {M : mj_M} {loc : mj_L} {st : List Value} {h : mj_H} {Q Q' : mj_R → Prop} (k : mj_T D M pc loc st h Q) (hQ : ∀ r, Q r → Q' r) : mj_T D M pc loc st h Q' := by
  obtain ⟨F, r, h1, h2⟩ := k
  exact ⟨F, r, h1, hQ r h2⟩
theorem mR_next (m : jM g n V X h) {gap dy al be : Nat} (kp : cK p = 13) (kq : cK q = 13) (kr : cK r = 13) (hp : 180 ≤ p) (hq : 180 ≤ q) (hr : 180 ≤ r) (hqr : q ≠ r) (hdx : X p 2 = ((dy + gap : Nat) : Int)) (hdy : X q 2 = (dy : Int)) (hdq : dy < cL (q + 3)) (hg : dy + gap < 13) (hpz : V (p + 1) = 0) (h81 : V 81 = 0) (hF : ∀ e, (pcs V p e).natAbs ≤ al) (hB : ∀ e, (pcs V q e).natAbs ≤ be) (hbe : 1 ≤ be) (hfit : al * (2 * be) ^ (gap + 1) < jB ^ 235) (hbc : be < jB ^ 1500) (h174 : jnl (V 174).natAbs ≤ 60) (h176 : jnl (V 176).natAbs ≤ 60) (hcap : ∀ i, i < cL (r + 3) → jnl ((rdv (pcs V p) (pcs V q) (dy + gap) dy (V 174) (V 176)) i).natAbs ≤ cL (r + 4 + 2 * i + 1)) (hlq : ∀ i, i ≤ gap → jnl ((((pcs V q dy).natAbs : Nat) : Int) ^ i).natAbs ≤ 239) (hl60 : jnl (pcs V q dy).natAbs ≤ 60) (hk60 : jnl (itd ((((pcs V q dy).natAbs : Nat) : Int) ^ gap) (V 176) (gap - 1)).natAbs ≤ 60) : mj_Ok (D + 5) 71 [.ref 172, .ref p, .ref q, .ref r] h (fun z => ∃ V2 X2 h2, jM g n V2 X2 h2 ∧ ((∀ e, e < cL (r + 3) → V2 (r + 4 + 2 * e) = (rdv (pcs V p) (pcs V q) (dy + gap) dy (V 174) (V 176)) e) ∨ (∀ e, e < cL (r + 3) → V2 (r + 4 + 2 * e) = -(rdv (pcs V p) (pcs V q) (dy + gap) dy (V 174) (V 176)) e)) ∧ ((0 < pcs V q dy ∨ gap % 2 ≠ 0) → ∀ e, e < cL (r + 3) → V2 (r + 4 + 2 * e) = -(rdv (pcs V p) (pcs V q) (dy + gap) dy (V 174) (V 176)) e) ∧ (¬ (0 < pcs V q dy ∨ gap % 2 ≠ 0) → ∀ e, e < cL (r + 3) → V2 (r + 4 + 2 * e) = (rdv (pcs V p) (pcs V q) (dy + gap) dy (V 174) (V 176)) e) ∧ X2 r 2 = (fdg (rdv (pcs V p) (pcs V q) (dy + gap) dy (V 174) (V 176)) (cL (r + 3)) : Int) - 1 ∧ V2 174 = (((pcs V q dy).natAbs : Nat) : Int) ∧ V2 176 = nxk (pcs V q) (dy + gap) dy (V 176) ∧ (∀ x, (x < 80 + 4 ∨ 80 + 4 + 2 * 13 ≤ x) → x ≠ 164 → x ≠ 166 → x ≠ 170 → x ≠ 174 → x ≠ 176 → (x < r + 4 ∨ r + 4 + 2 * cL (r + 3) ≤ x) → V2 x = V x) ∧ (∀ a, a ≠ 80 → a ≠ r → X2 a = X a) ∧ (-1 ≤ X2 80 2 ∧ X2 80 2 < 13) ∧ z = (.inl none, h2)) := by
  have h83 : cL (80 + 3) = 13 := mK_z.2.2.1
  have hr13 := mP_13 kr hr
  have hpr := mP_pos kr
  have hpq := mP_pos kq
  have hal : al < jB ^ 236 := by
    have h1 : al ≤ al * (2 * be) ^ (gap + 1) := Nat.le_mul_of_pos_right _ (Nat.pow_pos (by omega))
    have h2 : jB ^ 235 ≤ jB ^ 236 := Nat.pow_le_pow_right (by decide) (by decide)
    omega
  refine mj_Ok.of (M := mj_m71) rfl rfl rfl ?_
  refine mj_T.pl rfl rfl rfl rfl ?_
  refine mT_get (v := .int (jn ((dy + gap : Nat) : Int))) m 13 kp (by decide) rfl (congrArg (fun z : Int => some (Value.int (jn z))) (hdx)) ?_
  refine mj_T.pl rfl rfl rfl rfl ?_
  refine mT_get (v := .int (jn ((dy : Nat) : Int))) m 13 kq (by decide) rfl (congrArg (fun z : Int => some (Value.int (jn z))) (hdy)) ?_
  refine mj_T.isub (a := ((dy + gap : Nat) : Int)) (b := ((dy : Nat) : Int)) rfl ?_
  refine mj_T.pl (loc' := [some (.ref 172), some (.ref p), some (.ref q), some (.ref r), some (.int (jn (((dy + gap : Nat) : Int) - ((dy : Nat) : Int)))), none]) rfl rfl rfl rfl ?_
  rw [show ((dy + gap : Nat) : Int) - ((dy : Nat) : Int) = (gap : Int) by omega]
  refine mj_T.pl rfl rfl rfl rfl ?_
  refine mT_get m 16 cq_d172 (by decide) rfl rfl ?_
  refine mT_get m 11 cq_d19 (by decide) rfl rfl ?_
  refine mj_T.pl rfl rfl rfl rfl ?_
  refine mj_T.call rfl rfl (Nat.le_of_ble_eq_true rfl) (Nat.le_of_ble_eq_true rfl) (mV_of m 13 cq_d80 (by decide) rfl (by decide) rfl _) rfl (mj_Ok.up (by omega) (mP_set (D := 0) m cq_d80 kp (by omega) hpz (fun i hi => by rw [(mK_z.2.2.2.2.1 i (by omega)).2.2]; exact jnl_B (hF i) hal))) (fun v g1 hq => ?_) (fun i g1 hq => ?_)
  rotate_left
  · obtain ⟨_, _, hq⟩ := hq; cases hq
  obtain ⟨_, m2, hq⟩ := hq
  cases hq
  rw [h83] at m2
  refine mj_T.eq (pc2 := 22) (st2 := []) ?_ rfl rfl rfl rfl
  refine mj_T.pl rfl rfl rfl rfl ?_
  refine mj_T.pl (loc' := [some (.ref 172), some (.ref p), some (.ref q), some (.ref r), some (.int (jn ((gap : Nat) : Int))), some (.int (jn ((gap : Nat) : Int)))]) rfl rfl rfl rfl ?_
  refine mj_T.eq (loc2 := [some (.ref 172), some (.ref p), some (.ref q), some (.ref r), some (.int (jn (gap : Int))), some (.int (jn (((gap + 1 : Nat) : Int) - 1)))]) ?_ rfl (by rw [show ((gap + 1 : Nat) : Int) - 1 = (gap : Int) by omega]) rfl rfl
  refine mR_el (D := D + 1) (V := V) (F := pcs V p) kp kq kr (by omega) ((congrFun (xup_oth (by omega)) 2).trans hdy) hdq hg hF hB hbe hfit hbc (fun V1 h1 m1 e1 e2 => ?_) (gap + 1) 0 (by omega) _ _ m2 (fun e he => pfl_at _ _ _ he) (fun x x1 x2 x3 => pfl_off _ _ _ x3)
  refine mj_T.pl rfl rfl rfl rfl ?_
  refine mT_get m1 16 cq_d172 (by decide) rfl rfl ?_
  refine mT_get m1 11 cq_d19 (by decide) rfl rfl ?_
  refine mj_T.call rfl rfl (Nat.le_of_ble_eq_true rfl) (Nat.le_of_ble_eq_true rfl) (mV_of m1 13 cq_d80 (by decide) rfl (by decide) rfl _) rfl (mj_Ok.up (by omega) (mP_settle (D := 0) m1 cq_d80 (fun e he => by rw [h83] at he; rw [e1 e he]; exact Nat.le_trans (jnl_B (er_abs hF hB hbe (gap + 1) e) hfit) (by decide)))) (fun v g61 hq => ?_) (fun i g61 hq => ?_)
  rotate_left
  · obtain ⟨_, _, hq⟩ := hq; cases hq
  obtain ⟨_, m62, hq⟩ := hq
  cases hq
  rw [h83, xup_xup] at m62
  refine mj_T.eq (pc2 := 64) (st2 := []) ?_ rfl rfl rfl rfl
  refine mj_T.pl rfl rfl rfl rfl ?_
  refine mT_get m62 16 cq_d172 (by decide) rfl rfl ?_
  refine mj_T.pl rfl rfl rfl rfl ?_
  refine mT_get m62 16 cq_d172 (by decide) rfl rfl ?_
  refine mT_get m62 11 cq_d19 (by decide) rfl rfl ?_
  refine mj_T.pl rfl rfl rfl rfl ?_
  refine mT_get m62 16 cq_d172 (by decide) rfl rfl ?_
  refine mj_T.pl rfl rfl rfl rfl ?_
  have hE : ∀ e, e < 13 → jnl (V1 (80 + 4 + 2 * e)).natAbs ≤ 235 := fun e he => by
    rw [e1 e he]
    exact jnl_B (er_abs hF hB hbe (gap + 1) e) hfit
  have hdl := fdg_le (pco V1 80) 13
  have o174 : V1 174 = V 174 := e2 174 (by decide) (by decide) (by omega)
  have o176 : V1 176 = V 176 := e2 176 (by decide) (by decide) (by omega)
  refine mj_T.call rfl rfl (Nat.le_of_ble_eq_true rfl) (Nat.le_of_ble_eq_true rfl) (mV_of m62 11 cq_d19 (by decide) rfl (by decide) rfl _) rfl (mj_Ok.up (by omega) (mD_divParts (D := 0) (t := 1) (dp := fdg (pco V1 80) 13) m62 cq_d80 cq_d174 (by decide) (by rw [h83]; exact hdl) (xup_at _ _ _ _) (fun e h1 h2 => fdg_zero (pco V1 80) 13 e h1 (by rw [h83] at h2; exact h2)) (fun e he => by rw [h83] at he; rw [(mK_z.2.2.2.2.1 e he).2.2]; exact ⟨by have := hE e he; omega, by have := hE e he; omega⟩) (by rw [o174]; exact h174))) (fun v g63 hq => ?_) (fun i g63 hq => ?_)
  rotate_left
  · obtain ⟨_, _, _, _, hq⟩ := hq; cases hq
  obtain ⟨V2, _, m64, I2, hq⟩ := hq
  cases hq
  rw [h83, o174] at I2
  refine mj_T.eq (pc2 := 83) (st2 := []) ?_ rfl rfl rfl rfl
  refine mj_T.pl rfl rfl rfl rfl ?_
  refine mT_get m64 16 cq_d172 (by decide) rfl rfl ?_
  refine mj_T.pl rfl rfl rfl rfl ?_
  refine mT_get m64 16 cq_d172 (by decide) rfl rfl ?_
  refine mT_get m64 11 cq_d19 (by decide) rfl rfl ?_
  refine mj_T.pl rfl rfl rfl rfl ?_
  refine mT_get m64 16 cq_d172 (by decide) rfl rfl ?_
  refine mj_T.pl rfl rfl rfl rfl ?_
  have hV2 : ∀ e, e < 13 → V2 (80 + 4 + 2 * e) = itd (V1 (80 + 4 + 2 * e)) (V 174) 1 := fun e he => by
    rw [I2.1 e he, if_pos he]
  have p176 : V2 176 = V 176 := (I2.2.2 176 (by decide) (by decide) (by omega)).trans o176
  have hE2 : ∀ e, e < 13 → jnl (V2 (80 + 4 + 2 * e)).natAbs ≤ 235 := fun e he => by
    rw [hV2 e he]
    exact Nat.le_trans (jnl_mono (itd_le _ _ _)) (hE e he)
  refine mj_T.call rfl rfl (Nat.le_of_ble_eq_true rfl) (Nat.le_of_ble_eq_true rfl) (mV_of m64 11 cq_d19 (by decide) rfl (by decide) rfl _) rfl (mj_Ok.up (by omega) (mD_divParts (D := 0) (t := gap) (dp := fdg (pco V1 80) 13) m64 cq_d80 cq_d176 (by omega) (by rw [h83]; exact hdl) (xup_at _ _ _ _) (fun e h1 h2 => by rw [h83] at h2; rw [hV2 e h2, show V1 (80 + 4 + 2 * e) = 0 from fdg_zero (pco V1 80) 13 e h1 h2]; exact itd_zero _ 1) (fun e he => by rw [h83] at he; rw [(mK_z.2.2.2.2.1 e he).2.2]; exact ⟨by have := hE2 e he; omega, by have := hE2 e he; omega⟩) (by rw [p176]; exact h176))) (fun v g65 hq => ?_) (fun i g65 hq => ?_)
  rotate_left
  · obtain ⟨_, _, _, _, hq⟩ := hq; cases hq
  obtain ⟨V3, _, m66, I3, hq⟩ := hq
  cases hq
  rw [h83, p176] at I3
  refine mj_T.eq (pc2 := 103) (st2 := []) ?_ rfl rfl rfl rfl
  iterate 2 refine mj_T.pl rfl rfl rfl rfl ?_
  refine mT_get m66 16 cq_d172 (by decide) rfl rfl ?_
  refine mT_get m66 11 cq_d19 (by decide) rfl rfl ?_
  have hw3 : ∀ e, e < cL (r + 3) → pcs V3 80 e = (rdv (pcs V p) (pcs V q) (dy + gap) dy (V 174) (V 176)) e := fun e he => by
    rw [pcs_in (by omega), I3.1 e (by omega), if_pos (by omega), hV2 e (by omega), e1 e (by omega), rdv_eq]
  have off3 : ∀ x, (x < 80 + 4 ∨ 80 + 4 + 2 * 13 ≤ x) → x ≠ 164 → x ≠ 166 → x ≠ 170 → V3 x = V x := fun x x1 x2 x3 x4 => by
    rw [I3.2.2 x x2 x4 (by omega), I2.2.2 x x2 x4 (by omega), e2 x x2 x3 (by omega)]
  refine mj_T.call rfl rfl (Nat.le_of_ble_eq_true rfl) (Nat.le_of_ble_eq_true rfl) (mV_of m66 13 kr (by decide) rfl (by decide) rfl _) rfl (mj_Ok.up (by omega) (mP_set (D := 0) m66 kr cq_d80 (by omega) ((off3 81 (by omega) (by decide) (by decide) (by decide)).trans h81) (fun i hi => by rw [hw3 i hi]; exact hcap i hi))) (fun v g67 hq => ?_) (fun i g67 hq => ?_)
  rotate_left
  · obtain ⟨_, _, hq⟩ := hq; cases hq
  obtain ⟨_, m68, hq⟩ := hq
  cases hq
  refine mj_T.eq (pc2 := 114) (st2 := []) ?_ rfl rfl rfl rfl
  refine mj_T.pl rfl rfl rfl rfl ?_
  have hfq := mP_far kq kr hqr
  have hdy5 : (xup (xup X 80 2 ((fdg (pco V1 80) 13 : Int) - 1)) r 2 ((fdg (pcs V3 80) (cL (r + 3)) : Int) - 1)) q 2 = (dy : Int) := (congrFun (xup_oth (by omega)) 2).trans ((congrFun (xup_oth (by omega)) 2).trans hdy)
  have hv4 : (pfl V3 r (pcs V3 80) (cL (r + 3))) (q + 4 + 2 * dy) = pcs V q dy := by
    rw [pfl_off _ _ _ (by omega), off3 _ (by omega) (by omega) (by omega) (by omega), pcs_in hdq]
  have hX4 : (xup (xup X 80 2 ((fdg (pco V1 80) 13 : Int) - 1)) r 2 ((fdg (pcs V3 80) (cL (r + 3)) : Int) - 1)) r 2 = (fdg (rdv (pcs V p) (pcs V q) (dy + gap) dy (V 174) (V 176)) (cL (r + 3)) : Int) - 1 := by
    rw [xup_at, fdg_congr _ (fun i hi => hw3 i hi)]
  have h80r : -1 ≤ (xup (xup X 80 2 ((fdg (pco V1 80) 13 : Int) - 1)) r 2 ((fdg (pcs V3 80) (cL (r + 3)) : Int) - 1)) 80 2 ∧ (xup (xup X 80 2 ((fdg (pco V1 80) 13 : Int) - 1)) r 2 ((fdg (pcs V3 80) (cL (r + 3)) : Int) - 1)) 80 2 < 13 := by
    rw [xup_ne _ _ (Or.inl (by omega)), xup_at]
    omega
  have hXo : ∀ a, a ≠ 80 → a ≠ r → (xup (xup X 80 2 ((fdg (pco V1 80) 13 : Int) - 1)) r 2 ((fdg (pcs V3 80) (cL (r + 3)) : Int) - 1)) a = X a := fun a a1 a2 => (xup_oth a2).trans (xup_oth a1)
  refine mj_T.call rfl rfl (Nat.le_of_ble_eq_true rfl) (Nat.le_of_ble_eq_true rfl) (mV_of m68 13 kq (by decide) rfl (by decide) rfl _) rfl (mj_Ok.up (by omega) (mP_lead (D := 0) m68 kq hdy5 hdq)) (fun v g69 hq => ?_) (fun i g69 hq => ?_)
  rotate_left
  · cases hq
  cases hq
  refine mj_T.eq (pc2 := 118) (st2 := [.ref (q + 4 + 2 * dy)]) ?_ rfl rfl rfl rfl
  refine mT_sg m68 ((mK_p kq).2.2.2 dy hdq) rfl ?_ (hcl := by rw [hv4]; omega)
  refine mj_T.if0 (a := (jsg ((pfl V3 r (pcs V3 80) (cL (r + 3))) (q + 4 + 2 * dy)))) rfl (jsg_r _) (fun c70 => ?_) (fun c70 => ?_)
  · simp only [jc, Bool.not_eq_true', Bool.not_eq_false', decide_eq_true_eq, decide_eq_false_iff_not] at c70
    rw [hv4] at c70
    have hpos : 0 < pcs V q dy := jsg_pp c70
    refine mj_T.pl rfl rfl rfl rfl ?_
    refine mj_T.call rfl rfl (Nat.le_of_ble_eq_true rfl) (Nat.le_of_ble_eq_true rfl) (mV_of m68 13 kr (by decide) rfl (by decide) rfl _) rfl (mj_Ok.up (by omega) (mP_negate (D := 0) m68 kr (pcl_pfl (Nat.le_refl _) (fun e he => by have q1 := hcap e he; have q2 := mK_w (Or.inl ((mK_p kr).2.2.2 e he)); rw [hw3 e he]; omega)))) (fun v g71 hq => ?_) (fun i g71 hq => ?_)
    rotate_left
    · obtain ⟨_, _, hq⟩ := hq; cases hq
    obtain ⟨_, m72, hq⟩ := hq
    cases hq
    rw [pfl_pfl] at m72
    refine mj_T.eq (pc2 := 135) (st2 := []) ?_ rfl rfl rfl rfl
    have hw5 : ∀ e, e < cL (r + 3) → (pfl V3 r (fun e => -(pfl V3 r (pcs V3 80) (cL (r + 3))) (r + 4 + 2 * e)) (cL (r + 3))) (r + 4 + 2 * e) = -(rdv (pcs V p) (pcs V q) (dy + gap) dy (V 174) (V 176)) e := fun e he => by
      rw [pfl_at _ _ _ he, pfl_at _ _ _ he]
      rw [hw3 e he]
    refine mj_T.imp (mR_tail (D := D) (V := V) m72 kp kq kr hq hr hqr hdy5 hdq hg h176 hlq hl60 hk60 hw5 (fun x x1 x2 x3 x4 x5 => ?_)) (fun z hz => ?_)
    · rw [pfl_off _ _ _ x5]
      exact off3 x x1 x2 x3 x4
    · obtain ⟨V6, h6, m6, g1, g2, g3, g4, hz⟩ := hz
      exact ⟨V6, _, h6, m6, Or.inr g1, fun _ => g1, fun q => absurd (by first | (exact Or.inr hodd) | (exact Or.inl hpos)) q, hX4, g2, g3, g4, hXo, h80r, hz⟩
  · simp only [jc, Bool.not_eq_true', Bool.not_eq_false', decide_eq_true_eq, decide_eq_false_iff_not] at c70
    rw [hv4] at c70
    have hneg : ¬ 0 < pcs V q dy := fun z => c70 (by rw [jsg_pos z]; decide)
    iterate 2 refine mj_T.pl rfl rfl rfl rfl ?_
    refine mj_T.irem (a := (gap : Int)) (b := 2) rfl ⟨by omega, by omega⟩ ⟨by decide, by decide⟩ (by decide) ?_
    rw [show (gap : Int).tmod 2 = ((gap % 2 : Nat) : Int) from (Int.ofNat_tmod gap 2).symm]
    refine mj_T.if0 (a := ((gap % 2 : Nat) : Int)) rfl ⟨by omega, by omega⟩ (fun c73 => ?_) (fun c73 => ?_)
    · simp only [jc, Bool.not_eq_true', Bool.not_eq_false', decide_eq_true_eq, decide_eq_false_iff_not] at c73
      have hnot : ¬ (0 < pcs V q dy ∨ gap % 2 ≠ 0) := by omega
      have hw5 : ∀ e, e < cL (r + 3) → (pfl V3 r (pcs V3 80) (cL (r + 3))) (r + 4 + 2 * e) = (rdv (pcs V p) (pcs V q) (dy + gap) dy (V 174) (V 176)) e := fun e he => by
        rw [pfl_at _ _ _ he]
        exact hw3 e he
      refine mj_T.imp (mR_tail (D := D) (V := V) m68 kp kq kr hq hr hqr hdy5 hdq hg h176 hlq hl60 hk60 hw5 (fun x x1 x2 x3 x4 x5 => ?_)) (fun z hz => ?_)
      · rw [pfl_off _ _ _ x5]
        exact off3 x x1 x2 x3 x4
      · obtain ⟨V6, h6, m6, g1, g2, g3, g4, hz⟩ := hz
        exact ⟨V6, _, h6, m6, Or.inl g1, fun q => absurd q hnot, fun _ => g1, hX4, g2, g3, g4, hXo, h80r, hz⟩
    · simp only [jc, Bool.not_eq_true', Bool.not_eq_false', decide_eq_true_eq, decide_eq_false_iff_not] at c73
      have hodd : gap % 2 ≠ 0 := by omega
      refine mj_T.pl rfl rfl rfl rfl ?_
      refine mj_T.call rfl rfl (Nat.le_of_ble_eq_true rfl) (Nat.le_of_ble_eq_true rfl) (mV_of m68 13 kr (by decide) rfl (by decide) rfl _) rfl (mj_Ok.up (by omega) (mP_negate (D := 0) m68 kr (pcl_pfl (Nat.le_refl _) (fun e he => by have q1 := hcap e he; have q2 := mK_w (Or.inl ((mK_p kr).2.2.2 e he)); rw [hw3 e he]; omega)))) (fun v g74 hq => ?_) (fun i g74 hq => ?_)
      rotate_left
      · obtain ⟨_, _, hq⟩ := hq; cases hq
      obtain ⟨_, m75, hq⟩ := hq
      cases hq
      rw [pfl_pfl] at m75
      refine mj_T.eq (pc2 := 135) (st2 := []) ?_ rfl rfl rfl rfl
      have hw5 : ∀ e, e < cL (r + 3) → (pfl V3 r (fun e => -(pfl V3 r (pcs V3 80) (cL (r + 3))) (r + 4 + 2 * e)) (cL (r + 3))) (r + 4 + 2 * e) = -(rdv (pcs V p) (pcs V q) (dy + gap) dy (V 174) (V 176)) e := fun e he => by
        rw [pfl_at _ _ _ he, pfl_at _ _ _ he]
        rw [hw3 e he]
      refine mj_T.imp (mR_tail (D := D) (V := V) m75 kp kq kr hq hr hqr hdy5 hdq hg h176 hlq hl60 hk60 hw5 (fun x x1 x2 x3 x4 x5 => ?_)) (fun z hz => ?_)
      · rw [pfl_off _ _ _ x5]
        exact off3 x x1 x2 x3 x4
      · obtain ⟨V6, h6, m6, g1, g2, g3, g4, hz⟩ := hz
        exact ⟨V6, _, h6, m6, Or.inr g1, fun _ => g1, fun q => absurd (by first | (exact Or.inr hodd) | (exact Or.inl hpos)) q, hX4, g2, g3, g4, hXo, h80r, hz⟩
end MNY
/-! The row of Sturm: how great its numbers are. -/
def bM : Nat := 12000000000000000000
/-- what a determinant of k rows stays below -/
def bdf (k : Nat) : Nat := fct k * bM ^ k
theorem fct_pos : ∀ k, 1 ≤ fct k
  | 0 => Nat.le_refl 1
  | k + 1 => Nat.le_trans (fct_pos k) (Nat.le_mul_of_pos_left _ (Nat.succ_pos k))
theorem bM_pos : 1 ≤ bM := by decide
theorem bdf_succ (k : Nat) : bdf k ≤ bdf (k + 1) := by
  unfold bdf
  refine Nat.mul_le_mul ?_ (Nat.pow_le_pow_right bM_pos (Nat.le_succ k))
  exact Nat.le_mul_of_pos_left _ (Nat.succ_pos k)
theorem bdf_mono {k k' : Nat} (h : k ≤ k') : bdf k ≤ bdf k' := by
  induction k' with
  | zero => rw [show k = 0 by omega]; exact Nat.le_refl _
  | succ k' ih =>
    by_cases c : k = k' + 1
    · rw [c]; exact Nat.le_refl _
    · exact Nat.le_trans (ih (by omega)) (bdf_succ k')
theorem bdf_one : bdf 1 = bM := by
  unfold bdf fct
  rw [Nat.pow_one]
  show 1 * 1 * bM = bM
  omega
theorem bdf_pos (k : Nat) : 1 ≤ bdf k := Nat.le_trans (fct_pos k) (Nat.le_mul_of_pos_right _ (Nat.pow_pos bM_pos))
/-- two neighbours of the row, with their sizes -/
def RB (A B : pz_P) (m n : Nat) (X Y : pz_P) (dx dy : Nat) (la ps : Int) : Prop := RI A B m n X Y dx dy la ps ∧ dx ≤ 12 ∧ (∀ e, (X e).natAbs ≤ bdf (25 - 2 * dx)) ∧ (∀ e, (Y e).natAbs ≤ bdf (26 - 2 * dx)) ∧ (dy = dx → ∀ e, (Y e).natAbs ≤ bM) ∧ la.natAbs ≤ bdf 24 ∧ ps.natAbs ≤ bdf 24
theorem RB.start {A B : pz_P} {m n : Nat} (hA : ∀ i, m < i → A i = 0) (hB : ∀ i, n < i → B i = 0) (hn : B n ≠ 0) (hmn : n ≤ m) (hm : m ≤ 12) (bA : ∀ e, (A e).natAbs ≤ bM) (bB : ∀ e, (B e).natAbs ≤ bM) : RB A B m n A B m n 1 1 := by
  have h1 : ∀ k, 1 ≤ k → bM ≤ bdf k := fun k hk => by
    rw [← bdf_one]
    exact bdf_mono hk
  exact ⟨RI.start hA hB hn hmn, hm, fun e => Nat.le_trans (bA e) (h1 _ (by omega)), fun e => Nat.le_trans (bB e) (h1 _ (by omega)), fun _ => bB, bdf_pos 24, bdf_pos 24⟩
theorem RB.div {A B X Y : pz_P} {m n dx dy : Nat} {la ps : Int} (r : RB A B m n X Y dx dy la ps) (hm : m ≤ 12) (hn : n ≤ 12) (bA : ∀ e, (A e).natAbs ≤ bM) (bB : ∀ e, (B e).natAbs ≤ bM) (h1 : 1 ≤ dy) (e : Nat) : (rdv X Y dx dy la ps e).natAbs ≤ bdf (26 - 2 * dy) := by
  have hdy := r.1.2.2.2.1
  by_cases c : 1 ≤ n - (dy - 1) + (m - (dy - 1))
  · have h2 := SB_abs (n := n) c bA bB e
    have h3 : bdf (n - (dy - 1) + (m - (dy - 1))) ≤ bdf (26 - 2 * dy) := bdf_mono (by omega)
    have h4 : (rdv X Y dx dy la ps e).natAbs = (SB (n - (dy - 1)) (m - (dy - 1)) n A B e).natAbs := by
      rcases (r.1.div h1).1 with q | q
      · rw [q e]
      · rw [q e, Int.natAbs_neg]
    rw [h4]
    exact Nat.le_trans h2 h3
  · -- no rows at all: impossible in a row, harmless here
    have h4 : (rdv X Y dx dy la ps e).natAbs = (SB (n - (dy - 1)) (m - (dy - 1)) n A B e).natAbs := by
      rcases (r.1.div h1).1 with q | q
      · rw [q e]
      · rw [q e, Int.natAbs_neg]
    rw [h4, show n - (dy - 1) = 0 by omega, show m - (dy - 1) = 0 by omega]
    have h5 : (SB 0 0 n A B e).natAbs ≤ bM := by
      unfold SB
      exact srow_abs bA bB 0 e
    refine Nat.le_trans h5 ?_
    rw [← bdf_one]
    exact bdf_mono (by have := r.2.1; omega)
theorem RB.next {A B X Y F : pz_P} {m n dx dy rr : Nat} {la ps : Int} (r : RB A B m n X Y dx dy la ps) (hm : m ≤ 12) (hn : n ≤ 12) (bA : ∀ e, (A e).natAbs ≤ bM) (bB : ∀ e, (B e).natAbs ≤ bM) (h1 : 1 ≤ dy) (hF : pm F (rdv X Y dx dy la ps)) (hr : rr < dy) (hz : ∀ i, rr < i → F i = 0) (hne : F rr ≠ 0) : RB A B m n Y F dy rr ((Y dy).natAbs : Int) (nxk Y dx dy ps) := by
  have hd := r.div hm hn bA bB h1
  obtain ⟨r1, r2, r3, r4, r5, r6, r7⟩ := r
  have hdy := r1.2.2.2.1
  refine ⟨r1.next h1 hF hr hz hne, by omega, fun e => ?_, fun e => ?_, fun q => by omega, ?_, ?_⟩
  · by_cases c : dy = dx
    · refine Nat.le_trans (r5 c e) ?_
      rw [← bdf_one]
      exact bdf_mono (by omega)
    · exact Nat.le_trans (r4 e) (bdf_mono (by omega))
  · have : (F e).natAbs = (rdv X Y dx dy la ps e).natAbs := by
      rcases hF with q | q
      · rw [q e]
      · rw [q e, Int.natAbs_neg]
    rw [this]
    exact hd e
  · rw [Int.natAbs_natCast]
    exact Nat.le_trans (r4 dy) (bdf_mono (by omega))
  · by_cases c : dx = dy
    · unfold nxk
      rw [if_pos c]
      exact r7
    · rw [(r1.known (by omega)).1, Int.natAbs_natCast]
      by_cases q : 1 ≤ n - dy + (m - dy)
      · exact Nat.le_trans (SB_abs (n := n) q bA bB dy) (bdf_mono (by omega))
      · rw [show n - dy = 0 by omega, show m - dy = 0 by omega]
        have h5 : (SB 0 0 n A B dy).natAbs ≤ bM := by
          unfold SB
          exact srow_abs bA bB 0 dy
        refine Nat.le_trans h5 ?_
        rw [← bdf_one]
        exact bdf_mono (by decide)
/-- the rooms suffice -/
theorem size_1 : ∀ d, d < 13 → 1 ≤ d → bdf (25 - 2 * d) * (2 * bdf (26 - 2 * d)) ^ d < jB ^ 235 := by decide +kernel
theorem size_2 : ∀ d, d < 13 → 1 ≤ d → bdf (26 - 2 * d) < jB ^ (60 - 4 * d) := by decide +kernel
theorem size_3 : bdf 24 < jB ^ 60 := by decide +kernel
theorem RB.fit {A B X Y : pz_P} {m n dx dy : Nat} {la ps : Int} (r : RB A B m n X Y dx dy la ps) (h1 : 1 ≤ dy) : bdf (25 - 2 * dx) * (2 * bdf (26 - 2 * dx)) ^ (dx - dy + 1) < jB ^ 235 := by
  have hdy := r.1.2.2.2.1
  have hd := r.2.1
  refine Nat.lt_of_le_of_lt ?_ (size_1 dx (by omega) (by omega))
  exact Nat.mul_le_mul_left _ (Nat.pow_le_pow_right (by have := bdf_pos (26 - 2 * dx); omega) (by omega))
/-! The row of Sturm of the class: its last. -/
section MLA
variable {g h : mj_H} {n D : Nat} {V : Nat → Int} {X : Nat → Nat → Int}
theorem mR_last (m : jM g n V X h) {k : Nat} (hL : X 172 2 = ((k + 1 : Nat) : Int)) (hk : k < 14) : mj_Ok (D + 1) 73 [.ref 172] h (fun r => r = (.inl (some (.ref (sro k))), h)) := by
  have l173 : cL 173 = 14 := mK_r.2.2.2.1
  refine mj_Ok.of (M := mj_m73) rfl rfl rfl ?_
  refine mj_T.pl rfl rfl rfl rfl ?_
  refine mT_get m 16 cq_d172 (by decide) rfl rfl ?_
  refine mj_T.pl rfl rfl rfl rfl ?_
  refine mT_get (v := .int (jn (((k + 1) : Nat) : Int))) m 16 cq_d172 (by decide) rfl (congrArg (fun z : Int => some (Value.int (jn z))) (hL)) ?_
  refine mj_T.if0 (a := (((k + 1) : Nat) : Int)) rfl ⟨by omega, by omega⟩ (fun c1 => ?_) (fun c1 => ?_)
  · exfalso
    simp only [jc, Bool.not_eq_true', Bool.not_eq_false', decide_eq_true_eq, decide_eq_false_iff_not] at c1
    omega
  · simp only [jc, Bool.not_eq_true', Bool.not_eq_false', decide_eq_true_eq, decide_eq_false_iff_not] at c1
    refine mj_T.pl rfl rfl rfl rfl ?_
    refine mT_get (v := .int (jn (((k + 1) : Nat) : Int))) m 16 cq_d172 (by decide) rfl (congrArg (fun z : Int => some (Value.int (jn z))) (hL)) ?_
    refine mj_T.pl rfl rfl rfl rfl ?_
    refine mT_get m 16 cq_d172 (by decide) rfl rfl ?_
    refine mT_alen m 5 cq_d173 (by decide) rfl ?_
    refine mj_T.icmp (a := (((k + 1) : Nat) : Int)) (b := ((cL 173 : Nat) : Int)) rfl ⟨by omega, by omega⟩ ⟨by omega, by omega⟩ (fun c2 => ?_) (fun c2 => ?_)
    · exfalso
      simp only [jc, Bool.not_eq_true', Bool.not_eq_false', decide_eq_true_eq, decide_eq_false_iff_not] at c2
      omega
    · simp only [jc, Bool.not_eq_true', Bool.not_eq_false', decide_eq_true_eq, decide_eq_false_iff_not] at c2
      refine mj_T.pl rfl rfl rfl rfl ?_
      refine mT_get (v := .int (jn (((k + 1) : Nat) : Int))) m 16 cq_d172 (by decide) rfl (congrArg (fun z : Int => some (Value.int (jn z))) (hL)) ?_
      refine mj_T.pl rfl rfl rfl rfl ?_
      refine mj_T.isub (a := (((k + 1) : Nat) : Int)) (b := 1) rfl ?_
      refine mj_T.pl rfl rfl rfl rfl ?_
      rw [show ((k + 1 : Nat) : Int) - 1 = (k : Int) by omega]
      refine mT_aald m 5 cq_d173 (by decide) rfl rfl (by omega) ⟨by omega, by omega⟩ ?_
      refine mj_T.eq (st2 := [.ref (sro k)]) ?_ rfl rfl rfl rfl
      exact mj_T.ret rfl rfl rfl rfl
end MLA
