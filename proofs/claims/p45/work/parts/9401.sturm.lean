/-! Sturm: from one place to a greater one changes of sign are lost, none is won. -/
theorem unif {P : Nat → Nat → Prop} (hm : ∀ i C C', C ≤ C' → P i C → P i C') : ∀ n, (∀ i, i < n → ∃ C, P i C) → ∃ C, ∀ i, i < n → P i C
  | 0, _ => ⟨0, fun i hi => absurd hi (Nat.not_lt_zero i)⟩
  | n + 1, h => by
    obtain ⟨C, hC⟩ := unif hm n (fun i hi => h i (by omega))
    obtain ⟨C2, hC2⟩ := h n (by omega)
    refine ⟨C + C2, fun i hi => ?_⟩
    rcases Nat.lt_or_ge i n with c | c
    · exact hm i C _ (by omega) (hC i c)
    · have : i = n := by omega
      subst this
      exact hm i C2 _ (by omega) hC2
def hv (R : Nat → pz_P) (D : Nat) (a : Int) (i : Nat) : Int := hz 13 (R i) a (D : Int)
def sv (R : Nat → pz_P) (D : Nat) (a : Int) (i : Nat) : Int := jsg (hv R D a i)
theorem sv_r (R : Nat → pz_P) (D : Nat) (a : Int) (i : Nat) : -1 ≤ sv R D a i ∧ sv R D a i ≤ 1 := jsg_range _
theorem sN_rel (M : Nat) {X Y Z : pz_P} (h : sN X Y Z) (hX : pz_lt X 13) (hY : pz_lt Y 13) (hZ : pz_lt Z 13) : ∃ (p q : Int) (K : Nat), 0 < p ∧ 0 < q ∧ ∀ (D : Nat) (a : Int), 1 ≤ D → a.natAbs ≤ M * D → (p * hz 13 X a (D : Int) + q * hz 13 Z a (D : Int)).natAbs ≤ K * (hz 13 Y a (D : Int)).natAbs := by
  obtain ⟨p, q, Q, n, hp, hq, hQ, e⟩ := h
  obtain ⟨K, hK⟩ := hz_B M n Q
  refine ⟨p, q, K, hp, hq, fun D a hD ha => ?_⟩
  have hQ1 : pz_lt Q (n + 1) := hQ.mono (by omega)
  have e1 : pz_mul Q Y = pz_add (pz_sc p X) (pz_sc q Z) := funext fun i => (e i).symm
  have h1 := hz_mul (n + 1) 13 Q Y a (D : Int) hQ1 hY
  rw [e1, Nat.add_comm (n + 1) 13, hz_more 13 (n + 1) _ a (D : Int) ((hX.sc p).add (hZ.sc q)), hz_add, hz_sc, hz_sc] at h1
  have h2 := congrArg Int.natAbs h1
  rw [Int.natAbs_mul, Int.natAbs_mul, Int.natAbs_mul, Int.natAbs_pow, Int.natAbs_natCast] at h2
  have h3 := hK D a hD ha
  have hp1 : 0 < D ^ (n + 1) := Nat.pow_pos (by omega)
  refine Nat.le_of_mul_le_mul_left (Nat.le_trans (Nat.le_of_eq h2) ?_) hp1
  refine Nat.le_trans (Nat.mul_le_mul_left D (Nat.mul_le_mul_right _ h3)) (Nat.le_of_eq ?_)
  rw [Nat.pow_succ]
  ac_rfl
theorem abs_same {x y p q : Int} (hp : 0 < p) (hq : 0 < q) (h : 0 < x * y) : x.natAbs ≤ (p * x + q * y).natAbs := by
  have h1 : x ≠ 0 := fun c => by rw [c, Int.zero_mul] at h; omega
  rcases Int.lt_or_gt_of_ne h1 with c | c
  · have hy : y < 0 := by
      rcases Int.lt_trichotomy y 0 with d | d | d
      · exact d
      · rw [d, Int.mul_zero] at h
        omega
      · have := Int.mul_neg_of_neg_of_pos c d
        omega
    have a1 := Int.mul_neg_of_pos_of_neg hq hy
    have a2 : p * x ≤ 1 * x := Int.mul_le_mul_of_nonpos_right (by omega) (by omega)
    omega
  · have hy : 0 < y := by
      rcases Int.lt_trichotomy y 0 with d | d | d
      · have := Int.mul_neg_of_pos_of_neg c d
        omega
      · rw [d, Int.mul_zero] at h
        omega
      · exact d
    have a1 := Int.mul_pos hq hy
    have a2 : 1 * x ≤ p * x := Int.mul_le_mul_of_nonneg_right (by omega) (by omega)
    omega
section STM
variable {A : pz_P} {k : Nat} {R : Nat → pz_P} {d : Nat → Nat}
theorem SPr.l13 (h : SPr A k R d) (h12 : d 0 ≤ 12) {i : Nat} (hi : i ≤ k) : pz_lt (R i) 13 := (h.1 i hi).2.mono (by have := h.di i hi; omega)
theorem hv_k (h : SPr A k R d) (hk : d k = 0) (D : Nat) (a : Int) : D ^ 12 ≤ (hv R D a k).natAbs := by
  have h1 := h.1 k (Nat.le_refl _)
  rw [hk] at h1
  unfold hv
  rw [show 13 = 1 + 12 from rfl, hz_more 1 12 _ a (D : Int) h1.2]
  show _ ≤ ((D : Int) ^ 12 * (R k 0 * 1 + a * 0)).natAbs
  rw [Int.mul_one, Int.mul_zero, Int.add_zero, Int.natAbs_mul, Int.natAbs_pow, Int.natAbs_natCast]
  have : 1 ≤ (R k 0).natAbs := by
    have := h1.1
    omega
  exact Nat.le_trans (Nat.le_of_eq (Nat.mul_one _).symm) (Nat.mul_le_mul_left _ this)
theorem st_adj (M : Nat) (h : SPr A k R d) (h12 : d 0 ≤ 12) (hk : d k = 0) : ∀ j i, i + j + 1 = k → ∃ E : Nat, ∀ (D : Nat) (a : Int), 1 ≤ D → a.natAbs ≤ M * D → D ^ 12 ≤ E * ((hv R D a i).natAbs + (hv R D a (i + 1)).natAbs)
  | 0, i, e => ⟨1, fun D a hD ha => by
    have h1 := hv_k h hk D a
    rw [show i + 1 = k by omega, Nat.one_mul]
    omega⟩
  | j + 1, i, e => by
    obtain ⟨E, hE⟩ := st_adj M h h12 hk j (i + 1) (by omega)
    obtain ⟨p, q, K, hp, hq, hr⟩ := sN_rel M (h.2.2.2.2 i (by omega)) (h.l13 h12 (by omega)) (h.l13 h12 (by omega)) (h.l13 h12 (by omega))
    refine ⟨E * (1 + p.natAbs + K), fun D a hD ha => ?_⟩
    have h1 := hE D a hD ha
    have h2 := hr D a hD ha
    have h2 : (p * hv R D a i + q * hv R D a (i + 2)).natAbs ≤ K * (hv R D a (i + 1)).natAbs := h2
    have h1 : D ^ 12 ≤ E * ((hv R D a (i + 1)).natAbs + (hv R D a (i + 2)).natAbs) := h1
    generalize hv R D a i = u0 at h2 ⊢
    generalize hv R D a (i + 1) = u1 at h1 h2 ⊢
    generalize hv R D a (i + 2) = u2 at h1 h2
    refine Nat.le_trans h1 ?_
    rw [Nat.mul_assoc]
    refine Nat.mul_le_mul_left E ?_
    have h3 : u2.natAbs ≤ (q * u2).natAbs := by
      rw [Int.natAbs_mul]
      exact Nat.le_trans (Nat.le_of_eq (Nat.one_mul _).symm) (Nat.mul_le_mul_right _ (by omega))
    have h4 : (p * u0).natAbs = p.natAbs * u0.natAbs := Int.natAbs_mul _ _
    have h5 : (q * u2).natAbs ≤ (p * u0).natAbs + (p * u0 + q * u2).natAbs := by omega
    have e1 : (1 + p.natAbs + K) * (u0.natAbs + u1.natAbs) = u0.natAbs + u1.natAbs + (p.natAbs * u0.natAbs + p.natAbs * u1.natAbs) + (K * u0.natAbs + K * u1.natAbs) := by
      rw [Nat.add_mul, Nat.add_mul, Nat.one_mul, Nat.mul_add, Nat.mul_add]
    rw [e1]
    omega
theorem st_big {u v : Int} {B D K T : Nat} (hb : B ≤ T * u.natAbs) (hB : 1 ≤ B) (hl : (v - u).natAbs * D ≤ K * B) (hD : K * T < D) : jsg u = jsg v ∧ jsg u ≠ 0 := by
  have hu : u ≠ 0 := fun c => by
    rw [c, Int.natAbs_zero, Nat.mul_zero] at hb
    omega
  have h1 : (v - u).natAbs * D ≤ K * T * u.natAbs := Nat.le_trans hl (by rw [Nat.mul_assoc]; exact Nat.mul_le_mul_left K hb)
  have h2 : K * T * u.natAbs < D * u.natAbs := Nat.mul_lt_mul_of_pos_right hD (by omega)
  have h3 : (v - u).natAbs < u.natAbs := by
    refine Nat.lt_of_mul_lt_mul_right (a := D) ?_
    rw [Nat.mul_comm u.natAbs D]
    omega
  rcases Int.lt_or_gt_of_ne hu with c | c
  · rw [jsg_neg c, jsg_neg (show v < 0 by omega)]
    exact ⟨rfl, by decide⟩
  · rw [jsg_pos c, jsg_pos (show 0 < v by omega)]
    exact ⟨rfl, by decide⟩
theorem st_local (M : Nat) (h : SPr A k R d) (h12 : d 0 ≤ 12) (hk : d k = 0) : ∃ D1 : Nat, ∀ (D : Nat) (a : Int), D1 ≤ D → 1 ≤ D → a.natAbs ≤ M * D → (a + 1).natAbs ≤ M * D → (chg (sv R D (a + 1)) (k + 1)).1 ≤ (chg (sv R D a) (k + 1)).1 ∧ (hv R D (a + 1) 0 = 0 → (chg (sv R D (a + 1)) (k + 1)).1 + 1 ≤ (chg (sv R D a) (k + 1)).1) := by
  obtain ⟨CL, hCL⟩ := unif (P := fun i C => ∀ (D : Nat) (a : Int), 1 ≤ D → a.natAbs ≤ M * D → (a + 1).natAbs ≤ M * D → (hv R D (a + 1) i - hv R D a i).natAbs * D ≤ C * D ^ 12) (fun i C C' hc p D a hD ha ha1 => Nat.le_trans (p D a hD ha ha1) (Nat.mul_le_mul_right _ hc)) (k + 1) (fun i hi => hz_L M 12 (R i))
  obtain ⟨CE, hCE⟩ := unif (P := fun i C => ∀ (D : Nat) (a : Int), 1 ≤ D → a.natAbs ≤ M * D → D ^ 12 ≤ C * ((hv R D a i).natAbs + (hv R D a (i + 1)).natAbs)) (fun i C C' hc p D a hD ha => Nat.le_trans (p D a hD ha) (Nat.mul_le_mul_right _ hc)) k (fun i hi => st_adj M h h12 hk (k - 1 - i) i (by omega))
  obtain ⟨CR, hCR⟩ := unif (P := fun i C => ∀ (D : Nat) (a : Int), 1 ≤ D → a.natAbs ≤ M * D → 0 < hv R D a i * hv R D a (i + 2) → (hv R D a i).natAbs ≤ C * (hv R D a (i + 1)).natAbs) (fun i C C' hc p D a hD ha q => Nat.le_trans (p D a hD ha q) (Nat.mul_le_mul_right _ hc)) (k - 1) (fun i hi => by
    obtain ⟨p, q, K, hp, hq, hr⟩ := sN_rel M (h.2.2.2.2 i (by omega)) (h.l13 h12 (by omega)) (h.l13 h12 (by omega)) (h.l13 h12 (by omega))
    exact ⟨K, fun D a hD ha s => Nat.le_trans (abs_same hp hq s) (hr D a hD ha)⟩)
  -- the derivative
  obtain ⟨KD, bD, hKD⟩ : ∃ (KD bD : Nat), 1 ≤ k → ∀ (D : Nat) (a : Int), 1 ≤ D → a.natAbs ≤ M * D → (a + 1).natAbs ≤ M * D → ∃ w : Int, (hv R D (a + 1) 0 - hv R D a 0 - w).natAbs * D * D ≤ KD * D ^ 12 ∧ (hv R D a 1).natAbs ≤ bD * (D * w.natAbs) ∧ jsg w = jsg (hv R D a 1) := by
    rcases Nat.eq_zero_or_pos k with k0 | k0
    · exact ⟨0, 0, fun q => by omega⟩
    obtain ⟨K, hK⟩ := hz_D M 12 (R 0)
    obtain ⟨a1, b1, ha1, hb1, e⟩ := ((h.2.2.2.1 k0).tr h.2.2.1.dv.sy).at
    refine ⟨K, b1.natAbs, fun _ D a hD ha hb => ⟨hz 12 (drv (R 0)) a (D : Int), hK D a hD ha hb, ?_⟩⟩
    have l12 : pz_lt (drv (R 0)) 12 := fun i hi => by
      show R 0 (i + 1) * _ = 0
      rw [h.l13 h12 (Nat.zero_le k) (i + 1) (by omega), Int.zero_mul]
    have e1 : a1 * hv R D a 1 = b1 * ((D : Int) * hz 12 (drv (R 0)) a (D : Int)) := by
      have e2 : pz_sc a1 (R 1) = pz_sc b1 (drv (R 0)) := funext e
      have e3 := hz_more 12 1 (drv (R 0)) a (D : Int) l12
      rw [Int.pow_one] at e3
      unfold hv
      rw [← hz_sc, e2, hz_sc, ← e3]
    generalize hz 12 (drv (R 0)) a (D : Int) = w at e1 ⊢
    generalize hv R D a 1 = u at e1 ⊢
    have hD2 : (0 : Int) < (D : Int) := by omega
    refine ⟨?_, ?_⟩
    · have := congrArg Int.natAbs e1
      rw [Int.natAbs_mul, Int.natAbs_mul, Int.natAbs_mul, Int.natAbs_natCast] at this
      rw [← this]
      exact Nat.le_trans (Nat.le_of_eq (Nat.one_mul _).symm) (Nat.mul_le_mul_right _ (by omega))
    · have := congrArg jsg e1
      rw [← jsg_mul2, ← jsg_mul2, ← jsg_mul2, jsg_pos ha1, jsg_pos hb1, jsg_pos hD2, Int.one_mul, Int.one_mul, Int.one_mul] at this
      exact this.symm
  obtain ⟨C, hC⟩ : ∃ C, C = CL + CE + CR + 1 := ⟨_, rfl⟩
  obtain ⟨T, hT⟩ : ∃ T, T = 4 * C * (C + 1) := ⟨_, rfl⟩
  refine ⟨C * T + 2 * C * KD * bD + 1, fun D a hD1 hD ha hb => ?_⟩
  have hB : 1 ≤ D ^ 12 := Nat.pow_pos (by omega)
  have hlip : ∀ i, i ≤ k → (hv R D (a + 1) i - hv R D a i).natAbs * D ≤ C * D ^ 12 := fun i hi => Nat.le_trans (hCL i (by omega) D a hD ha hb) (Nat.mul_le_mul_right _ (by omega))
  have hadj : ∀ i, i < k → D ^ 12 ≤ C * ((hv R D a i).natAbs + (hv R D a (i + 1)).natAbs) := fun i hi => Nat.le_trans (hCE i hi D a hD ha) (Nat.mul_le_mul_right _ (by omega))
  have hrel : ∀ i, i + 2 ≤ k → 0 < hv R D a i * hv R D a (i + 2) → (hv R D a i).natAbs ≤ C * (hv R D a (i + 1)).natAbs := fun i hi q => Nat.le_trans (hCR i (by omega) D a hD ha q) (Nat.mul_le_mul_right _ (by omega))
  have hder := fun q => hKD q D a hD ha hb
  have hCT : C * T < D := by omega
  have T2 : 2 * C ≤ T := by
    rw [hT]
    refine Nat.le_trans (Nat.mul_le_mul_right C (show 2 ≤ 4 by omega)) ?_
    exact Nat.le_trans (Nat.le_of_eq (Nat.mul_one _).symm) (Nat.mul_le_mul_left _ (by omega))
  have T3 : 2 * C * C ≤ T := by
    rw [hT]
    exact Nat.mul_le_mul (Nat.mul_le_mul_right C (by omega)) (by omega)
  have big : ∀ i, i ≤ k → D ^ 12 ≤ T * (hv R D a i).natAbs → sG (sv R D a) (sv R D (a + 1)) i := fun i hi q => st_big q hB (hlip i hi) hCT
  have bigk : sG (sv R D a) (sv R D (a + 1)) k := big k (Nat.le_refl _) (Nat.le_trans (hv_k h hk D a) (Nat.le_trans (Nat.le_of_eq (Nat.one_mul _).symm) (Nat.mul_le_mul_right _ (by omega))))
  -- beside a small one: great ones
  have two : ∀ i j, (j = i + 1 ∧ i < k ∨ i = j + 1 ∧ j < k) → T * (hv R D a i).natAbs < D ^ 12 → D ^ 12 < 2 * C * (hv R D a j).natAbs := fun i j hij q => by
    have h1 : D ^ 12 ≤ C * ((hv R D a i).natAbs + (hv R D a j).natAbs) := by
      rcases hij with ⟨e, hi⟩ | ⟨e, hi⟩
      · rw [e]
        exact hadj i hi
      · rw [e, Nat.add_comm]
        exact hadj j hi
    have h2 : 2 * C * (hv R D a i).natAbs ≤ T * (hv R D a i).natAbs := Nat.mul_le_mul_right _ T2
    rw [Nat.mul_add] at h1
    have e1 : 2 * C * (hv R D a i).natAbs = 2 * (C * (hv R D a i).natAbs) := Nat.mul_assoc _ _ _
    have e2 : 2 * C * (hv R D a j).natAbs = 2 * (C * (hv R D a j).natAbs) := Nat.mul_assoc _ _ _
    omega
  have gb : ∀ i j, (j = i + 1 ∧ i < k ∨ i = j + 1 ∧ j < k) → T * (hv R D a i).natAbs < D ^ 12 → sG (sv R D a) (sv R D (a + 1)) j := fun i j hij q => big j (by omega) (Nat.le_trans (Nat.le_of_lt (two i j hij q)) (Nat.mul_le_mul_right _ T2))
  have hi : ∀ i, 1 ≤ i → i ≤ k → sG (sv R D a) (sv R D (a + 1)) i ∨ (i < k ∧ sN1 (sv R D a) (sv R D (a + 1)) i) := fun i h1 h2 => by
    rcases Nat.lt_or_ge (T * (hv R D a i).natAbs) (D ^ 12) with q | q
    · have hik : i < k := by
        rcases Nat.lt_or_ge i k with c | c
        · exact c
        · exfalso
          have e : i = k := by omega
          subst e
          have h3 := hv_k h hk D a
          have h4 : (hv R D a i).natAbs ≤ T * (hv R D a i).natAbs := Nat.le_trans (Nat.le_of_eq (Nat.one_mul _).symm) (Nat.mul_le_mul_right _ (by omega))
          omega
      have g1 := gb i (i - 1) (Or.inr ⟨by omega, by omega⟩) q
      have g2 := gb i (i + 1) (Or.inl ⟨rfl, hik⟩) q
      refine Or.inr ⟨hik, g1, g2, ?_⟩
      have hn : ¬ 0 < hv R D a (i - 1) * hv R D a (i + 1) := fun s => by
        obtain ⟨j, rfl⟩ : ∃ j, i = j + 1 := ⟨i - 1, by omega⟩
        have h3 := hrel j (by omega) s
        have h4 := two (j + 1) j (Or.inr ⟨rfl, by omega⟩) q
        have h5 : 2 * C * (hv R D a j).natAbs ≤ 2 * C * (C * (hv R D a (j + 1)).natAbs) := Nat.mul_le_mul_left _ h3
        have h6 : 2 * C * (C * (hv R D a (j + 1)).natAbs) ≤ T * (hv R D a (j + 1)).natAbs := by
          rw [← Nat.mul_assoc]
          exact Nat.mul_le_mul_right _ T3
        omega
      have r1 := g1.2
      have r2 := g2.2
      show jsg (hv R D a (i + 1)) = - jsg (hv R D a (i - 1))
      have n1 : hv R D a (i - 1) ≠ 0 := fun c => r1 (by show jsg _ = 0; rw [c]; rfl)
      have n2 : hv R D a (i + 1) ≠ 0 := fun c => r2 (by show jsg _ = 0; rw [c]; rfl)
      rcases Int.lt_or_gt_of_ne n1 with c1 | c1 <;> rcases Int.lt_or_gt_of_ne n2 with c2 | c2
      · exact absurd (Int.mul_pos_of_neg_of_neg c1 c2) hn
      · rw [jsg_neg c1, jsg_pos c2]
        rfl
      · rw [jsg_pos c1, jsg_neg c2]
      · exact absurd (Int.mul_pos c1 c2) hn
    · exact Or.inl (big i h2 q)
  rcases Nat.lt_or_ge (T * (hv R D a 0).natAbs) (D ^ 12) with q | q
  · -- the first is small: its step has the sign of the second
    have k1 : 1 ≤ k := by
      rcases Nat.eq_zero_or_pos k with c | c
      · exfalso
        subst c
        have h3 := hv_k h hk D a
        have h4 : (hv R D a 0).natAbs ≤ T * (hv R D a 0).natAbs := Nat.le_trans (Nat.le_of_eq (Nat.one_mul _).symm) (Nat.mul_le_mul_right _ (by omega))
        omega
      · exact c
    have g1 := gb 0 1 (Or.inl ⟨rfl, k1⟩) q
    have b1 := two 0 1 (Or.inl ⟨rfl, k1⟩) q
    obtain ⟨w, w1, w2, w3⟩ := hder k1
    have wn : w ≠ 0 := fun c => by
      rw [c] at w3
      exact g1.2 w3.symm
    have st : (hv R D (a + 1) 0 - hv R D a 0 - w).natAbs < w.natAbs := by
      have e1 : (hv R D (a + 1) 0 - hv R D a 0 - w).natAbs * D * D ≤ 2 * C * KD * bD * w.natAbs * D := by
        refine Nat.le_trans w1 (Nat.le_trans (Nat.mul_le_mul_left KD (Nat.le_of_lt b1)) ?_)
        refine Nat.le_trans (Nat.mul_le_mul_left KD (Nat.mul_le_mul_left (2 * C) w2)) (Nat.le_of_eq ?_)
        ac_rfl
      have e2 : (hv R D (a + 1) 0 - hv R D a 0 - w).natAbs * D ≤ 2 * C * KD * bD * w.natAbs := Nat.le_of_mul_le_mul_right e1 (by omega)
      have e3 : 2 * C * KD * bD * w.natAbs < D * w.natAbs := Nat.mul_lt_mul_of_pos_right (by omega) (by omega)
      refine Nat.lt_of_mul_lt_mul_right (a := D) ?_
      rw [Nat.mul_comm w.natAbs D]
      omega
    have g1e := g1.1
    have g1n := g1.2
    have hs1 : sv R D a 1 = jsg w := w3.symm
    have ht1 : sv R D (a + 1) 1 = jsg w := g1e.symm.trans hs1
    have a2 : ∀ s : Nat → Int, s 1 ≠ 0 → (chg s 2).1 = if s 0 * s 1 < 0 then 1 else 0 := fun s n1 => by
      have z : chg s 0 = (0, 0) := rfl
      have s1 : chg s 1 = (0, s 0) := by
        rw [chg_s, z]
        by_cases c : s 0 = 0
        · rw [if_pos c, c]
        · rw [if_neg c]
          simp
      rw [chg_s, if_neg n1, s1]
    have x1 := a2 (sv R D a) g1n
    have x2 := a2 (sv R D (a + 1)) (by rw [← g1e]; exact g1n)
    rw [hs1] at x1
    rw [ht1] at x2
    have key : ∃ e : Nat, (chg (sv R D a) 2).1 = (chg (sv R D (a + 1)) 2).1 + e ∧ (hv R D (a + 1) 0 = 0 → e = 1) := by
      rw [x1, x2]
      show ∃ e : Nat, (if jsg (hv R D a 0) * jsg w < 0 then 1 else 0) = (if jsg (hv R D (a + 1) 0) * jsg w < 0 then 1 else 0) + e ∧ _
      generalize hv R D a 0 = u at st ⊢
      generalize hv R D (a + 1) 0 = v at st ⊢
      rcases Int.lt_or_gt_of_ne wn with c | c
      · rw [jsg_neg c]
        by_cases hv0 : 0 < v
        · have hu0 : 0 < u := by omega
          rw [jsg_pos hv0, jsg_pos hu0]
          exact ⟨0, rfl, fun q => by omega⟩
        · by_cases hu0 : 0 < u
          · rw [jsg_pos hu0]
            refine ⟨1, ?_, fun _ => rfl⟩
            rw [if_pos (by decide), if_neg]
            have := jsg_s v
            have := jsg_range v
            intro hc
            have h9 : 0 < jsg v := by omega
            have := jsg_pp h9
            omega
          · refine ⟨0, ?_, fun q => by omega⟩
            have e1 : ¬ jsg u * -1 < 0 := fun hc => by
              have h9 : 0 < jsg u := by omega
              have := jsg_pp h9
              omega
            have e2 : ¬ jsg v * -1 < 0 := fun hc => by
              have h9 : 0 < jsg v := by omega
              have := jsg_pp h9
              omega
            rw [if_neg e1, if_neg e2]
      · rw [jsg_pos c, Int.mul_one, Int.mul_one]
        by_cases hv0 : v < 0
        · have hu0 : u < 0 := by omega
          rw [jsg_neg hv0, jsg_neg hu0]
          exact ⟨0, rfl, fun q => by omega⟩
        · have e2 : ¬ jsg v < 0 := fun hc => hv0 ((jsg_s v).1 hc)
          rw [if_neg e2]
          by_cases hu0 : u < 0
          · rw [jsg_neg hu0]
            exact ⟨1, rfl, fun _ => rfl⟩
          · have e1 : ¬ jsg u < 0 := fun hc => hu0 ((jsg_s u).1 hc)
            rw [if_neg e1]
            exact ⟨0, rfl, fun q => by omega⟩
    obtain ⟨e, he, he1⟩ := key
    have := chg_near (sv_r R D a) (sv_r R D (a + 1)) hi (e := e) (Or.inr ⟨k1, g1, he⟩) k (Nat.le_refl _) (Or.inl k1) bigk
    exact ⟨by omega, fun z => by have := he1 z; omega⟩
  · have g0 := big 0 (Nat.zero_le _) q
    have := chg_near (sv_r R D a) (sv_r R D (a + 1)) hi (e := 0) (Or.inl ⟨g0, rfl⟩) k (Nat.le_refl _) (Or.inr g0) bigk
    refine ⟨by omega, fun z => ?_⟩
    exfalso
    have h1 := g0.1
    have h2 := g0.2
    have h3 : sv R D (a + 1) 0 = 0 := by
      show jsg _ = 0
      rw [z]
      rfl
    exact h2 (h1.trans h3)
theorem sv_hom (D c : Nat) (hc : 1 ≤ c) (a : Int) : sv R (D * c) (a * (c : Int)) = sv R D a := funext fun i => by
  show jsg (hz 13 (R i) (a * (c : Int)) ((D * c : Nat) : Int)) = jsg (hz 13 (R i) a (D : Int))
  rw [Int.natCast_mul, hz_hom 12, ← jsg_mul2, jsg_pos (Int.pow_pos (by omega)), Int.one_mul]
/-- the changes at a / D -/
def vch (R : Nat → pz_P) (k D : Nat) (a : Int) : Nat := (chg (sv R D a) (k + 1)).1
theorem vch_hom (D c : Nat) (hc : 1 ≤ c) (a : Int) : vch R k (D * c) (a * (c : Int)) = vch R k D a := by
  unfold vch
  rw [sv_hom D c hc a]
theorem st_mono (h : SPr A k R d) (h12 : d 0 ≤ 12) (hk : d k = 0) {D0 : Nat} (hD0 : 1 ≤ D0) {a b : Int} (hab : a < b) : vch R k D0 b ≤ vch R k D0 a ∧ (sv R D0 b 0 = 0 → vch R k D0 b + 1 ≤ vch R k D0 a) := by
  obtain ⟨D1, hl⟩ := st_local (a.natAbs + b.natAbs) h h12 hk
  obtain ⟨m, hm⟩ : ∃ m, m = D1 + 1 := ⟨_, rfl⟩
  have hm1 : 1 ≤ m := by omega
  have hDm : m ≤ D0 * m := Nat.le_trans (Nat.le_of_eq (Nat.one_mul _).symm) (Nat.mul_le_mul_right m hD0)
  have ea := (vch_hom (R := R) (k := k) D0 m hm1 a).symm
  have eb := (vch_hom (R := R) (k := k) D0 m hm1 b).symm
  have es := congrFun (sv_hom (R := R) D0 m hm1 b).symm 0
  rw [ea, eb, es]
  have hab2 : a * (m : Int) < b * (m : Int) := Int.mul_lt_mul_of_pos_right hab (by omega)
  have na : (a * (m : Int)).natAbs = a.natAbs * m := by rw [Int.natAbs_mul, Int.natAbs_natCast]
  have nb : (b * (m : Int)).natAbs = b.natAbs * m := by rw [Int.natAbs_mul, Int.natAbs_natCast]
  have hMD : a.natAbs * m + b.natAbs * m ≤ (a.natAbs + b.natAbs) * (D0 * m) := by
    rw [← Nat.add_mul]
    exact Nat.mul_le_mul_left _ hDm
  generalize a * (m : Int) = x at hab2 na ⊢
  generalize b * (m : Int) = y at hab2 nb ⊢
  have bd : ∀ z : Int, x ≤ z → z ≤ y → z.natAbs ≤ (a.natAbs + b.natAbs) * (D0 * m) := fun z z1 z2 => by omega
  have walk : ∀ n : Nat, x + (n : Int) ≤ y → vch R k (D0 * m) (x + (n : Int)) ≤ vch R k (D0 * m) x := by
    intro n
    induction n with
    | zero =>
      intro _
      rw [show x + ((0 : Nat) : Int) = x by omega]
      exact Nat.le_refl _
    | succ n ih =>
      intro hn
      have h1 := ih (by omega)
      have h2 := (hl (D0 * m) (x + (n : Int)) (by omega) (by omega) (bd _ (by omega) (by omega)) (bd _ (by omega) (by omega))).1
      rw [show x + ((n + 1 : Nat) : Int) = x + (n : Int) + 1 by omega]
      exact Nat.le_trans h2 h1
  obtain ⟨n, hn⟩ : ∃ n : Nat, y = x + (n : Int) + 1 := ⟨(y - x - 1).toNat, by omega⟩
  have h1 := walk n (by omega)
  have h2 := hl (D0 * m) (x + (n : Int)) (by omega) (by omega) (bd _ (by omega) (by omega)) (bd _ (by omega) (by omega))
  rw [← hn] at h2
  refine ⟨Nat.le_trans h2.1 h1, fun z => ?_⟩
  have h3 := h2.2 (jsg_eq0 z)
  have h3 : vch R k (D0 * m) y + 1 ≤ vch R k (D0 * m) (x + (n : Int)) := h3
  omega
/-! Far out. -/
theorem ev_far : ∀ (n : Nat) (p : pz_P), pz_lt p (n + 1) → p n ≠ 0 → ∃ L : Nat, ∀ x : Nat, L ≤ x → 1 ≤ x → (jsg (pz_ev (n + 1) p (x : Int)) = jsg (p n)) ∧ jsg (pz_ev (n + 1) p (-(x : Int))) = jsg (p n) * (if n % 2 = 1 then -1 else 1)
  | 0, p, hp, h0 => ⟨0, fun x _ _ => by
    have e : ∀ y : Int, pz_ev 1 p y = p 0 := fun y => by
      show p 0 + y * 0 = p 0
      rw [Int.mul_zero, Int.add_zero]
    rw [e, e, if_neg (by decide), Int.mul_one]
    exact ⟨rfl, rfl⟩⟩
  | n + 1, p, hp, h0 => by
    obtain ⟨L, hL⟩ := ev_far n (pz_tl p) (fun i hi => hp (i + 1) (by omega)) h0
    refine ⟨L + (p 0).natAbs + 1, fun x hx hx1 => ?_⟩
    obtain ⟨a, b⟩ := hL x (by omega) hx1
    have h0' : pz_tl p n ≠ 0 := h0
    have big : ∀ t : Int, t ≠ 0 → ∀ y : Int, y.natAbs = x → jsg (p 0 + y * t) = jsg (y * t) := fun t ht y hy => by
      have h1 : (y * t).natAbs = x * t.natAbs := by rw [Int.natAbs_mul, hy]
      have h2 : x ≤ x * t.natAbs := Nat.le_trans (Nat.le_of_eq (Nat.mul_one _).symm) (Nat.mul_le_mul_left _ (by omega))
      generalize y * t = z at h1 ⊢
      rcases Int.lt_trichotomy z 0 with c | c | c
      · rw [jsg_neg c, jsg_neg (by omega)]
      · omega
      · rw [jsg_pos c, jsg_pos (by omega)]
    have e1 : pz_ev (n + 2) p (x : Int) = p 0 + (x : Int) * pz_ev (n + 1) (pz_tl p) (x : Int) := rfl
    have e2 : pz_ev (n + 2) p (-(x : Int)) = p 0 + (-(x : Int)) * pz_ev (n + 1) (pz_tl p) (-(x : Int)) := rfl
    have sn : jsg (pz_tl p n) ≠ 0 := fun c => h0' (jsg_eq0 c)
    have n1 : pz_ev (n + 1) (pz_tl p) (x : Int) ≠ 0 := fun c => by
      rw [c] at a
      exact sn a.symm
    have n2 : pz_ev (n + 1) (pz_tl p) (-(x : Int)) ≠ 0 := fun c => by
      rw [c] at b
      have b : (0 : Int) = jsg (pz_tl p n) * (if n % 2 = 1 then -1 else 1) := b
      split at b <;> omega
    rw [show n + 1 + 1 = n + 2 from rfl, e1, e2, big _ n1 _ (by omega), big _ n2 _ (by omega), ← jsg_mul2, ← jsg_mul2, a, b, jsg_pos (show (0 : Int) < (x : Int) by omega), jsg_neg (show -(x : Int) < 0 by omega), Int.one_mul]
    refine ⟨rfl, ?_⟩
    show -1 * (jsg (p (n + 1)) * _) = jsg (p (n + 1)) * _
    rcases Nat.mod_two_eq_zero_or_one n with c | c
    · rw [if_neg (by omega), if_pos (by omega)]
      omega
    · rw [if_pos c, if_neg (by omega)]
      omega
theorem st_far (h : SPr A k R d) (h12 : d 0 ≤ 12) : ∃ L : Nat, 1 ≤ L ∧ ∀ i, i ≤ k → ∀ (D x : Nat), 1 ≤ D → L ≤ x → sv R D ((x * D : Nat) : Int) i = sfar R d 1 i ∧ sv R D (-((x * D : Nat) : Int)) i = sfar R d (-1) i := by
  obtain ⟨L, hL⟩ := unif (P := fun i C => ∀ x : Nat, C ≤ x → 1 ≤ x → (jsg (pz_ev (d i + 1) (R i) (x : Int)) = jsg (R i (d i))) ∧ jsg (pz_ev (d i + 1) (R i) (-(x : Int))) = jsg (R i (d i)) * (if d i % 2 = 1 then -1 else 1)) (fun i C C' hc p x hx h1 => p x (by omega) h1) (k + 1) (fun i hi => ev_far (d i) (R i) (h.1 i (by omega)).2 (h.1 i (by omega)).1)
  refine ⟨L + 1, by omega, fun i hi D x hD hx => ?_⟩
  have hd := h.di i hi
  obtain ⟨a, b⟩ := hL i (by omega) x (by omega) (by omega)
  have e : ∀ y : Int, hz 13 (R i) (y * (D : Int)) ((1 : Int) * (D : Int)) = (D : Int) ^ 12 * pz_ev (d i + 1) (R i) y := fun y => by
    rw [hz_hom 12, hz_one, pz_ev_le y (h.1 i hi).2 (by omega)]
  have hp : (0 : Int) < (D : Int) ^ 12 := Int.pow_pos (by omega)
  refine ⟨?_, ?_⟩
  · show jsg (hz 13 (R i) ((x * D : Nat) : Int) (D : Int)) = _
    have e1 := e (x : Int)
    rw [Int.one_mul] at e1
    rw [Int.natCast_mul, e1, ← jsg_mul2, jsg_pos hp, Int.one_mul, a]
    unfold sfar
    rw [if_neg (by omega), Int.mul_one]
  · show jsg (hz 13 (R i) (-((x * D : Nat) : Int)) (D : Int)) = _
    have e1 := e (-(x : Int))
    rw [Int.one_mul] at e1
    rw [Int.natCast_mul, ← Int.neg_mul, e1, ← jsg_mul2, jsg_pos hp, Int.one_mul, b]
    unfold sfar
    rcases Nat.mod_two_eq_zero_or_one (d i) with c | c
    · rw [if_neg (by omega), if_neg (by omega)]
    · rw [if_pos c, if_pos ⟨by omega, c⟩]
/-- between the far ends -/
theorem st_ends (h : SPr A k R d) (h12 : d 0 ≤ 12) (hk : d k = 0) {D : Nat} (hD : 1 ≤ D) (a : Int) : vch R k D a ≤ (chg (sfar R d (-1)) (k + 1)).1 ∧ (chg (sfar R d 1) (k + 1)).1 ≤ vch R k D a := by
  obtain ⟨L, hL1, hL⟩ := st_far h h12
  have e : ∀ w : Int, ∀ y : Int, (∀ i, i ≤ k → sv R D y i = sfar R d w i) → vch R k D y = (chg (sfar R d w) (k + 1)).1 := fun w y q => by
    unfold vch
    rw [chg_cg (k + 1) (fun i hi => q i (by omega))]
  obtain ⟨x, hx⟩ : ∃ x, x = L + a.natAbs + 1 := ⟨_, rfl⟩
  have hxD : x ≤ x * D := Nat.le_trans (Nat.le_of_eq (Nat.mul_one _).symm) (Nat.mul_le_mul_left _ hD)
  have h1 := fun i hi => (hL i hi D x hD (by omega)).1
  have h2 := fun i hi => (hL i hi D x hD (by omega)).2
  have m1 := (st_mono h h12 hk hD (show a < ((x * D : Nat) : Int) by omega)).1
  have m2 := (st_mono h h12 hk hD (show -((x * D : Nat) : Int) < a by omega)).1
  rw [e 1 _ h1] at m1
  rw [e (-1) _ h2] at m2
  exact ⟨m2, m1⟩
/-- the sign of the first row -/
theorem st_sign (h : SPr A k R d) (h12 : d 0 ≤ 12) (hk : d k = 0) {D : Nat} (hD : 1 ≤ D) {a : Int} (h0 : sv R D a 0 ≠ 0) : sv R D a 0 = (if (vch R k D a + (chg (sfar R d 1) (k + 1)).1) % 2 = 1 then -1 else 1) * jsg (R 0 (d 0)) := by
  have hfr : ∀ i, -1 ≤ sfar R d 1 i ∧ sfar R d 1 i ≤ 1 := fun i => by
    unfold sfar
    rw [if_neg (by omega), Int.mul_one]
    exact jsg_range _
  have f0 : sfar R d 1 0 = jsg (R 0 (d 0)) := by
    unfold sfar
    rw [if_neg (by omega), Int.mul_one]
  have fk : sfar R d 1 k = jsg (R k (d k)) := by
    unfold sfar
    rw [if_neg (by omega), Int.mul_one]
  have nz : ∀ i, i ≤ k → jsg (R i (d i)) ≠ 0 := fun i hi c => (h.1 i hi).1 (jsg_eq0 c)
  have p1 := chg_par (sv_r R D a) h0 k
  have p2 := chg_par hfr (by rw [f0]; exact nz 0 (Nat.zero_le _)) k
  have sk : sv R D a k = jsg (R k (d k)) := by
    have h1 := h.1 k (Nat.le_refl _)
    rw [hk] at h1
    show jsg (hz 13 (R k) a (D : Int)) = _
    rw [show 13 = 1 + 12 from rfl, hz_more 1 12 _ a (D : Int) h1.2, ← jsg_mul2, jsg_pos (Int.pow_pos (by omega)), Int.one_mul, hk]
    show jsg (R k 0 * 1 + a * 0) = _
    rw [Int.mul_one, Int.mul_zero, Int.add_zero]
  have q1 : (chg (sv R D a) (k + 1)).2 = jsg (R k (d k)) := (chg_ne (by rw [sk]; exact nz k (Nat.le_refl _))).trans sk
  have q2 : (chg (sfar R d 1) (k + 1)).2 = jsg (R k (d k)) := (chg_ne (by rw [fk]; exact nz k (Nat.le_refl _))).trans fk
  rw [q1] at p1
  rw [q2, f0] at p2
  have p1 : jsg (R k (d k)) = (if vch R k D a % 2 = 1 then -1 else 1) * sv R D a 0 := p1
  generalize vch R k D a = v at p1 ⊢
  generalize (chg (sfar R d 1) (k + 1)).1 = w at p2 ⊢
  rw [p1] at p2
  rcases Nat.mod_two_eq_zero_or_one v with c1 | c1 <;> rcases Nat.mod_two_eq_zero_or_one w with c2 | c2
  · rw [if_neg (by omega), if_neg (by omega), Int.one_mul, Int.one_mul] at p2
    rw [if_neg (by omega), Int.one_mul]
    exact p2
  · rw [if_neg (by omega), if_pos c2, Int.one_mul] at p2
    rw [if_pos (by omega)]
    exact p2
  · rw [if_pos c1, if_neg (by omega), Int.one_mul] at p2
    rw [if_pos (by omega)]
    omega
  · rw [if_pos c1, if_pos c2] at p2
    rw [if_neg (by omega)]
    omega
end STM
