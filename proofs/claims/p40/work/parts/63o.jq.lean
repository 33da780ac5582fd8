/-! The row of remainders of two registers: an invariant with sizes by degrees. -/
def kq_F (A m : Nat) : Nat := m * (A * (2 * m * A) ^ (m - 1))
theorem kq_F_mono {A m n : Nat} (hA : 1 ≤ A) (h : m ≤ n) : kq_F A m ≤ kq_F A n := by
  unfold kq_F
  rcases Nat.eq_zero_or_pos n with hn | hn
  · have hm : m = 0 := by omega
    subst hm
    rw [Nat.zero_mul]
    exact Nat.zero_le _
  · have h1 : 2 * m * A ≤ 2 * n * A := Nat.mul_le_mul_right _ (Nat.mul_le_mul_left _ h)
    have h2 : 0 < 2 * n * A := Nat.mul_pos (by omega) (by omega)
    exact Nat.mul_le_mul h (Nat.mul_le_mul_left _ (Nat.le_trans (Nat.pow_le_pow_left h1 _) (Nat.pow_le_pow_right h2 (by omega))))
theorem kq_F_one (A : Nat) : kq_F A 1 = A := by
  show 1 * (A * 1) = A
  omega
theorem kq_F_ge {A n : Nat} (hA : 1 ≤ A) (h : 1 ≤ n) : A ≤ kq_F A n := by
  have := kq_F_mono hA h
  rw [kq_F_one] at this
  exact this
def kq_rel (f f0 : pz_P) : Prop := (f = pz_0 ∧ f0 = pz_0) ∨ ∃ c : Int, c ≠ 0 ∧ f = pz_sc c f0 ∧ pz_prim f0
theorem kq_deg : ∀ (N : Nat) (u : pz_P), pz_lt u N → u ≠ pz_0 → ∃ d, d < N ∧ pz_lt u (d + 1) ∧ u d ≠ 0
  | 0, u, h, h0 => absurd (pz_lt.zero u h) h0
  | N + 1, u, h, h0 => by
    by_cases c : u N = 0
    · obtain ⟨d, h1, h2, h3⟩ := kq_deg N u (fun i hi => by
        by_cases e : i = N
        · rw [e, c]
        · exact h i (by omega)) h0
      exact ⟨d, by omega, h2, h3⟩
    · exact ⟨N, by omega, h, c⟩
theorem kq_lead_eq {u : pz_P} {a b : Nat} (h1 : pz_lt u (a + 1)) (h2 : u a ≠ 0) (h3 : pz_lt u (b + 1)) (h4 : u b ≠ 0) : a = b := by
  rcases Nat.lt_trichotomy a b with c | c | c
  · exact absurd (h1 b (by omega)) h4
  · exact c
  · exact absurd (h3 a (by omega)) h2
theorem kq_prim_ne {u : pz_P} (h : pz_prim u) : u ≠ pz_0 := fun h0 => by
  have := h 2 (fun i => by rw [h0]; exact ⟨0, rfl⟩)
  omega
theorem kq_swap {x r : pz_P} {c z : Int} (hx : pz_prim x) (hr : pz_prim r) (hc : c ≠ 0) (h : pz_sc z x = pz_sc c r) : ∀ i, (r i).natAbs = (x i).natAbs := by
  have h1 : ∀ i, z * x i = c * r i := fun i => congrFun h i
  obtain ⟨t, ht⟩ := pz_prim_dvd hx hc (fun i => ⟨r i, h1 i⟩)
  have h2 : ∀ i, r i = t * x i := fun i => by
    have k := h1 i
    rw [ht, Int.mul_assoc] at k
    exact (Int.eq_of_mul_eq_mul_left hc k).symm
  have h3 : t.natAbs = 1 := hr _ (fun i => by
    rw [h2 i]
    exact Int.dvd_trans (Int.natAbs_dvd.mpr (Int.dvd_refl t)) ⟨x i, rfl⟩)
  intro i
  rw [h2 i, Int.natAbs_mul, h3, Nat.one_mul]
theorem kq_rel_lt {f f0 : pz_P} {d : Nat} (h : kq_rel f f0) (hf : pz_lt f d) : pz_lt f0 d := by
  rcases h with ⟨_, k⟩ | ⟨c, hc, k, _⟩
  · rw [k]
    exact fun i _ => rfl
  · intro i hi
    have h1 : c * f0 i = 0 := by rw [← hf i hi, k]; rfl
    rcases Int.mul_eq_zero.mp h1 with e | e
    · exact absurd e hc
    · exact e
theorem kq_rel_le {f f0 : pz_P} {A : Nat} (h : kq_rel f f0) (hf : ∀ i, (f i).natAbs ≤ A) : ∀ i, (f0 i).natAbs ≤ A := by
  rcases h with ⟨_, k⟩ | ⟨c, hc, k, _⟩
  · rw [k]
    exact fun i => Nat.zero_le _
  · intro i
    have h1 := hf i
    rw [k] at h1
    have h2 : (pz_sc c f0 i).natAbs = c.natAbs * (f0 i).natAbs := Int.natAbs_mul _ _
    rw [h2] at h1
    have h3 : 1 ≤ c.natAbs := by omega
    have := Nat.mul_le_mul_right (f0 i).natAbs h3
    omega
theorem kq_rel_or {f f0 : pz_P} (h : kq_rel f f0) : f0 = pz_0 ∨ pz_prim f0 := by
  rcases h with ⟨_, k⟩ | ⟨c, hc, _, k⟩
  · exact Or.inl k
  · exact Or.inr k
/-- what divides the later two divides the first, but for a number; by polynomials -/
def kq_D (f x y : pz_P) : Prop := ∀ G : pz_P, (∃ (c : Int) (T : pz_P) (N : Nat), c ≠ 0 ∧ pz_lt T N ∧ pz_sc c x = pz_mul T G) → (∃ (c : Int) (T : pz_P) (N : Nat), c ≠ 0 ∧ pz_lt T N ∧ pz_sc c y = pz_mul T G) → ∃ (c : Int) (T : pz_P) (N : Nat), c ≠ 0 ∧ pz_lt T N ∧ pz_sc c f = pz_mul T G
theorem kq_D.start (f g : pz_P) : kq_D f f g := fun _ h _ => h
theorem kq_D.start2 (f g : pz_P) : kq_D g f g := fun _ _ h => h
theorem kq_D.step {f x y r q : pz_P} {c0 c2 : Int} {nq : Nat} (h : kq_D f x y) (hc0 : c0 ≠ 0) (hq : pz_lt q nq) (hrel : pz_sc c0 x = pz_add (pz_mul q y) (pz_sc c2 r)) : kq_D f y r := by
  intro G hy hr
  refine h G ?_ hy
  obtain ⟨a, T, N, a0, aN, a1⟩ := hy
  obtain ⟨b, U, M, b0, bM, b1⟩ := hr
  refine ⟨b * (a * c0), pz_add (pz_sc b (pz_mul q T)) (pz_sc (a * c2) U), nq + N + M, fun e => ?_, ((((hq.mul (c := nq + N) aN (by omega)).sc b).mono (by omega)).add ((bM.sc _).mono (by omega))), ?_⟩
  · rcases Int.mul_eq_zero.mp e with k | k
    · exact b0 k
    · rcases Int.mul_eq_zero.mp k with k | k
      · exact a0 k
      · exact hc0 k
  · have e1 : pz_sc (b * (a * c0)) x = pz_sc (b * a) (pz_sc c0 x) := by rw [pz_sc_sc, Int.mul_assoc]
    rw [e1, hrel, pz_mul_addL, pz_mul_scL, pz_mul_scL, ← b1, pz_mul_assoc, ← a1, pz_mul_scR]
    funext i
    show b * a * (pz_mul q y i + c2 * r i) = b * (a * pz_mul q y i) + a * c2 * (b * r i)
    rw [Int.mul_add, Int.mul_assoc]
    congr 1
    rw [← Int.mul_assoc, ← Int.mul_assoc]
    congr 1
    rw [Int.mul_comm b a, Int.mul_assoc, Int.mul_assoc, Int.mul_comm b c2]
theorem kq_prim_const {u : pz_P} (h : pz_prim u) (h1 : pz_lt u 1) : ∀ i, (u i).natAbs ≤ 1 := fun i => by
  cases i with
  | zero =>
    have := h (u 0).natAbs (fun i => by
      cases i with
      | zero => exact Int.natAbs_dvd.mpr (Int.dvd_refl _)
      | succ i => rw [h1 (i + 1) (by omega)]; exact ⟨0, (Int.mul_zero _).symm⟩)
    omega
  | succ i => rw [h1 (i + 1) (by omega)]; exact Nat.zero_le _
def kq_C (A : Nat) (f0 g0 x y : pz_P) : Prop := ∃ df dg dx dy : Nat, df < 13 ∧ dg < 13 ∧ pz_lt f0 (df + 1) ∧ pz_lt g0 (dg + 1) ∧ dy < dx ∧ dx < 13 ∧ dy ≤ df ∧ dy ≤ dg ∧ pz_lt x (dx + 1) ∧ x dx ≠ 0 ∧ pz_lt y (dy + 1) ∧ y dy ≠ 0 ∧ pz_J f0 g0 df dg x y dx dy ∧ (∀ i, (x i).natAbs ≤ kq_F A (26 - 2 * dx)) ∧ (∀ i, (y i).natAbs ≤ kq_F A (26 - 2 * dx))
def kq_J (A : Nat) (f g x y : pz_P) : Prop := ∃ f0 g0 : pz_P, kq_rel f f0 ∧ kq_rel g g0 ∧ kq_D f0 x y ∧ kq_D g0 x y ∧ (x = pz_0 ∨ pz_prim x) ∧ (y = pz_0 ∨ pz_prim y) ∧ ((x = f0 ∧ y = g0) ∨ (y = pz_0 ∧ pz_lt x 13 ∧ ∀ i, (x i).natAbs ≤ kq_F A 24) ∨ kq_C A f0 g0 x y)
theorem kq_step {A : Nat} (hA : 1 ≤ A) {f g : pz_P} (hf : pz_lt f 13) (hg : pz_lt g 13) (hfA : ∀ i, (f i).natAbs ≤ A) (hgA : ∀ i, (g i).natAbs ≤ A) (x y q r r1 : pz_P) (db : Nat) (hJ : kq_J A f g x y) (hy : pz_lt y (db + 1)) (hyl : y db ≠ 0) {c0 : Int} (hc0 : c0 ≠ 0) (hrel : pz_sc c0 x = pz_add (pz_mul q y) r) (hq : pz_lt q 13) (hr : pz_lt r db) (hr1 : (r = pz_0 ∧ r1 = pz_0) ∨ ∃ c : Int, c ≠ 0 ∧ r = pz_sc c r1 ∧ pz_prim r1) : kq_J A f g y r1 := by
  obtain ⟨f0, g0, k1, k2, k3, k4, k5, k6, k7⟩ := hJ
  obtain ⟨c2, hc2, hrc, hp1⟩ : ∃ c : Int, c ≠ 0 ∧ r = pz_sc c r1 ∧ (r1 = pz_0 ∨ pz_prim r1) := by
    rcases hr1 with ⟨a, b⟩ | ⟨c, a, b, d⟩
    · exact ⟨1, by decide, by rw [a, b]; exact (pz_sc_one _).symm, Or.inl b⟩
    · exact ⟨c, a, b, Or.inr d⟩
  rw [hrc] at hrel
  have hr1l : pz_lt r1 db := fun i hi => by
    have h1 : c2 * r1 i = 0 := by rw [← hr i hi, hrc]; rfl
    rcases Int.mul_eq_zero.mp h1 with e | e
    · exact absurd e hc2
    · exact e
  have hf0 := kq_rel_lt k1 hf
  have hg0 := kq_rel_lt k2 hg
  have hf0A := kq_rel_le k1 hfA
  have hg0A := kq_rel_le k2 hgA
  refine ⟨f0, g0, k1, k2, k3.step hc0 hq hrel, k4.step hc0 hq hrel, k6, hp1, ?_⟩
  by_cases c9 : r1 = pz_0
  · refine Or.inr (Or.inl ⟨c9, ?_⟩)
    rcases k7 with ⟨e1, e2⟩ | ⟨e1, _⟩ | ⟨df, dg, dx, dy, a1, a2, a3, a4, a5, a6, a7, a8, a9, a10, a11, a12, a13, a14, a15⟩
    · rw [e2]
      exact ⟨hg0, fun i => Nat.le_trans (hg0A i) (kq_F_ge hA (by decide))⟩
    · rw [e1] at hyl
      exact absurd rfl hyl
    · exact ⟨a11.mono (by omega), fun i => Nat.le_trans (a15 i) (kq_F_mono hA (by omega))⟩
  · obtain ⟨dr, b1, b2, b3⟩ := kq_deg db r1 hr1l c9
    have hpr : pz_prim r1 := by
      rcases hp1 with e | e
      · exact absurd e c9
      · exact e
    refine Or.inr (Or.inr ?_)
    rcases k7 with ⟨e1, e2⟩ | ⟨e1, _⟩ | ⟨df, dg, dx, dy, a1, a2, a3, a4, a5, a6, a7, a8, a9, a10, a11, a12, a13, a14, a15⟩
    · subst e1
      subst e2
      have hdb : db < 13 := by
        by_cases e : db < 13
        · exact e
        · exact absurd (hg0 db (by omega)) hyl
      by_cases cx : pz_lt x db
      · have hq0 : q = pz_0 := pz_lt.zero _ (pz_deg_of hy hyl 0 13 q hq (fun i hi => by
          have h1 := congrFun hrel i
          have h2 : c0 * x i = pz_mul q y i + c2 * r1 i := h1
          rw [cx i (by omega), hr1l i (by omega), Int.mul_zero, Int.mul_zero] at h2
          omega))
        have hrel2 : pz_sc c0 x = pz_sc c2 r1 := by
          rw [hrel, hq0, pz_mul_0L]
          exact funext fun i => Int.zero_add _
        have hx0 : x ≠ pz_0 := fun e => c9 (pz_sc_0 hc2 (by rw [← hrel2, e]; exact funext fun i => Int.mul_zero _))
        have hpx : pz_prim x := by
          rcases k5 with e | e
          · exact absurd e hx0
          · exact e
        have hsz := kq_swap hpx hpr hc2 hrel2
        obtain ⟨df, d1, d2, d3⟩ := kq_deg db x cx hx0
        have hdr : dr ≤ df := by
          by_cases e : dr ≤ df
          · exact e
          · have h1 := hsz dr
            rw [d2 dr (by omega)] at h1
            exact absurd (Int.natAbs_eq_zero.mp h1) b3
        exact ⟨df, db, db, dr, by omega, hdb, d2, hy, b1, hdb, hdr, by omega, hy, hyl, b2, b3, (pz_J.start x y df db).step hy hyl b2 b1 hc0 hc2 hq hrel, fun i => Nat.le_trans (hg0A i) (kq_F_ge hA (by omega)), fun i => by rw [hsz i]; exact Nat.le_trans (hf0A i) (kq_F_ge hA (by omega))⟩
      · have hx0 : x ≠ pz_0 := fun e => cx (by rw [e]; exact fun i _ => rfl)
        obtain ⟨df, d1, d2, d3⟩ := kq_deg 13 x hf0 hx0
        have hdf : db ≤ df := by
          by_cases e : db ≤ df
          · exact e
          · exact absurd (d2.mono (by omega)) cx
        have hb := pz_bound hf0A hg0A hA d2 hy (pz_J.start x y df db) hdf hdf (Nat.le_refl _) hy hyl hr1l hc0 hc2 hq hrel hpr
        refine ⟨df, db, db, dr, d1, hdb, d2, hy, b1, hdb, by omega, by omega, hy, hyl, b2, b3, (pz_J.start x y df db).step hy hyl b2 b1 hc0 hc2 hq hrel, fun i => Nat.le_trans (hg0A i) (kq_F_ge hA (by omega)), fun i => Nat.le_trans (hb i) ?_⟩
        exact kq_F_mono hA (m := df + db - 2 * db + 2) (by omega)
    · rw [e1] at hyl
      exact absurd rfl hyl
    · have hdd : dy = db := kq_lead_eq a11 a12 hy hyl
      subst hdd
      have hb := pz_bound hf0A hg0A hA a3 a4 a13 (by omega) a7 a8 hy hyl hr1l hc0 hc2 hq hrel hpr
      refine ⟨df, dg, dy, dr, a1, a2, a3, a4, b1, by omega, by omega, by omega, hy, hyl, b2, b3, a13.step hy hyl b2 b1 hc0 hc2 hq hrel, fun i => Nat.le_trans (a15 i) (kq_F_mono hA (by omega)), fun i => Nat.le_trans (hb i) ?_⟩
      exact kq_F_mono hA (m := df + dg - 2 * dy + 2) (by omega)
def kq_fit (A : Nat) : Prop := 1 ≤ A ∧ (∀ d, d < 13 → 1 ≤ d → kq_F A (26 - 2 * d) * (2 * kq_F A (26 - 2 * d)) ^ (d + 1) < jB ^ 698) ∧ A * (2 * A) ^ 13 < jB ^ 698
theorem kq_fit18 : kq_fit (10 ^ 18) := by unfold kq_fit; decide +kernel
theorem kq_fit19 : kq_fit (10 ^ 18 * 13) := by unfold kq_fit; decide +kernel
theorem kq_fit51 : kq_fit (10 ^ 51) := by unfold kq_fit; decide +kernel
theorem kq_fits {A : Nat} (hA0 : kq_fit A) {f g : pz_P} (hf : pz_lt f 13) (hg : pz_lt g 13) (hfA : ∀ i, (f i).natAbs ≤ A) (hgA : ∀ i, (g i).natAbs ≤ A) (x y : pz_P) (db n : Nat) (hJ : kq_J A f g x y) (hx : pz_lt x (db + n)) (hxl : 1 ≤ n → x (db + n - 1) ≠ 0) (hy : pz_lt y (db + 1)) (hyl : y db ≠ 0) (hdb : db < 13) : ∃ al be : Nat, 1 ≤ be ∧ (∀ i, (x i).natAbs ≤ al) ∧ (∀ i, (y i).natAbs ≤ be) ∧ al * (2 * be) ^ n < jB ^ 698 := by
  have hA := hA0.1
  obtain ⟨f0, g0, k1, k2, k3, k4, k5, k6, k7⟩ := hJ
  rcases k7 with ⟨e1, e2⟩ | ⟨e1, _⟩ | ⟨df, dg, dx, dy, a1, a2, a3, a4, a5, a6, a7, a8, a9, a10, a11, a12, a13, a14, a15⟩
  · subst e1
    subst e2
    refine ⟨A, A, hA, kq_rel_le k1 hfA, kq_rel_le k2 hgA, ?_⟩
    have hn : n ≤ 13 := by
      rcases Nat.eq_zero_or_pos n with e | e
      · omega
      · by_cases e2 : n ≤ 13
        · exact e2
        · exact absurd (kq_rel_lt k1 hf (db + n - 1) (by omega)) (hxl e)
    exact Nat.lt_of_le_of_lt (Nat.mul_le_mul_left _ (Nat.pow_le_pow_right (by omega) hn)) hA0.2.2
  · rw [e1] at hyl
    exact absurd rfl hyl
  · refine ⟨kq_F A (26 - 2 * dx), kq_F A (26 - 2 * dx), Nat.le_trans hA (kq_F_ge hA (n := 26 - 2 * dx) (by omega)), a14, a15, ?_⟩
    have hn : n ≤ dx + 1 := by
      rcases Nat.eq_zero_or_pos n with e | e
      · omega
      · have := kq_lead_eq a9 a10 (hx.mono (by omega)) (hxl e)
        omega
    have h1 : 0 < 2 * kq_F A (26 - 2 * dx) := by
      have := Nat.le_trans hA (kq_F_ge hA (n := 26 - 2 * dx) (by omega))
      omega
    exact Nat.lt_of_le_of_lt (Nat.mul_le_mul_left _ (Nat.pow_le_pow_right h1 hn)) (hA0.2.1 dx a6 (by omega))
theorem kq_start {A : Nat} {f g x y : pz_P} (hx : kq_rel f x) (hy : kq_rel g y) : kq_J A f g x y :=
  ⟨x, y, hx, hy, kq_D.start x y, kq_D.start2 x y, kq_rel_or hx, kq_rel_or hy, Or.inl ⟨rfl, rfl⟩⟩
theorem pz_c_zeroR : ∀ (n : Nat) (u : pz_P), pz_c n u pz_0 = 0
  | 0, u => Int.mul_zero _
  | n + 1, u => by
    show u 0 * 0 + pz_c n (pz_tl u) pz_0 = 0
    rw [pz_c_zeroR n, Int.mul_zero]
    rfl
/-- the greatest common divisor: small, and it divides -/
theorem kq_end {A : Nat} (hA : 1 ≤ A) {f g G : pz_P} (hf : pz_lt f 13) (hfA : ∀ i, (f i).natAbs ≤ A) (hJ : kq_J A f g G pz_0) : pz_lt G 13 ∧ (∀ i, (G i).natAbs ≤ kq_F A 24) ∧ (G = pz_0 ∨ pz_prim G) ∧ (f ≠ pz_0 → pz_prim G ∧ ∃ (c : Int) (T : pz_P) (N : Nat), c ≠ 0 ∧ pz_lt T N ∧ pz_sc c f = pz_mul T G) := by
  obtain ⟨f0, g0, k1, k2, k3, k4, k5, k6, k7⟩ := hJ
  have hb : pz_lt G 13 ∧ ∀ i, (G i).natAbs ≤ kq_F A 24 := by
    rcases k7 with ⟨e1, e2⟩ | ⟨_, h⟩ | ⟨df, dg, dx, dy, a1, a2, a3, a4, a5, a6, a7, a8, a9, a10, a11, a12, a13, a14, a15⟩
    · rw [e1]
      exact ⟨kq_rel_lt k1 hf, fun i => Nat.le_trans (kq_rel_le k1 hfA i) (kq_F_ge hA (by decide))⟩
    · exact h
    · exact absurd rfl a12
  refine ⟨hb.1, hb.2, k5, fun hne => ?_⟩
  have hG1 : pz_sc 1 G = pz_mul (fun i => if i = 0 then 1 else 0) G := by
    rw [pz_sc_one]
    funext n
    cases n with
    | zero => exact (Int.one_mul _).symm
    | succ n =>
      show G (n + 1) = 1 * G (n + 1) + pz_c n (pz_tl (fun i => if i = 0 then 1 else 0)) G
      rw [pz_c_zeroL n (pz_tl fun i => if i = 0 then 1 else 0) G (fun i => rfl)]
      omega
  obtain ⟨c, T, N, hc, hN, hT⟩ := k3 G ⟨1, fun i => if i = 0 then 1 else 0, 1, by decide, fun i hi => if_neg (by omega), hG1⟩ ⟨1, pz_0, 0, by decide, fun i _ => rfl, by rw [pz_mul_0L]; exact funext fun i => rfl⟩
  rcases k1 with ⟨e, _⟩ | ⟨z, hz, e, hp⟩
  · exact absurd e hne
  · refine ⟨?_, c, pz_sc z T, N, hc, hN.sc z, ?_⟩
    · rcases k5 with h | h
      · have h1 : pz_sc c f0 = pz_0 := by
          rw [hT, h]
          exact funext fun n => pz_c_zeroR n T
        exact absurd (pz_sc_0 hc h1) (kq_prim_ne hp)
      · exact h
    · rw [pz_mul_scL, ← hT, e, pz_sc_sc, pz_sc_sc, Int.mul_comm]
theorem kq_ybound {A : Nat} (hA : 1 ≤ A) {f g x y : pz_P} (hgA : ∀ i, (g i).natAbs ≤ A) (hJ : kq_J A f g x y) : ∀ i, (y i).natAbs ≤ kq_F A 24 := by
  obtain ⟨f0, g0, k1, k2, k3, k4, k5, k6, k7⟩ := hJ
  rcases k7 with ⟨e1, e2⟩ | ⟨e1, _⟩ | ⟨df, dg, dx, dy, a1, a2, a3, a4, a5, a6, a7, a8, a9, a10, a11, a12, a13, a14, a15⟩
  · rw [e2]
    exact fun i => Nat.le_trans (kq_rel_le k2 hgA i) (kq_F_ge hA (by decide))
  · rw [e1]
    exact fun i => Nat.zero_le _
  · exact fun i => Nat.le_trans (a15 i) (kq_F_mono hA (by omega))
