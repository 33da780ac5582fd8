/-! Greatest common divisors of polynomials: primitive, the leading coefficient above 0. -/
theorem zs_front (f : Nat → Int) : ∀ n, zs (n + 1) f = f 0 + zs n (fun u => f (u + 1))
  | 0 => by
    show zs 0 f + f 0 = f 0 + zs 0 _
    show (0 : Int) + f 0 = f 0 + 0
    omega
  | n + 1 => by
    show zs (n + 1) f + f (n + 1) = f 0 + (zs n (fun u => f (u + 1)) + f (n + 1))
    rw [zs_front f n]
    omega
theorem zs_rev (f : Nat → Int) : ∀ n, zs n (fun u => f (n - 1 - u)) = zs n f
  | 0 => rfl
  | n + 1 => by
    rw [zs_front]
    show f (n + 1 - 1 - 0) + zs n (fun u => f (n + 1 - 1 - (u + 1))) = zs n f + f n
    rw [zs_congr (f := fun u => f (n + 1 - 1 - (u + 1))) (g := fun u => f (n - 1 - u)) (fun u hu => congrArg f (by omega)), zs_rev f n]
    rw [show n + 1 - 1 - 0 = n by omega]
    omega
theorem pz_mul_comm (A B : pz_P) : pz_mul A B = pz_mul B A := funext fun e => by
  show pz_c e A B = pz_c e B A
  rw [pz_c_zs, pz_c_zs, ← zs_rev]
  refine zs_congr (fun u hu => ?_)
  show A (e + 1 - 1 - u) * B (e - (e + 1 - 1 - u)) = B u * A (e - u)
  rw [show e + 1 - 1 - u = e - u by omega, show e - (e - u) = u by omega, Int.mul_comm]
/-- G is primitive, its leading coefficient (at dg) is above 0, it divides A and B, and what divides both divides it -/
def GP (A B G : pz_P) (dg : Nat) : Prop := pz_prim G ∧ 0 < G dg ∧ (∀ i, dg < i → G i = 0) ∧ (∃ (S : pz_P) (N : Nat), pz_lt S N ∧ A = pz_mul S G) ∧ (∃ (S : pz_P) (N : Nat), pz_lt S N ∧ B = pz_mul S G) ∧ ∀ H, qdv H A → qdv H B → qdv H G
theorem qdv_exact {A G : pz_P} (hG : pz_prim G) (h : qdv G A) : ∃ (S : pz_P) (N : Nat), pz_lt S N ∧ A = pz_mul S G := by
  obtain ⟨c, T, N, hc, hT, e⟩ := h
  obtain ⟨S, h1, h2⟩ := pz_exact hc hG e
  refine ⟨S, N, fun i hi => ?_, h2⟩
  have q := hT i hi
  rw [h1] at q
  have q : c * S i = 0 := q
  rcases Int.mul_eq_zero.mp q with z | z
  · exact absurd z hc
  · exact z
theorem qdv_of {A G S : pz_P} {N : Nat} (hS : pz_lt S N) (h : A = pz_mul S G) : qdv G A := ⟨1, S, N, by decide, hS, by rw [pz_sc_one]; exact h⟩
theorem qdv.tr {F G H : pz_P} (h : qdv F G) (k : qdv G H) : qdv F H := by
  obtain ⟨c, T, N, hc, hT, e⟩ := k
  refine qdv.un hc ?_
  rw [e]
  exact h.mul hT
theorem pz_pp {Z : pz_P} {dz : Nat} (h0 : Z dz ≠ 0) : ∃ (G : pz_P) (c : Int), c ≠ 0 ∧ Z = pz_sc c G ∧ pz_prim G ∧ 0 < G dz := by
  obtain ⟨t, u, ht, hu, hp⟩ := pz_content (Z dz).natAbs Z dz h0 (Nat.le_refl _)
  have hne : u dz ≠ 0 := fun q => h0 (by
    rw [hu]
    show (t : Int) * u dz = 0
    rw [q, Int.mul_zero])
  by_cases c : 0 < u dz
  · exact ⟨u, t, by omega, hu, hp, c⟩
  · refine ⟨pz_sc (-1) u, -t, by omega, ?_, fun k hk => hp k (fun i => ?_), ?_⟩
    · rw [pz_sc_sc, hu]
      congr 1
      omega
    · have q := hk i
      have q : (k : Int) ∣ -1 * u i := q
      rw [show -1 * u i = -(u i) by omega] at q
      exact Int.dvd_neg.mp q
    · show 0 < -1 * u dz
      omega
theorem gp_of {A B Z : pz_P} {dz : Nat} (hz : ∀ i, dz < i → Z i = 0) (h0 : Z dz ≠ 0) (hD : ∀ G, (qdv G A ∧ qdv G B) ↔ qdv G Z) : ∃ (G : pz_P) (c : Int), c ≠ 0 ∧ Z = pz_sc c G ∧ GP A B G dz := by
  obtain ⟨G, c, hc, hZ, hp, hl⟩ := pz_pp h0
  have hGZ : qdv G Z := by
    rw [hZ]
    exact (qdv.rf G).sc c
  have hAB := (hD G).mpr hGZ
  refine ⟨G, c, hc, hZ, hp, hl, fun i hi => ?_, qdv_exact hp hAB.1, qdv_exact hp hAB.2, fun H h1 h2 => ?_⟩
  · have q := hz i hi
    rw [hZ] at q
    have q : c * G i = 0 := q
    rcases Int.mul_eq_zero.mp q with z | z
    · exact absurd z hc
    · exact z
  · have q := (hD H).mp ⟨h1, h2⟩
    rw [hZ] at q
    exact q.un hc
/-- degrees and leading coefficients of a product -/
theorem pz_mul_deg {A S G : pz_P} {m dg N : Nat} (hA : pz_lt A (m + 1)) (hA0 : A m ≠ 0) (hG : pz_lt G (dg + 1)) (hG0 : G dg ≠ 0) (hS : pz_lt S N) (e : A = pz_mul S G) : ∃ ds, ds + dg = m ∧ pz_lt S (ds + 1) ∧ S ds ≠ 0 ∧ A m = S ds * G dg := by
  have hne : S ≠ pz_0 := fun q => hA0 (by rw [e, q, pz_mul_0L]; rfl)
  obtain ⟨ds, h1, h2, h3⟩ := kq_deg N S hS hne
  have hl := pz_c_lead ds S G dg h2 hG
  have hl2 : A (ds + dg) = S ds * G dg := by
    rw [e]
    exact hl
  have hm : ds + dg = m := by
    refine kq_lead_eq (u := A) (fun i hi => ?_) (by rw [hl2]; exact Int.mul_ne_zero h3 hG0) hA hA0
    rw [e]
    exact pz_lt.mul h2 hG (c := ds + dg + 1) (by omega) i hi
  exact ⟨ds, hm, h2, h3, by rw [← hm]; exact hl2⟩
theorem GP.lead {A B G : pz_P} {m dg : Nat} (h : GP A B G dg) (hA : pz_lt A (m + 1)) (hA0 : A m ≠ 0) : dg ≤ m ∧ G dg ∣ A m := by
  obtain ⟨hp, hl, hz, ⟨S, N, hS, e⟩, _, _⟩ := h
  obtain ⟨ds, h1, h2, h3, h4⟩ := pz_mul_deg (dg := dg) hA hA0 (fun i hi => hz i (by omega)) (by omega) hS e
  exact ⟨by omega, S ds, by rw [h4, Int.mul_comm]⟩
theorem GP.size {A B G : pz_P} {m dg M : Nat} (h : GP A B G dg) (hA : pz_lt A (m + 1)) (hA0 : A m ≠ 0) (hm : m ≤ 12) (hM : ∀ i, (A i).natAbs ≤ M) : ∀ i, (G i).natAbs ≤ M * 13 ^ 13 * 27 ^ 12 := by
  obtain ⟨hp, hl, hz, ⟨S, N, hS, e⟩, _, _⟩ := h
  obtain ⟨ds, h1, h2, h3, h4⟩ := pz_mul_deg (dg := dg) hA hA0 (fun i hi => hz i (by omega)) (by omega) hS e
  rw [pz_mul_comm] at e
  exact pz_factor (hA.mono (by omega)) (fun i hi => hz i (by omega)) (h2.mono (by omega)) e ⟨m, hA0⟩ hM
theorem GP.sy {A B G : pz_P} {dg : Nat} (h : GP A B G dg) : GP B A G dg := ⟨h.1, h.2.1, h.2.2.1, h.2.2.2.2.1, h.2.2.2.1, fun H h1 h2 => h.2.2.2.2.2 H h2 h1⟩
/-- there is one only -/
theorem qdv_prim {G H : pz_P} {dg dh : Nat} (hG : pz_prim G) (hg : 0 < G dg) (hgz : ∀ i, dg < i → G i = 0) (hH : pz_prim H) (hh : 0 < H dh) (hhz : ∀ i, dh < i → H i = 0) (h1 : qdv G H) (h2 : qdv H G) : dg = dh ∧ G = H := by
  obtain ⟨S, N, hS, e1⟩ := qdv_exact hG h1
  obtain ⟨T, K, hT, e2⟩ := qdv_exact hH h2
  obtain ⟨ds, a1, a2, a3, a4⟩ := pz_mul_deg (A := H) (m := dh) (fun i hi => hhz i (by omega)) (by omega) (G := G) (dg := dg) (fun i hi => hgz i (by omega)) (by omega) hS e1
  obtain ⟨dt, b1, b2, b3, b4⟩ := pz_mul_deg (A := G) (m := dg) (fun i hi => hgz i (by omega)) (by omega) (G := H) (dg := dh) (fun i hi => hhz i (by omega)) (by omega) hT e2
  have hd : dg = dh := by omega
  have ds0 : ds = 0 := by omega
  subst ds0
  refine ⟨hd, ?_⟩
  have hc : H = pz_sc (S 0) G := by
    rw [e1]
    funext i
    show pz_c i S G = S 0 * G i
    rw [pz_c_zs, zs_one (p := 0) (by omega) (fun j hj hn => by rw [a2 j (by omega), Int.zero_mul]), Nat.sub_zero]
  have hs1 : (S 0).natAbs = 1 := hH (S 0).natAbs (fun i => by
    rw [hc]
    show ((S 0).natAbs : Int) ∣ S 0 * G i
    exact Int.dvd_trans (Int.natAbs_dvd.mpr (Int.dvd_refl _)) (Int.dvd_mul_right _ _))
  have hs2 : S 0 = 1 := by
    rcases Int.natAbs_eq (S 0) with q | q
    · omega
    · have q2 : H dh = S 0 * G dh := congrFun hc dh
      rw [← hd] at q2
      have q3 : S 0 = -1 := by omega
      rw [q3] at q2
      rw [hd] at q2 hg
      omega
  rw [hc, hs2, pz_sc_one]
theorem GP.one {A B G H : pz_P} {dg dh : Nat} (g : GP A B G dg) (h : GP A B H dh) : dg = dh ∧ G = H := by
  obtain ⟨g1, g2, g3, ⟨S1, N1, s1, e1⟩, ⟨S2, N2, s2, e2⟩, g6⟩ := g
  obtain ⟨h1, h2, h3, ⟨T1, K1, t1, f1⟩, ⟨T2, K2, t2, f2⟩, h6⟩ := h
  exact qdv_prim g1 g2 g3 h1 h2 h3 (h6 G (qdv_of s1 e1) (qdv_of s2 e2)) (g6 H (qdv_of t1 f1) (qdv_of t2 f2))
