/-! The remainders of two polynomials without their contents are small. -/
theorem pz_c_dot : ∀ (n : Nat) (u f : pz_P), pz_c n u f = pz_dot (n + 1) (fun i => f (n - i)) u
  | 0, u, f => by
    show u 0 * f 0 = f 0 * u 0 + 0
    rw [Int.mul_comm]
    omega
  | n + 1, u, f => by
    show u 0 * f (n + 1) + pz_c n (pz_tl u) f = f (n + 1 - 0) * u 0 + pz_dot (n + 1) (pz_tl (fun i => f (n + 1 - i))) (pz_tl u)
    have e : pz_tl (fun i => f (n + 1 - i)) = fun i => f (n - i) := funext fun i => by show f (n + 1 - (i + 1)) = f (n - i); rw [show n + 1 - (i + 1) = n - i by omega]
    rw [e, pz_c_dot n, Int.mul_comm]
    rfl
def pz_mask (n : Nat) (f : pz_P) : pz_P := fun i => if i ≤ n then f (n - i) else 0
theorem pz_c_dotp {p : Nat} {u : pz_P} (hu : pz_lt u p) (n : Nat) (f : pz_P) : pz_c n u f = pz_dot p (pz_mask n f) u := by
  have h1 := pz_dot_split (n + 1) p (pz_mask n f) u
  have h2 := pz_dot_split p (n + 1) (pz_mask n f) u
  rw [show n + 1 + p = p + (n + 1) by omega, h2] at h1
  rw [pz_dot_zero (n + 1) (fun i => pz_mask n f (p + i)) (fun i => u (p + i)) (fun i _ => by show _ * u (p + i) = 0; rw [hu (p + i) (by omega), Int.mul_zero])] at h1
  rw [pz_dot_zero p (fun i => pz_mask n f (n + 1 + i)) (fun i => u (n + 1 + i)) (fun i _ => by show (if n + 1 + i ≤ n then f (n - (n + 1 + i)) else 0) * _ = 0; rw [if_neg (by omega), Int.zero_mul])] at h1
  rw [pz_dot_congr (n + 1) (pz_mask n f) (fun i => f (n - i)) u (fun i hi => by show (if i ≤ n then f (n - i) else 0) = _; rw [if_pos (by omega)])] at h1
  rw [pz_c_dot]
  omega
/-- two factors with small coefficients, so that M coefficients from the place j on are 0 -/
theorem pz_comb {f g : pz_P} {p q j M A : Nat} (hf : ∀ i, (f i).natAbs ≤ A) (hg : ∀ i, (g i).natAbs ≤ A) (hA : 1 ≤ A) (hM : M < p + q) : ∃ u v : pz_P, pz_lt u p ∧ pz_lt v q ∧ (∃ i, u i ≠ 0 ∨ v i ≠ 0) ∧ (∀ m, j ≤ m → m < j + M → pz_add (pz_mul u f) (pz_mul v g) m = 0) ∧ (∀ m, (pz_add (pz_mul u f) (pz_mul v g) m).natAbs ≤ (p + q) * (A * (2 * (p + q) * A) ^ M)) ∧ (∀ i, (u i).natAbs ≤ (2 * (p + q) * A) ^ M) ∧ (∀ i, (v i).natAbs ≤ (2 * (p + q) * A) ^ M) := by
  have hrow : ∀ n i, i < p + q → ((fun i => if i < p then pz_mask n f i else pz_mask n g (i - p)) i : Int).natAbs ≤ A := fun n i _ => by
    show (if i < p then (if i ≤ n then f (n - i) else 0) else (if i - p ≤ n then g (n - (i - p)) else 0)).natAbs ≤ A
    split
    · split
      · exact hf _
      · exact Nat.zero_le _
    · split
      · exact hg _
      · exact Nat.zero_le _
  obtain ⟨x, hx1, hx2, ⟨i0, hi0, hx3⟩, hx4⟩ := pz_siegel (M := M) (N := p + q) (A := A) (fun m i => if i < p then pz_mask (j + m) f i else pz_mask (j + m) g (i - p)) (fun m i _ hi => hrow (j + m) i hi) hM hA
  have hu : pz_lt (fun i => if i < p then x i else 0) p := fun i hi => by show (if i < p then x i else 0) = 0; rw [if_neg (by omega)]
  have hv : pz_lt (fun i => x (p + i)) q := fun i hi => hx2 (p + i) (by omega)
  have key : ∀ n, pz_add (pz_mul (fun i => if i < p then x i else 0) f) (pz_mul (fun i => x (p + i)) g) n = pz_dot (p + q) (fun i => if i < p then pz_mask n f i else pz_mask n g (i - p)) x := fun n => by
    show pz_c n (fun i => if i < p then x i else 0) f + pz_c n (fun i => x (p + i)) g = _
    rw [pz_c_dotp hu, pz_c_dotp hv, pz_dot_split]
    rw [pz_dot_congrR p (pz_mask n f) (fun i => if i < p then x i else 0) x (fun i hi => by rw [if_pos hi])]
    rw [pz_dot_congr p (fun i => if i < p then pz_mask n f i else pz_mask n g (i - p)) (pz_mask n f) x (fun i hi => by rw [if_pos hi])]
    rw [pz_dot_congr q (fun i => if p + i < p then pz_mask n f (p + i) else pz_mask n g (p + i - p)) (pz_mask n g) (fun i => x (p + i)) (fun i hi => by rw [if_neg (by omega), show p + i - p = i by omega])]
  refine ⟨fun i => if i < p then x i else 0, fun i => x (p + i), hu, hv, ?_, fun m h1 h2 => ?_, fun m => ?_, fun i => ?_, fun i => hx1 _⟩
  · by_cases c : i0 < p
    · exact ⟨i0, Or.inl (by show (if i0 < p then x i0 else 0) ≠ 0; rw [if_pos c]; exact hx3)⟩
    · exact ⟨i0 - p, Or.inr (by show x (p + (i0 - p)) ≠ 0; rw [show p + (i0 - p) = i0 by omega]; exact hx3)⟩
  · rw [key m]
    have := hx4 (m - j) (by omega)
    rw [show j + (m - j) = m by omega] at this
    exact this
  · rw [key m]
    exact pz_dot_abs (p + q) _ x (fun i hi => hrow m i hi) (fun i _ => hx1 i)
  · show (if i < p then x i else 0).natAbs ≤ _
    split
    · exact hx1 i
    · exact Nat.zero_le _
/-- what is made of f and g of a low degree is made of x and y -/
def pz_J (f g : pz_P) (df dg : Nat) (x y : pz_P) (dx dy : Nat) : Prop := ∀ e, e ≤ dy → ∀ u v : pz_P, pz_lt u (dg - e + 1) → pz_lt v (df - e + 1) → pz_lt (pz_add (pz_mul u f) (pz_mul v g)) e →
  ∃ (c : Int) (u' v' : pz_P), c ≠ 0 ∧ pz_sc c (pz_add (pz_mul u f) (pz_mul v g)) = pz_add (pz_mul u' x) (pz_mul v' y) ∧ pz_lt u' (dy - e + 1) ∧ pz_lt v' (dx - e + 1) ∧ (u' = pz_0 → v' = pz_0 → u = pz_0 ∧ v = pz_0)
theorem pz_sc_one (u : pz_P) : pz_sc 1 u = u := funext fun i => Int.one_mul _
theorem pz_J.start (f g : pz_P) (df dg : Nat) : pz_J f g df dg f g df dg := fun e he u v hu hv hw =>
  ⟨1, u, v, by decide, pz_sc_one _, hu, hv, fun a b => ⟨a, b⟩⟩
theorem pz_sc_0 {c : Int} (hc : c ≠ 0) {u : pz_P} (h : pz_sc c u = pz_0) : u = pz_0 := funext fun i => by
  have h1 : c * u i = 0 := congrFun h i
  rcases Int.mul_eq_zero.mp h1 with q | q
  · exact absurd q hc
  · exact q
theorem pz_mul_0L (f : pz_P) : pz_mul pz_0 f = pz_0 := funext fun n => pz_c_zeroL n _ f (fun _ => rfl)
theorem pz_J.step {f g x y r q : pz_P} {df dg dx dy dr : Nat} {c0 c2 : Int} (hJ : pz_J f g df dg x y dx dy) (hy : pz_lt y (dy + 1)) (hyl : y dy ≠ 0) (hr : pz_lt r (dr + 1)) (hrd : dr < dy) (hc0 : c0 ≠ 0) (hc2 : c2 ≠ 0) {nq : Nat} (hq : pz_lt q nq)
    (hrel : pz_sc c0 x = pz_add (pz_mul q y) (pz_sc c2 r)) : pz_J f g df dg y r dy dr := by
  intro e he u v hu hv hw
  obtain ⟨c, u', v', h1, h2, h3, h4, h5⟩ := hJ e (by omega) u v hu hv hw
  have hid : pz_sc (c0 * c) (pz_add (pz_mul u f) (pz_mul v g)) = pz_add (pz_mul (pz_add (pz_mul u' q) (pz_sc c0 v')) y) (pz_mul (pz_sc c2 u') r) := by
    have e1 : pz_sc (c0 * c) (pz_add (pz_mul u f) (pz_mul v g)) = pz_sc c0 (pz_sc c (pz_add (pz_mul u f) (pz_mul v g))) := funext fun i => Int.mul_assoc _ _ _
    rw [e1, h2]
    have e2 : pz_sc c0 (pz_add (pz_mul u' x) (pz_mul v' y)) = pz_add (pz_mul u' (pz_sc c0 x)) (pz_mul (pz_sc c0 v') y) := by
      rw [pz_mul_scR, pz_mul_scL]
      exact funext fun i => Int.mul_add _ _ _
    rw [e2, hrel, pz_mul_addR, pz_mul_addL, pz_mul_assoc, pz_mul_scR, pz_mul_scL c2]
    funext i
    show (pz_mul u' (pz_mul q y) i + pz_sc c2 (pz_mul u' r) i) + pz_mul (pz_sc c0 v') y i = (pz_mul u' (pz_mul q y) i + pz_mul (pz_sc c0 v') y i) + pz_sc c2 (pz_mul u' r) i
    omega
  have hv'' : pz_lt (pz_sc c2 u') (dy - e + 1) := h3.sc c2
  have hprod : pz_lt (pz_mul (pz_add (pz_mul u' q) (pz_sc c0 v')) y) (dr - e + 1 + dy) := fun i hi => by
    have k1 : pz_sc (c0 * c) (pz_add (pz_mul u f) (pz_mul v g)) i = 0 := (hw.sc _) i (by omega)
    have k2 : pz_mul (pz_sc c2 u') r i = 0 := (pz_lt.mul (c := dr - e + 1 + dy) hv'' hr (by omega)) i hi
    have k3 := congrFun hid i
    rw [k1] at k3
    have k4 : (0 : Int) = pz_mul (pz_add (pz_mul u' q) (pz_sc c0 v')) y i + pz_mul (pz_sc c2 u') r i := k3
    omega
  have hbig : pz_lt (pz_add (pz_mul u' q) (pz_sc c0 v')) (dy - e + 1 + nq + (dx - e + 1)) := pz_lt.add ((pz_lt.mul (c := dy - e + 1 + nq) h3 hq (by omega)).mono (by omega)) ((h4.sc c0).mono (by omega))
  refine ⟨c0 * c, pz_add (pz_mul u' q) (pz_sc c0 v'), pz_sc c2 u', fun h => ?_, hid, pz_deg_of hy hyl (dr - e + 1) _ _ hbig hprod, hv'', fun a b => ?_⟩
  · rcases Int.mul_eq_zero.mp h with k | k
    · exact hc0 k
    · exact h1 k
  · have k1 := pz_sc_0 hc2 b
    rw [k1, pz_mul_0L] at a
    have k2 : pz_sc c0 v' = pz_0 := by
      funext i
      have k3 : pz_0 i + pz_sc c0 v' i = 0 := congrFun a i
      have k4 : pz_0 i = 0 := rfl
      show pz_sc c0 v' i = 0
      omega
    exact h5 k1 (pz_sc_0 hc0 k2)
theorem pz_cd {m : Nat} {n : Int} : (m : Int) ∣ n ↔ m ∣ n.natAbs := by
  rw [← Int.natAbs_dvd_natAbs, Int.natAbs_natCast]
/-- no number but 1 and -1 divides all coefficients -/
def pz_prim (y : pz_P) : Prop := ∀ k : Nat, (∀ i, (k : Int) ∣ y i) → k = 1
theorem pz_prim_dvd {y : pz_P} (h : pz_prim y) {C z : Int} (hC : C ≠ 0) (hd : ∀ i, C ∣ z * y i) : C ∣ z := by
  have hg : 0 < Nat.gcd C.natAbs z.natAbs := Nat.gcd_pos_of_pos_left _ (by omega)
  have h1 : C.natAbs / Nat.gcd C.natAbs z.natAbs = 1 := by
    refine h _ (fun i => ?_)
    have k1 : C.natAbs ∣ z.natAbs * (y i).natAbs := by
      have := Int.natAbs_dvd_natAbs.mpr (hd i)
      rwa [Int.natAbs_mul] at this
    obtain ⟨c', hc'⟩ := Nat.gcd_dvd_left C.natAbs z.natAbs
    obtain ⟨z', hz'⟩ := Nat.gcd_dvd_right C.natAbs z.natAbs
    have hcop : Nat.Coprime (C.natAbs / Nat.gcd C.natAbs z.natAbs) (z.natAbs / Nat.gcd C.natAbs z.natAbs) := Nat.coprime_div_gcd_div_gcd hg
    have k2 : C.natAbs / Nat.gcd C.natAbs z.natAbs ∣ (z.natAbs / Nat.gcd C.natAbs z.natAbs) * (y i).natAbs := by
      obtain ⟨m, hm⟩ := k1
      refine ⟨m, ?_⟩
      have e1 : Nat.gcd C.natAbs z.natAbs * (C.natAbs / Nat.gcd C.natAbs z.natAbs) = C.natAbs := Nat.mul_div_cancel' (Nat.gcd_dvd_left _ _)
      have e2 : Nat.gcd C.natAbs z.natAbs * (z.natAbs / Nat.gcd C.natAbs z.natAbs) = z.natAbs := Nat.mul_div_cancel' (Nat.gcd_dvd_right _ _)
      refine Nat.eq_of_mul_eq_mul_left hg ?_
      rw [← Nat.mul_assoc, e2, ← Nat.mul_assoc, e1]
      exact hm
    have k3 := Nat.Coprime.dvd_of_dvd_mul_left hcop k2
    exact pz_cd.mpr k3
  have h2 : Nat.gcd C.natAbs z.natAbs = C.natAbs := by
    have e1 : Nat.gcd C.natAbs z.natAbs * (C.natAbs / Nat.gcd C.natAbs z.natAbs) = C.natAbs := Nat.mul_div_cancel' (Nat.gcd_dvd_left _ _)
    rw [h1, Nat.mul_one] at e1
    exact e1
  have h3 : C.natAbs ∣ z.natAbs := by
    rw [← h2]
    exact Nat.gcd_dvd_right _ _
  exact Int.natAbs_dvd_natAbs.mp h3
/-- the next remainder, if no number divides it, is small -/
theorem pz_bound {f g x y r q : pz_P} {df dg dx dy A : Nat} {c0 c2 : Int} (hf : ∀ i, (f i).natAbs ≤ A) (hg : ∀ i, (g i).natAbs ≤ A) (hA : 1 ≤ A) (hfd : pz_lt f (df + 1)) (hgd : pz_lt g (dg + 1)) (hJ : pz_J f g df dg x y dx dy) (hdx : dy ≤ dx) (hdf : dy ≤ df) (hdg : dy ≤ dg) (hy : pz_lt y (dy + 1)) (hyl : y dy ≠ 0) (hr : pz_lt r dy) (hc0 : c0 ≠ 0) (hc2 : c2 ≠ 0) {nq : Nat} (hq : pz_lt q nq)
    (hrel : pz_sc c0 x = pz_add (pz_mul q y) (pz_sc c2 r)) (hp : pz_prim r) : ∀ i, (r i).natAbs ≤ (df + dg - 2 * dy + 2) * (A * (2 * (df + dg - 2 * dy + 2) * A) ^ (df + dg - 2 * dy + 1)) := by
  obtain ⟨u, v, hu, hv, hne, hz, hb, -, -⟩ := pz_comb (f := f) (g := g) (p := dg - dy + 1) (q := df - dy + 1) (j := dy) (M := df + dg - 2 * dy + 1) (A := A) hf hg hA (by omega)
  have hw : pz_lt (pz_add (pz_mul u f) (pz_mul v g)) dy := fun i hi => by
    by_cases c : i < dy + (df + dg - 2 * dy + 1)
    · exact hz i hi c
    · have k1 : pz_mul u f i = 0 := (pz_lt.mul (c := df + dg - dy + 1) hu hfd (by omega)) i (by omega)
      have k2 : pz_mul v g i = 0 := (pz_lt.mul (c := df + dg - dy + 1) hv hgd (by omega)) i (by omega)
      show pz_mul u f i + pz_mul v g i = 0
      rw [k1, k2]
      rfl
  obtain ⟨c, u', v', h1, h2, h3, h4, h5⟩ := hJ dy (Nat.le_refl _) u v hu hv hw
  have hid : pz_sc (c0 * c) (pz_add (pz_mul u f) (pz_mul v g)) = pz_add (pz_mul (pz_add (pz_mul u' q) (pz_sc c0 v')) y) (pz_mul (pz_sc c2 u') r) := by
    have e1 : pz_sc (c0 * c) (pz_add (pz_mul u f) (pz_mul v g)) = pz_sc c0 (pz_sc c (pz_add (pz_mul u f) (pz_mul v g))) := funext fun i => Int.mul_assoc _ _ _
    rw [e1, h2]
    have e2 : pz_sc c0 (pz_add (pz_mul u' x) (pz_mul v' y)) = pz_add (pz_mul u' (pz_sc c0 x)) (pz_mul (pz_sc c0 v') y) := by
      rw [pz_mul_scR, pz_mul_scL]
      exact funext fun i => Int.mul_add _ _ _
    rw [e2, hrel, pz_mul_addR, pz_mul_addL, pz_mul_assoc, pz_mul_scR, pz_mul_scL c2]
    funext i
    show (pz_mul u' (pz_mul q y) i + pz_sc c2 (pz_mul u' r) i) + pz_mul (pz_sc c0 v') y i = (pz_mul u' (pz_mul q y) i + pz_mul (pz_sc c0 v') y i) + pz_sc c2 (pz_mul u' r) i
    omega
  have hconst : ∀ i, pz_mul (pz_sc c2 u') r i = c2 * u' 0 * r i := fun i => by
    have hl : pz_lt (pz_sc c2 u') 1 := (h3.mono (by omega)).sc c2
    cases i with
    | zero => rfl
    | succ i =>
      show c2 * u' 0 * r (i + 1) + pz_c i (pz_tl (pz_sc c2 u')) r = c2 * u' 0 * r (i + 1)
      rw [pz_c_zeroL i (pz_tl (pz_sc c2 u')) r (fun k => hl (k + 1) (by omega))]
      omega
  have hprod : pz_lt (pz_mul (pz_add (pz_mul u' q) (pz_sc c0 v')) y) (0 + dy) := fun i hi => by
    have k1 : pz_sc (c0 * c) (pz_add (pz_mul u f) (pz_mul v g)) i = 0 := (hw.sc _) i (by omega)
    have k2 : pz_mul (pz_sc c2 u') r i = 0 := by rw [hconst i, hr i (by omega), Int.mul_zero]
    have k3 := congrFun hid i
    rw [k1] at k3
    have k4 : (0 : Int) = pz_mul (pz_add (pz_mul u' q) (pz_sc c0 v')) y i + pz_mul (pz_sc c2 u') r i := k3
    omega
  have hbig : pz_lt (pz_add (pz_mul u' q) (pz_sc c0 v')) (1 + nq + (dx - dy + 1)) := pz_lt.add ((pz_lt.mul (a := 1) (c := 1 + nq) (h3.mono (by omega)) hq (by omega)).mono (by omega)) ((h4.sc c0).mono (by omega))
  have hzero := pz_lt.zero _ (pz_deg_of hy hyl 0 _ _ hbig hprod)
  have hmain : ∀ i, c0 * c * pz_add (pz_mul u f) (pz_mul v g) i = c2 * u' 0 * r i := fun i => by
    have k3 := congrFun hid i
    have k4 : c0 * c * pz_add (pz_mul u f) (pz_mul v g) i = pz_mul (pz_add (pz_mul u' q) (pz_sc c0 v')) y i + pz_mul (pz_sc c2 u') r i := k3
    rw [hzero, pz_mul_0L, hconst i] at k4
    have k5 : pz_0 i = 0 := rfl
    rw [k5] at k4
    omega
  have hC : c0 * c ≠ 0 := fun h => by
    rcases Int.mul_eq_zero.mp h with k | k
    · exact hc0 k
    · exact h1 k
  have hz0 : c2 * u' 0 ≠ 0 := fun h => by
    have k0 : u' 0 = 0 := by
      rcases Int.mul_eq_zero.mp h with k | k
      · exact absurd k hc2
      · exact k
    have k1 : u' = pz_0 := funext fun i => by
      cases i with
      | zero => exact k0
      | succ i => exact h3 (i + 1) (by omega)
    have k2 : v' = pz_0 := by
      rw [k1, pz_mul_0L] at hzero
      refine pz_sc_0 hc0 (funext fun i => ?_)
      have k3 : pz_0 i + pz_sc c0 v' i = 0 := congrFun hzero i
      have k4 : pz_0 i = 0 := rfl
      show pz_sc c0 v' i = 0
      omega
    obtain ⟨k3, k4⟩ := h5 k1 k2
    obtain ⟨i, k5 | k5⟩ := hne
    · exact k5 (congrFun k3 i)
    · exact k5 (congrFun k4 i)
  obtain ⟨t, ht⟩ := pz_prim_dvd hp hC (fun i => ⟨_, (hmain i).symm⟩)
  have ht0 : t ≠ 0 := fun h => by rw [h, Int.mul_zero] at ht; exact hz0 ht
  intro i
  have k1 : c0 * c * pz_add (pz_mul u f) (pz_mul v g) i = c0 * c * (t * r i) := by rw [hmain i, ht, Int.mul_assoc]
  have k2 := Int.eq_of_mul_eq_mul_left hC k1
  have k3 := hb i
  rw [k2, Int.natAbs_mul] at k3
  have k4 : 1 ≤ t.natAbs := by omega
  have k5 : (r i).natAbs ≤ t.natAbs * (r i).natAbs := by
    have := Nat.mul_le_mul_right (r i).natAbs k4
    omega
  have e3 : dg - dy + 1 + (df - dy + 1) = df + dg - 2 * dy + 2 := by omega
  rw [e3] at k3
  exact Nat.le_trans k5 k3
