/-! The roots of the class: takePrimitive gives the greatest common divisor itself. -/
theorem fdg_top {f : Nat → Int} {k d : Nat} (hd : d < k) (h1 : ∀ i, d < i → f i = 0) (h2 : f d ≠ 0) : fdg f k = d + 1 := fdg_of (by omega) (fun i a b => h1 i (by omega)) (Or.inr (by rw [Nat.add_sub_cancel]; exact h2))
theorem shg_prim {G : pz_P} {dg ld q : Nat} (hG : pz_prim G) (hz : ∀ i, dg < i → G i = 0) (hq : 1 ≤ q) (hl : (ld : Int) = G dg * q) {k : Nat} (hk : dg < k) : shg (fun e => (q : Int) * G e) ld k = q := by
  have h1 : q ∣ ld := Int.natCast_dvd_natCast.mp ⟨G dg, by rw [hl, Int.mul_comm]⟩
  have h2 : ∀ i, q ∣ ((q : Int) * G i).natAbs := fun i => by
    rw [Int.natAbs_mul, Int.natAbs_natCast]
    exact Nat.dvd_mul_right _ _
  have h3 := shg_max (fun e => (q : Int) * G e) ld q h1 k (fun i _ => h2 i)
  obtain ⟨h4, h5⟩ := shg_dvd (fun e => (q : Int) * G e) ld k
  obtain ⟨t, ht⟩ := h3
  have h6 : t = 1 := hG t (fun i => by
    by_cases c : i < k
    · have h7 := h5 i c
      rw [ht, Int.natAbs_mul, Int.natAbs_natCast] at h7
      exact Int.ofNat_dvd_left.mpr (Nat.dvd_of_mul_dvd_mul_left (by omega) h7)
    · rw [hz i (by omega)]
      exact ⟨0, (Int.mul_zero _).symm⟩)
  rw [ht, h6, Nat.mul_one]
section MTG
variable {g h : mj_H} {n D z : Nat} {V : Nat → Int} {X : Nat → Nat → Int}
theorem mR_takeG (m : jM g n V X h) {dz ld M : Nat} {A B G : pz_P} {c : Int} (kz : cK z = 13) (hz : 180 ≤ z) (hX : X z 2 = (dz : Int)) (hdz : dz < cL (z + 3)) (hc : c ≠ 0) (hZ : pcs V z = pz_sc c G) (hG : GP A B G dz) (hld : 1 ≤ ld) (hld2 : ld ≤ 9223372036854775807) (hdv : G dz ∣ (ld : Int)) (hM : ∀ i, (G i).natAbs ≤ M) (hfit : 9223372036854775807 * M < jB ^ 29) (hzz : ∀ e, jnl (pcs V z e).natAbs ≤ 60) : mj_Ok (D + 5) 60 [.ref 444, .ref z, .long (jl (ld : Int))] h (fun r => ∃ V2 h2, jM g n V2 (xup X 20 2 (dz : Int)) h2 ∧ (∀ e, e < 13 → V2 (20 + 4 + 2 * e) = G e) ∧ (∀ x, x ≠ 164 → x ≠ 166 → x ≠ 168 → x ≠ 170 → (x < 20 + 4 ∨ 20 + 4 + 2 * 13 ≤ x) → V2 x = V x) ∧ r = (.inl none, h2)) := by
  obtain ⟨hp, hl, hGz, _, _, _⟩ := hG
  obtain ⟨q0, hq0⟩ := hdv
  have hq1 : 0 < q0 := by
    rcases Int.lt_or_le 0 q0 with y | y
    · exact y
    · have := Int.mul_nonpos_of_nonneg_of_nonpos (Int.le_of_lt hl) y
      omega
  obtain ⟨q, hq⟩ : ∃ q : Nat, q0 = (q : Int) := ⟨q0.toNat, by omega⟩
  subst hq
  have hqld : q ≤ ld := by
    have h1 : (q : Int) ≤ G dz * q := by
      have := Int.mul_le_mul_of_nonneg_right (show (1 : Int) ≤ G dz by omega) (show (0 : Int) ≤ q by omega)
      rw [Int.one_mul] at this
      exact this
    omega
  have h13 := mP_13 kz hz
  have eZ : ∀ e, e < cL (z + 3) → V (z + 4 + 2 * e) = c * G e := fun e he => by
    rw [← pcs_in (V := V) (o := z) (i := e) he, hZ]
    rfl
  have hne : V (z + 4 + 2 * dz) ≠ 0 := by
    rw [eZ dz hdz]
    exact Int.mul_ne_zero hc (by omega)
  have hPl : ∀ e, jnl (((q : Int) * G e)).natAbs ≤ 29 := fun e => by
    refine jnl_B (al := 9223372036854775807 * M) ?_ hfit
    rw [Int.natAbs_mul, Int.natAbs_natCast]
    exact Nat.mul_le_mul (by omega) (hM e)
  have hf : fdg (fun e => (q : Int) * G e) 13 = dz + 1 := fdg_top (by omega) (fun i hi => by rw [hGz i hi, Int.mul_zero]) (Int.mul_ne_zero (by omega) (by omega))
  refine (mR_takeP (D := D) m (dz := dz) (ld := ld) (P := fun e => (q : Int) * G e) kz hz hX hdz hld hld2 hne (fun e he => ?_) (fun e he => by rw [hGz e he, Int.mul_zero]) hPl (fun e he => by rw [← pcs_in (V := V) (o := z) (i := e) he]; exact hzz e)).to fun r hr => ?_
  · rw [eZ e (by omega), eZ dz hdz, hq0]
    ac_rfl
  · obtain ⟨V2, h2, m2, f1, f2, hr⟩ := hr
    rw [hf, shg_prim hp hGz (by omega) hq0 (show dz < dz + 1 by omega)] at f1
    rw [hf, show ((dz + 1 : Nat) : Int) - 1 = (dz : Int) by omega] at m2
    refine ⟨V2, h2, m2, fun e he => ?_, f2, hr⟩
    rw [f1 e he]
    exact Int.mul_tdiv_cancel_left _ (by omega)
end MTG
