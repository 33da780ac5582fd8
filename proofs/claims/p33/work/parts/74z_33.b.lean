/-! The desk of the class, exactly: shorten. -/
def shg (f : Nat → Int) (s0 : Nat) : Nat → Nat
  | 0 => s0
  | k + 1 => Nat.gcd (f k).natAbs (shg f s0 k)
theorem shg_le (f : Nat → Int) {s0 : Nat} (h : 1 ≤ s0) : ∀ k, 1 ≤ shg f s0 k ∧ shg f s0 k ≤ s0
  | 0 => ⟨h, Nat.le_refl _⟩
  | k + 1 => by
    obtain ⟨a, b⟩ := shg_le f h k
    have h1 : Nat.gcd (f k).natAbs (shg f s0 k) ∣ shg f s0 k := Nat.gcd_dvd_right _ _
    have h2 := Nat.le_of_dvd (by omega) h1
    exact ⟨Nat.pos_of_dvd_of_pos h1 (by omega), Nat.le_trans h2 b⟩
theorem shg_dvd (f : Nat → Int) (s0 : Nat) : ∀ k, shg f s0 k ∣ s0 ∧ ∀ i, i < k → shg f s0 k ∣ (f i).natAbs
  | 0 => ⟨Nat.dvd_refl _, fun i hi => absurd hi (by omega)⟩
  | k + 1 => by
    obtain ⟨a, b⟩ := shg_dvd f s0 k
    have h1 : shg f s0 (k + 1) ∣ shg f s0 k := Nat.gcd_dvd_right _ _
    refine ⟨Nat.dvd_trans h1 a, fun i hi => ?_⟩
    by_cases c : i = k
    · rw [c]
      exact Nat.gcd_dvd_left _ _
    · exact Nat.dvd_trans h1 (b i (by omega))
theorem shg_max (f : Nat → Int) (s0 d : Nat) (h0 : d ∣ s0) : ∀ k, (∀ i, i < k → d ∣ (f i).natAbs) → d ∣ shg f s0 k
  | 0, _ => h0
  | k + 1, h => Nat.dvd_gcd (h k (by omega)) (shg_max f s0 d h0 k (fun i hi => h i (by omega)))
section MSH
variable {g h : mj_H} {n D : Nat} {V : Nat → Int} {X : Nat → Nat → Int}
theorem mD_sh_loop {d s0 : Nat} (hX : X 20 2 = (d : Int) - 1) (hd : d ≤ 13) (hs : 1 ≤ s0) (hs2 : s0 ≤ 9223372036854775807) (hl29 : ∀ e, e < 13 → jnl (V (20 + 4 + 2 * e)).natAbs ≤ 29) {Q : mj_R → Prop} (hend : ∀ (V1 : Nat → Int) (h1 : mj_H), jM g n V1 X h1 → (∀ x, x ≠ 164 → x ≠ 166 → x ≠ 168 → x ≠ 170 → V1 x = V x) → mj_T (D + 3) mj_m22 38 [some (.ref 19), some (.long (jl (s0 : Int))), none, some (.long (jl ((shg (pco V 20) s0 d : Nat) : Int))), none, some (.int (jn ((d : Nat) : Int)))] [] h1 Q) : ∀ k i, i + k = d → ∀ (V1 : Nat → Int) (h1 : mj_H), jM g n V1 X h1 → (∀ x, x ≠ 164 → x ≠ 166 → x ≠ 168 → x ≠ 170 → V1 x = V x) → mj_T (D + 3) mj_m22 5 [some (.ref 19), some (.long (jl (s0 : Int))), none, some (.long (jl ((shg (pco V 20) s0 i : Nat) : Int))), none, some (.int (jn ((i : Nat) : Int)))] [] h1 Q
  | 0, i, hi, V1, h1, m, e1 => by
    iterate 2 refine mj_T.pl rfl rfl rfl rfl ?_
    refine mT_get m 11 cq_d19 (by decide) rfl rfl ?_
    refine mT_get (v := .int (jn ((d : Int) - 1))) m 13 cq_d20 (by decide) rfl (congrArg (fun z : Int => some (Value.int (jn z))) (hX)) ?_
    refine mj_T.icmp (a := ((i : Nat) : Int)) (b := ((d : Int) - 1)) rfl ⟨by omega, by omega⟩ ⟨by omega, by omega⟩ (fun c1 => ?_) (fun c1 => ?_)
    · simp only [jc, Bool.not_eq_true', Bool.not_eq_false', decide_eq_true_eq, decide_eq_false_iff_not] at c1
      have hi2 : i = d := by omega
      subst hi2
      exact hend V1 _ m e1
    · exfalso
      simp only [jc, Bool.not_eq_true', Bool.not_eq_false', decide_eq_true_eq, decide_eq_false_iff_not] at c1
      omega
  | k + 1, i, hi, V1, h1, m, e1 => by
    have p20 : cL (20 + 3) = 13 := mK_z.1
    iterate 2 refine mj_T.pl rfl rfl rfl rfl ?_
    refine mT_get m 11 cq_d19 (by decide) rfl rfl ?_
    refine mT_get (v := .int (jn ((d : Int) - 1))) m 13 cq_d20 (by decide) rfl (congrArg (fun z : Int => some (Value.int (jn z))) (hX)) ?_
    refine mj_T.icmp (a := ((i : Nat) : Int)) (b := ((d : Int) - 1)) rfl ⟨by omega, by omega⟩ ⟨by omega, by omega⟩ (fun c1 => ?_) (fun c1 => ?_)
    · exfalso
      simp only [jc, Bool.not_eq_true', Bool.not_eq_false', decide_eq_true_eq, decide_eq_false_iff_not] at c1
      omega
    · simp only [jc, Bool.not_eq_true', Bool.not_eq_false', decide_eq_true_eq, decide_eq_false_iff_not] at c1
      iterate 2 refine mj_T.pl rfl rfl rfl rfl ?_
      refine mT_get m 11 cq_d19 (by decide) rfl rfl ?_
      refine mj_T.pl rfl rfl rfl rfl ?_
      refine mj_T.call rfl rfl (Nat.le_of_ble_eq_true rfl) (Nat.le_of_ble_eq_true rfl) (mV_of m 13 cq_d20 (by decide) rfl (by decide) rfl _) rfl (mj_Ok.up (by omega) (mP_at (D := 0) m cq_d20 (e := i) (by omega))) (fun v g2 hq => ?_) (fun i g2 hq => ?_)
      rotate_left
      · cases hq
      cases hq
      refine mj_T.eq (pc2 := 27) (st2 := [.ref (20 + 4 + 2 * i), .ref 19]) ?_ rfl rfl rfl rfl
      refine mj_T.pl rfl rfl rfl rfl ?_
      have ei : V1 (20 + 4 + 2 * i) = pco V 20 i := e1 _ (by omega) (by omega) (by omega) (by omega)
      have hcap : jnl (V1 (20 + 4 + 2 * i)).natAbs ≤ 30 := by
        have q := hl29 i (by omega)
        rw [ei]
        show jnl (V (20 + 4 + 2 * i)).natAbs ≤ 30
        omega
      have hsh := shg_le (pco V 20) hs i
      refine mj_T.call rfl rfl (Nat.le_of_ble_eq_true rfl) (Nat.le_of_ble_eq_true rfl) (mV_of m 11 cq_d19 (by decide) rfl (by decide) rfl _) rfl (mj_Ok.up (by omega) (mD_common (D := 0) (f := ((shg (pco V 20) s0 i : Nat) : Int)) m ((mK_p cq_d20).2.2.2 i (by omega)) (by omega) (by rw [Int.natAbs_natCast]; omega) (by omega) (by omega))) (fun v g3 hq => ?_) (fun i g3 hq => ?_)
      rotate_left
      · obtain ⟨_, _, _, _, hq⟩ := hq; cases hq
      obtain ⟨V3, _, m4, f1, hq⟩ := hq
      cases hq
      rw [ei, Int.natAbs_natCast]
      refine mj_T.eq (pc2 := 31) (st2 := [.long (jl ((Nat.gcd (pco V 20 i).natAbs (shg (pco V 20) s0 i) : Nat) : Int))]) ?_ rfl rfl rfl rfl
      refine mj_T.pl (loc' := [some (.ref 19), some (.long (jl (s0 : Int))), none, some (.long (jl ((Nat.gcd (pco V 20 i).natAbs (shg (pco V 20) s0 i) : Nat) : Int))), none, some (.int (jn ((i : Nat) : Int)))]) rfl rfl rfl rfl ?_
      refine mj_T.iinc rfl rfl ?_
      rw [show ((i : Nat) : Int) + 1 = ((i + 1 : Nat) : Int) by omega]
      refine mj_T.eq (loc2 := [some (.ref 19), some (.long (jl (s0 : Int))), none, some (.long (jl ((Nat.gcd (pco V 20 i).natAbs (shg (pco V 20) s0 i) : Nat) : Int))), none, some (.int (jn (((i + 1) : Nat) : Int)))]) ?_ rfl rfl rfl rfl
      refine mj_T.pl rfl rfl rfl rfl ?_
      exact mD_sh_loop hX hd hs hs2 hl29 hend k (i + 1) (by omega) V3 _ m4 (fun x x1 x2 x3 x4 => (f1 x x1 x2 x3 x4 x1).trans (e1 x x1 x2 x3 x4))
theorem mD_shorten (m : jM g n V X h) {d s0 : Nat} (hX : X 20 2 = (d : Int) - 1) (hd : d ≤ 13) (hs : 1 ≤ s0) (hs2 : s0 ≤ 9223372036854775807) (hz : ∀ e, d ≤ e → e < 13 → V (20 + 4 + 2 * e) = 0) (hl : ∀ e, e < 13 → jnl (V (20 + 4 + 2 * e)).natAbs ≤ 29) : mj_Ok (D + 4) 22 [.ref 19, .long (jl (s0 : Int))] h (fun r => ∃ V2 h2, jM g n V2 X h2 ∧ (∀ e, e < 13 → V2 (20 + 4 + 2 * e) = (V (20 + 4 + 2 * e)).tdiv ((shg (pco V 20) s0 d : Nat) : Int)) ∧ (∀ x, x ≠ 164 → x ≠ 166 → x ≠ 168 → x ≠ 170 → (x < 20 + 4 ∨ 20 + 4 + 2 * 13 ≤ x) → V2 x = V x) ∧ r = (.inl (some (.long (jl ((shg (pco V 20) s0 d : Nat) : Int)))), h2)) := by
  have p20 : cL (20 + 3) = 13 := mK_z.1
  have c3 : cL (168 + 1) = 40 := mK_z.2.2.2.2.2.2.2.2.2.1
  have hsh := shg_le (pco V 20) hs d
  have hj3 : jnl (((shg (pco V 20) s0 d : Nat) : Int)).natAbs ≤ 3 := jnl_R (by rw [Int.natAbs_natCast]; omega)
  have hj60 : jnl (((shg (pco V 20) s0 d : Nat) : Int)).natAbs ≤ 60 := by omega
  refine mj_Ok.of (M := mj_m22) rfl rfl rfl ?_
  refine mj_T.pl rfl rfl rfl rfl ?_
  refine mj_T.pl (loc' := [some (.ref 19), some (.long (jl (s0 : Int))), none, some (.long (jl (s0 : Int))), none, none]) rfl rfl rfl rfl ?_
  refine mj_T.pl rfl rfl rfl rfl ?_
  refine mj_T.pl (loc' := [some (.ref 19), some (.long (jl (s0 : Int))), none, some (.long (jl (s0 : Int))), none, some (.int (jn 0))]) rfl rfl rfl rfl ?_
  refine mD_sh_loop (D := D) (s0 := s0) hX hd hs hs2 hl (fun V1 h1 m1 e1 => ?_) d 0 (by omega) V _ m (fun _ _ _ _ _ => rfl)
  refine mj_T.pl rfl rfl rfl rfl ?_
  refine mT_get m1 11 cq_d19 (by decide) rfl rfl ?_
  refine mj_T.pl rfl rfl rfl rfl ?_
  refine mj_T.call rfl rfl (Nat.le_of_ble_eq_true rfl) (Nat.le_of_ble_eq_true rfl) (mV_of m1 18 cq_d168 (by decide) rfl (by decide) rfl _) rfl (mj_Ok.up (by omega) (mW_setLong (D := 0) (v := ((shg (pco V 20) s0 d : Nat) : Int)) m1 cq_d168 ⟨by omega, by omega⟩ (by omega))) (fun v g51 hq => ?_) (fun i g51 hq => ?_)
  rotate_left
  · obtain ⟨_, _, hq⟩ := hq; cases hq
  obtain ⟨_, m52, hq⟩ := hq
  cases hq
  have m52 := m52.to (V' := (jvu V1 168 ((shg (pco V 20) s0 d : Nat) : Int))) (by rfl) rfl
  refine mj_T.eq (pc2 := 46) (st2 := []) ?_ rfl rfl rfl rfl
  iterate 2 refine mj_T.pl rfl rfl rfl rfl ?_
  refine mT_get m52 11 cq_d19 (by decide) rfl rfl ?_
  refine mj_T.pl rfl rfl rfl rfl ?_
  refine mT_get m52 11 cq_d19 (by decide) rfl rfl ?_
  refine mj_T.pl rfl rfl rfl rfl ?_
  have hV : ∀ e, e < 13 → (jvu V1 168 ((shg (pco V 20) s0 d : Nat) : Int)) (20 + 4 + 2 * e) = V (20 + 4 + 2 * e) := fun e he => (jvu_ne _ _ _ (by omega)).trans (e1 _ (by omega) (by omega) (by omega) (by omega))
  refine mj_T.call rfl rfl (Nat.le_of_ble_eq_true rfl) (Nat.le_of_ble_eq_true rfl) (mV_of m52 11 cq_d19 (by decide) rfl (by decide) rfl _) rfl (mj_Ok.up (by omega) (mD_divParts (D := 0) (t := 1) (dp := d) m52 cq_d20 cq_d168 (by decide) (by rw [p20]; exact hd) hX (fun e x1 x2 => by rw [p20] at x2; rw [hV e x2]; exact hz e x1 x2) (fun e he => by rw [p20] at he; rw [hV e he, (mK_z.2.2.2.2.1 e he).1]; exact ⟨by have := hl e he; omega, by have := hl e he; omega⟩) (by rw [jvu_at]; exact hj60))) (fun v g53 hq => ?_) (fun i g53 hq => ?_)
  rotate_left
  · obtain ⟨_, _, _, _, hq⟩ := hq; cases hq
  obtain ⟨V5, _, m54, I5, hq⟩ := hq
  cases hq
  rw [p20, jvu_at] at I5
  refine mj_T.eq (pc2 := 59) (st2 := []) ?_ rfl rfl rfl rfl
  refine mj_T.pl rfl rfl rfl rfl ?_
  refine mj_T.ret rfl rfl rfl ⟨V5, _, m54, fun e he => ?_, fun x x1 x2 x3 x4 x5 => ?_, rfl⟩
  · rw [I5.1 e he, if_pos he, hV e he]
    rfl
  · rw [I5.2.2 x x1 x4 x5, jvu_ne _ _ _ x3]
    exact e1 x x1 x2 x3 x4
end MSH
/-! The roots of the class, exactly: takePrimitive. -/
theorem shg_congr {f f' : Nat → Int} {s0 : Nat} : ∀ k, (∀ i, i < k → f' i = f i) → shg f' s0 k = shg f s0 k
  | 0, _ => rfl
  | k + 1, h => by
    show Nat.gcd (f' k).natAbs (shg f' s0 k) = Nat.gcd (f k).natAbs (shg f s0 k)
    rw [h k (by omega), shg_congr k (fun i hi => h i (by omega))]
section MTP
variable {g h : mj_H} {n D z : Nat} {V : Nat → Int} {X : Nat → Nat → Int}
theorem mR_tp_loop {dz ld : Nat} {P : pz_P} (kz : cK z = 13) (hz : 180 ≤ z) (hX : X z 2 = (dz : Int)) (hdz : dz < cL (z + 3)) (hld : 1 ≤ ld) (hld2 : ld ≤ 9223372036854775807) (hne : V (z + 4 + 2 * dz) ≠ 0) (hP : ∀ e, e ≤ dz → V (z + 4 + 2 * e) * (ld : Int) = V (z + 4 + 2 * dz) * P e) (hPz : ∀ e, dz < e → P e = 0) (hl : ∀ e, jnl (P e).natAbs ≤ 29) (hzz : ∀ e, e < cL (z + 3) → jnl (V (z + 4 + 2 * e)).natAbs ≤ 60) {Q : mj_R → Prop} (hend : ∀ (V1 : Nat → Int) (h1 : mj_H), jM g n V1 (xup X 20 2 (-1)) h1 → (∀ e, e < 13 → V1 (20 + 4 + 2 * e) = if e < dz + 1 then P e else 0) → V1 170 = V (z + 4 + 2 * dz) → (∀ x, x ≠ 164 → x ≠ 166 → x ≠ 168 → x ≠ 170 → (x < 20 + 4 ∨ 20 + 4 + 2 * 13 ≤ x) → V1 x = V x) → mj_T (D + 3) mj_m60 102 [some (.ref 444), some (.ref z), some (.long (jl (ld : Int))), none, some (.int (jn ((dz + 1 : Nat) : Int)))] [] h1 Q) : ∀ k i, i + k = dz + 1 → ∀ (V1 : Nat → Int) (h1 : mj_H), jM g n V1 (xup X 20 2 (-1)) h1 → (∀ e, e < 13 → V1 (20 + 4 + 2 * e) = if e < i then P e else 0) → V1 170 = V (z + 4 + 2 * dz) → (∀ x, x ≠ 164 → x ≠ 166 → x ≠ 168 → x ≠ 170 → (x < 20 + 4 ∨ 20 + 4 + 2 * 13 ≤ x) → V1 x = V x) → mj_T (D + 3) mj_m60 27 [some (.ref 444), some (.ref z), some (.long (jl (ld : Int))), none, some (.int (jn ((i : Nat) : Int)))] [] h1 Q
  | 0, i, hi, V1, h1, m, e1, e2, e3 => by
    have hz13 := mP_13 kz hz
    iterate 2 refine mj_T.pl rfl rfl rfl rfl ?_
    refine mT_get (v := .int (jn ((dz : Nat) : Int))) m 13 kz (by decide) rfl (congrArg (fun z : Int => some (Value.int (jn z))) ((congrFun (xup_oth (by omega)) 2).trans hX)) ?_
    refine mj_T.icmp (a := ((i : Nat) : Int)) (b := ((dz : Nat) : Int)) rfl ⟨by omega, by omega⟩ ⟨by omega, by omega⟩ (fun c1 => ?_) (fun c1 => ?_)
    · simp only [jc, Bool.not_eq_true', Bool.not_eq_false', decide_eq_true_eq, decide_eq_false_iff_not] at c1
      have hi2 : i = dz + 1 := by omega
      subst hi2
      exact hend V1 _ m e1 e2 e3
    · exfalso
      simp only [jc, Bool.not_eq_true', Bool.not_eq_false', decide_eq_true_eq, decide_eq_false_iff_not] at c1
      omega
  | k + 1, i, hi, V1, h1, m, e1, e2, e3 => by
    have p20 : cL (20 + 3) = 13 := mK_z.1
    have c2 : cL (166 + 1) = 240 := mK_z.2.2.2.2.2.2.2.2.1
    have hz13 := mP_13 kz hz
    have hpz := mP_pos kz
    have c20 := (mK_z.2.2.2.2.1 i (by omega)).1
    iterate 2 refine mj_T.pl rfl rfl rfl rfl ?_
    refine mT_get (v := .int (jn ((dz : Nat) : Int))) m 13 kz (by decide) rfl (congrArg (fun z : Int => some (Value.int (jn z))) ((congrFun (xup_oth (by omega)) 2).trans hX)) ?_
    refine mj_T.icmp (a := ((i : Nat) : Int)) (b := ((dz : Nat) : Int)) rfl ⟨by omega, by omega⟩ ⟨by omega, by omega⟩ (fun c1 => ?_) (fun c1 => ?_)
    · exfalso
      simp only [jc, Bool.not_eq_true', Bool.not_eq_false', decide_eq_true_eq, decide_eq_false_iff_not] at c1
      omega
    · simp only [jc, Bool.not_eq_true', Bool.not_eq_false', decide_eq_true_eq, decide_eq_false_iff_not] at c1
      refine mj_T.pl rfl rfl rfl rfl ?_
      refine mT_get m 15 cq_d444 (by decide) rfl rfl ?_
      refine mT_get m 11 cq_d19 (by decide) rfl rfl ?_
      iterate 2 refine mj_T.pl rfl rfl rfl rfl ?_
      refine mj_T.call rfl rfl (Nat.le_of_ble_eq_true rfl) (Nat.le_of_ble_eq_true rfl) (mV_of m 13 kz (by decide) rfl (by decide) rfl _) rfl (mj_Ok.up (by omega) (mP_at (D := 0) m kz (e := i) (by omega))) (fun v g2 hq => ?_) (fun i g2 hq => ?_)
      rotate_left
      · cases hq
      cases hq
      refine mj_T.eq (pc2 := 49) (st2 := [.ref (z + 4 + 2 * i), .ref 166]) ?_ rfl rfl rfl rfl
      have ez : V1 (z + 4 + 2 * i) = V (z + 4 + 2 * i) := e3 _ (by omega) (by omega) (by omega) (by omega) (by omega)
      have hz6 := hzz i (by omega)
      have hpr : jnl (V (z + 4 + 2 * i) * (ld : Int)).natAbs ≤ 63 := by
        rw [Int.natAbs_mul]
        have q1 := jnl_mul (V (z + 4 + 2 * i)).natAbs ((ld : Int)).natAbs
        have q2 : jnl ((ld : Int)).natAbs ≤ 3 := jnl_R (by rw [Int.natAbs_natCast]; omega)
        omega
      refine mj_T.call rfl rfl (Nat.le_of_ble_eq_true rfl) (Nat.le_of_ble_eq_true rfl) (mV_of m 18 cq_d166 (by decide) rfl (by decide) rfl _) rfl (mj_Ok.up (by omega) (mW_set (D := 0) m cq_d166 ((mK_p kz).2.2.2 _ (by omega)) (by omega) (by rw [ez]; omega))) (fun v g3 hq => ?_) (fun i g3 hq => ?_)
      rotate_left
      · obtain ⟨_, _, hq⟩ := hq; cases hq
      obtain ⟨_, m4, hq⟩ := hq
      cases hq
      refine mj_T.eq (pc2 := 52) (st2 := []) ?_ rfl rfl rfl rfl
      refine mj_T.pl rfl rfl rfl rfl ?_
      refine mT_get m4 15 cq_d444 (by decide) rfl rfl ?_
      refine mj_T.pl rfl rfl rfl rfl ?_
      refine mT_get m4 15 cq_d444 (by decide) rfl rfl ?_
      refine mT_get m4 11 cq_d19 (by decide) rfl rfl ?_
      refine mj_T.pl rfl rfl rfl rfl ?_
      refine mj_T.call rfl rfl (Nat.le_of_ble_eq_true rfl) (Nat.le_of_ble_eq_true rfl) (mV_of m4 11 cq_d19 (by decide) rfl (by decide) rfl _) rfl (mj_Ok.up (by omega) (mD_enlarge (D := 0) (f := (ld : Int)) m4 cq_d166 ⟨by decide, by decide⟩ (by rw [Int.natAbs_natCast]; omega) (by rw [jvu_at, ez]; omega) (by rw [jvu_at, ez]; omega) (hcl := by rw [jvu_at, ez]; omega))) (fun v g5 hq => ?_) (fun i g5 hq => ?_)
      rotate_left
      · obtain ⟨_, _, _, _, _, hq⟩ := hq; cases hq
      obtain ⟨V3, _, m6, f0, f1, hq⟩ := hq
      cases hq
      rw [jvu_at, ez, hP i (by omega)] at f0
      have g170 : V3 170 = V (z + 4 + 2 * dz) := (f1 170 (by decide) (by decide) (by decide)).trans ((jvu_ne _ _ _ (by decide)).trans e2)
      refine mj_T.eq (pc2 := 67) (st2 := []) ?_ rfl rfl rfl rfl
      refine mj_T.pl rfl rfl rfl rfl ?_
      refine mT_get m6 15 cq_d444 (by decide) rfl rfl ?_
      refine mT_get m6 11 cq_d19 (by decide) rfl rfl ?_
      refine mj_T.pl rfl rfl rfl rfl ?_
      refine mT_get m6 15 cq_d444 (by decide) rfl rfl ?_
      refine mT_get m6 11 cq_d19 (by decide) rfl rfl ?_
      refine mj_T.pl rfl rfl rfl rfl ?_
      refine mT_get m6 15 cq_d444 (by decide) rfl rfl ?_
      refine mT_get m6 11 cq_d19 (by decide) rfl rfl ?_
      refine mj_T.pl rfl rfl rfl rfl ?_
      refine mj_T.call rfl rfl (Nat.le_of_ble_eq_true rfl) (Nat.le_of_ble_eq_true rfl) (mV_of m6 13 cq_d20 (by decide) rfl (by decide) rfl _) rfl (mj_Ok.up (by omega) (mP_at (D := 0) m6 cq_d20 (e := i) (by omega))) (fun v g7 hq => ?_) (fun i g7 hq => ?_)
      rotate_left
      · cases hq
      cases hq
      refine mj_T.eq (pc2 := 93) (st2 := [.ref (20 + 4 + 2 * i), .ref 166, .ref 170]) ?_ rfl rfl rfl rfl
      refine mj_T.call rfl rfl (Nat.le_of_ble_eq_true rfl) (Nat.le_of_ble_eq_true rfl) (mV_of m6 12 cq_d170 (by decide) rfl (by decide) rfl _) rfl (mj_Ok.up (by omega) (mW_split (D := 0) m6 cq_d170 cq_d166 ((mK_p cq_d20).2.2.2 _ (by omega)) (by omega) (by rw [(rfl : V3 166 = _), (rfl : V3 170 = _)]; exact (by rw [f0, g170, ← hP i (by omega)]; exact jfa_one (by omega))) (by rw [(rfl : V3 166 = _), (rfl : V3 170 = _)]; exact (by rw [f0, g170, Int.mul_tdiv_cancel_left _ hne]; have := hl i; omega)) (hcc := by rw [(rfl : V3 170 = _)]; rw [g170]; have q := hzz dz hdz; omega))) (fun v g8 hq => ?_) (fun i g8 hq => ?_)
      rotate_left
      · obtain ⟨_, _, hq⟩ := hq; cases hq
      obtain ⟨_, m9, hq⟩ := hq
      cases hq
      have m9 := m9.to (V' := (jvu (jvu V3 166 ((V3 166).tmod (V3 170))) (20 + 4 + 2 * i) ((V3 166).tdiv (V3 170)))) (by rw [(rfl : V3 166 = _), (rfl : V3 170 = _)]) rfl
      refine mj_T.eq (pc2 := 96) (st2 := []) ?_ rfl rfl rfl rfl
      refine mj_T.iinc rfl rfl ?_
      rw [show ((i : Nat) : Int) + 1 = ((i + 1 : Nat) : Int) by omega]
      refine mj_T.eq (loc2 := [some (.ref 444), some (.ref z), some (.long (jl (ld : Int))), none, some (.int (jn (((i + 1) : Nat) : Int)))]) ?_ rfl rfl rfl rfl
      refine mj_T.pl rfl rfl rfl rfl ?_
      refine mR_tp_loop kz hz hX hdz hld hld2 hne hP hPz hl hzz hend k (i + 1) (by omega) _ _ m9 (fun e he => ?_) ?_ (fun x x1 x2 x3 x4 x5 => ?_)
      · by_cases q : e = i
        · subst q
          rw [jvu_at, if_pos (Nat.lt_succ_self _), f0, g170]
          exact Int.mul_tdiv_cancel_left _ hne
        · rw [jvu_ne _ _ _ (by omega), jvu_ne _ _ _ (by omega), f1 _ (by omega) (by omega) (by omega), jvu_ne _ _ _ (by omega), e1 e he]
          by_cases y : e < i
          · rw [if_pos y, if_pos (by omega)]
          · rw [if_neg y, if_neg (by omega)]
      · rw [((jvu_ne _ _ _ (by omega)).trans ((jvu_ne _ _ _ (by omega)).trans (rfl : V3 170 = _)))]
        exact g170
      · rw [((jvu_ne _ _ _ (by omega)).trans ((jvu_ne _ _ _ (by omega)).trans (rfl : V3 x = _))), f1 x x1 x3 x2, jvu_ne _ _ _ x2]
        exact e3 x x1 x2 x3 x4 x5
theorem mR_takeP (m : jM g n V X h) {dz ld : Nat} {P : pz_P} (kz : cK z = 13) (hz : 180 ≤ z) (hX : X z 2 = (dz : Int)) (hdz : dz < cL (z + 3)) (hld : 1 ≤ ld) (hld2 : ld ≤ 9223372036854775807) (hne : V (z + 4 + 2 * dz) ≠ 0) (hP : ∀ e, e ≤ dz → V (z + 4 + 2 * e) * (ld : Int) = V (z + 4 + 2 * dz) * P e) (hPz : ∀ e, dz < e → P e = 0) (hl : ∀ e, jnl (P e).natAbs ≤ 29) (hzz : ∀ e, e < cL (z + 3) → jnl (V (z + 4 + 2 * e)).natAbs ≤ 60) : mj_Ok (D + 5) 60 [.ref 444, .ref z, .long (jl (ld : Int))] h (fun r => ∃ V2 h2, jM g n V2 (xup X 20 2 ((fdg P 13 : Int) - 1)) h2 ∧ (∀ e, e < 13 → V2 (20 + 4 + 2 * e) = (P e).tdiv ((shg P ld (fdg P 13) : Nat) : Int)) ∧ (∀ x, x ≠ 164 → x ≠ 166 → x ≠ 168 → x ≠ 170 → (x < 20 + 4 ∨ 20 + 4 + 2 * 13 ≤ x) → V2 x = V x) ∧ r = (.inl none, h2)) := by
  have p20 : cL (20 + 3) = 13 := mK_z.1
  have c4 : cL (170 + 1) = 60 := mK_z.2.2.2.2.2.2.2.2.2.2.1
  have hz13 := mP_13 kz hz
  have hpz := mP_pos kz
  have hprep : jnl (V (z + 4 + 2 * dz)).natAbs ≤ cL (170 + 1) := by
    rw [c4]
    exact hzz dz hdz
  refine mj_Ok.of (M := mj_m60) rfl rfl rfl ?_
  refine mj_T.pl rfl rfl rfl rfl ?_
  refine mT_get m 15 cq_d444 (by decide) rfl rfl ?_
  refine mT_get m 11 cq_d19 (by decide) rfl rfl ?_
  refine mj_T.call rfl rfl (Nat.le_of_ble_eq_true rfl) (Nat.le_of_ble_eq_true rfl) (mV_of m 13 cq_d20 (by decide) rfl (by decide) rfl _) rfl (mj_Ok.up (by omega) (mP_clear (D := 0) m cq_d20)) (fun v g1 hq => ?_) (fun i g1 hq => ?_)
  rotate_left
  · obtain ⟨_, _, hq⟩ := hq; cases hq
  obtain ⟨_, m2, hq⟩ := hq
  cases hq
  rw [p20] at m2
  refine mj_T.eq (pc2 := 10) (st2 := []) ?_ rfl rfl rfl rfl
  refine mj_T.pl rfl rfl rfl rfl ?_
  refine mT_get m2 15 cq_d444 (by decide) rfl rfl ?_
  refine mT_get m2 11 cq_d19 (by decide) rfl rfl ?_
  refine mj_T.pl rfl rfl rfl rfl ?_
  refine mj_T.call rfl rfl (Nat.le_of_ble_eq_true rfl) (Nat.le_of_ble_eq_true rfl) (mV_of m2 13 kz (by decide) rfl (by decide) rfl _) rfl (mj_Ok.up (by omega) (mP_lead (D := 0) m2 kz ((congrFun (xup_oth (by omega)) 2).trans hX) hdz)) (fun v g3 hq => ?_) (fun i g3 hq => ?_)
  rotate_left
  · cases hq
  cases hq
  refine mj_T.eq (pc2 := 21) (st2 := [.ref (z + 4 + 2 * dz), .ref 170]) ?_ rfl rfl rfl rfl
  refine mj_T.call rfl rfl (Nat.le_of_ble_eq_true rfl) (Nat.le_of_ble_eq_true rfl) (mV_of m2 12 cq_d170 (by decide) rfl (by decide) rfl _) rfl (mj_Ok.up (by omega) (mW_prepare (D := 0) m2 cq_d170 ((mK_p kz).2.2.2 dz hdz) (by rw [pfl_off _ _ _ (by omega)]; exact hprep))) (fun v g4 hq => ?_) (fun i g4 hq => ?_)
  rotate_left
  · obtain ⟨_, _, hq⟩ := hq; cases hq
  obtain ⟨_, m5, hq⟩ := hq
  cases hq
  have m5 := m5.to (V' := (jvu (pfl V 20 (fun _ => 0) 13) 170 ((pfl V 20 (fun _ => 0) 13) (z + 4 + 2 * dz)))) (by rw [(rfl : (pfl V 20 (fun _ => 0) 13) (z + 4 + 2 * dz) = _)]) rfl
  refine mj_T.eq (pc2 := 24) (st2 := []) ?_ rfl rfl rfl rfl
  refine mj_T.pl rfl rfl rfl rfl ?_
  refine mj_T.pl (loc' := [some (.ref 444), some (.ref z), some (.long (jl (ld : Int))), none, some (.int (jn 0))]) rfl rfl rfl rfl ?_
  refine mR_tp_loop (D := D + 1) (V := V) (P := P) kz hz hX hdz hld hld2 hne hP hPz hl hzz (fun V1 h1 m1 e1 e2 e3 => ?_) (dz + 1) 0 (by omega) _ _ m5 (fun e he => ?_) ?_ (fun x x1 x2 x3 x4 x5 => ?_)
  rotate_left
  · rw [jvu_ne _ _ _ (by omega), pfl_at _ _ _ he]
    exact (if_neg (Nat.not_lt_zero _)).symm
  · exact (jvu_at _ _ _).trans (pfl_off _ _ _ (by omega))
  · rw [jvu_ne _ _ _ x4]
    exact pfl_off _ _ _ x5
  have hV1 : ∀ e, e < 13 → V1 (20 + 4 + 2 * e) = P e := fun e he => by
    rw [e1 e he]
    by_cases q : e < dz + 1
    · rw [if_pos q]
    · rw [if_neg q, hPz e (by omega)]
  have hfl := fdg_le P 13
  refine mj_T.pl rfl rfl rfl rfl ?_
  refine mT_get m1 15 cq_d444 (by decide) rfl rfl ?_
  refine mT_get m1 11 cq_d19 (by decide) rfl rfl ?_
  refine mj_T.call rfl rfl (Nat.le_of_ble_eq_true rfl) (Nat.le_of_ble_eq_true rfl) (mV_of m1 13 cq_d20 (by decide) rfl (by decide) rfl _) rfl (mj_Ok.up (by omega) (mP_settle (D := 0) m1 cq_d20 (fun e he => by rw [p20] at he; rw [hV1 e he]; have := hl e; omega))) (fun v g61 hq => ?_) (fun i g61 hq => ?_)
  rotate_left
  · obtain ⟨_, _, hq⟩ := hq; cases hq
  obtain ⟨_, m62, hq⟩ := hq
  cases hq
  rw [p20, xup_xup, fdg_congr (f' := pco V1 20) (f := P) 13 hV1] at m62
  refine mj_T.eq (pc2 := 112) (st2 := []) ?_ rfl rfl rfl rfl
  refine mj_T.pl rfl rfl rfl rfl ?_
  refine mT_get m62 15 cq_d444 (by decide) rfl rfl ?_
  refine mj_T.pl rfl rfl rfl rfl ?_
  refine mj_T.call rfl rfl (Nat.le_of_ble_eq_true rfl) (Nat.le_of_ble_eq_true rfl) (mV_of m62 11 cq_d19 (by decide) rfl (by decide) rfl _) rfl (mj_Ok.up (by omega) (mD_shorten (D := D) (d := fdg P 13) (s0 := ld) m62 (xup_at _ _ _ _) (fdg_le _ _) hld hld2 (fun e q1 q2 => by rw [hV1 e q2]; exact fdg_zero P 13 e q1 q2) (fun e he => by rw [hV1 e he]; exact hl e))) (fun v g63 hq => ?_) (fun i g63 hq => ?_)
  rotate_left
  · obtain ⟨_, _, _, _, _, hq⟩ := hq; cases hq
  obtain ⟨V5, _, m64, f1, f2, hq⟩ := hq
  cases hq
  rw [shg_congr (f' := pco V1 20) (f := P) (fdg P 13) (fun i hi => hV1 i (by omega))] at f1
  refine mj_T.eq (pc2 := 120) (st2 := [.long (jl ((shg (pco V1 20) ld (fdg P 13) : Nat) : Int))]) ?_ rfl rfl rfl rfl
  refine mj_T.pl rfl rfl rfl rfl ?_
  refine mj_T.ret rfl rfl rfl ⟨V5, _, m64, fun e he => ?_, fun x x1 x2 x3 x4 x5 => ?_, rfl⟩
  · rw [f1 e he, hV1 e he]
  · rw [f2 x x1 x2 x3 x4 x5]
    exact e3 x x1 x2 x3 x4 x5
end MTP
/-! The row of Sturm: what one step asks of the rooms. -/
section RBR
variable {A B X Y : pz_P} {m n dx dy : Nat} {la ps : Int}
theorem RB.r174 (r : RB A B m n X Y dx dy la ps) : jnl la.natAbs ≤ 60 ∧ jnl ps.natAbs ≤ 60 := by
  obtain ⟨_, _, _, _, _, a, b⟩ := r
  exact ⟨jnl_le_lt.mpr (Nat.lt_of_le_of_lt a size_3), jnl_le_lt.mpr (Nat.lt_of_le_of_lt b size_3)⟩
theorem RB.rlow (r : RB A B m n X Y dx dy la ps) : ∀ e, dy ≤ e → rdv X Y dx dy la ps e = 0 := fun e he => by
  unfold rdv
  rw [er_low r.1.2.2.2.1 r.1.2.1 r.1.1 e he, itd_zero, itd_zero]
theorem RB.rcap (r : RB A B m n X Y dx dy la ps) (hm : m ≤ 12) (hn : n ≤ 12) (bA : ∀ e, (A e).natAbs ≤ bM) (bB : ∀ e, (B e).natAbs ≤ bM) (h1 : 1 ≤ dy) (e : Nat) (he : e < 13) : jnl (rdv X Y dx dy la ps e).natAbs ≤ 56 - 4 * e := by
  have hdy := r.1.2.2.2.1
  have hdx := r.2.1
  by_cases c : dy ≤ e
  · rw [r.rlow e c]
    exact Nat.le_trans (Nat.le_of_eq jnl_zero) (Nat.zero_le _)
  · refine Nat.le_trans (jnl_le_lt.mpr (Nat.lt_of_le_of_lt (r.div hm hn bA bB h1 e) (size_2 dy (by omega) h1))) (by omega)
theorem RB.rl60 (r : RB A B m n X Y dx dy la ps) (h1 : 1 ≤ dy) : jnl (Y dy).natAbs ≤ 60 := by
  have hdy := r.1.2.2.2.1
  exact jnl_le_lt.mpr (Nat.lt_of_le_of_lt (Nat.le_trans (r.2.2.2.1 dy) (bdf_mono (by omega))) size_3)
theorem RB.rlq (r : RB A B m n X Y dx dy la ps) (h1 : 1 ≤ dy) : ∀ i, i ≤ dx - dy → jnl ((((Y dy).natAbs : Nat) : Int) ^ i).natAbs ≤ 239 := fun i hi => by
  have hdy := r.1.2.2.2.1
  have hdx := r.2.1
  have hf := r.fit h1
  rw [jnl_le_lt, Int.natAbs_pow, Int.natAbs_natCast]
  have h2 : (Y dy).natAbs ^ i ≤ (2 * bdf (26 - 2 * dx)) ^ i := Nat.pow_le_pow_left (by have := r.2.2.2.1 dy; omega) i
  have h3 : (2 * bdf (26 - 2 * dx)) ^ i ≤ (2 * bdf (26 - 2 * dx)) ^ (dx - dy + 1) := Nat.pow_le_pow_right (by have := bdf_pos (26 - 2 * dx); omega) (by omega)
  have h4 : (2 * bdf (26 - 2 * dx)) ^ (dx - dy + 1) ≤ bdf (25 - 2 * dx) * (2 * bdf (26 - 2 * dx)) ^ (dx - dy + 1) := Nat.le_mul_of_pos_left _ (bdf_pos _)
  have h5 : jB ^ 235 ≤ jB ^ 239 := Nat.pow_le_pow_right (by decide) (by decide)
  omega
theorem RB.rk60 (r : RB A B m n X Y dx dy la ps) (bA : ∀ e, (A e).natAbs ≤ bM) (bB : ∀ e, (B e).natAbs ≤ bM) (hm : m ≤ 12) (hn : n ≤ 12) (h1 : 1 ≤ dy) : jnl (itd ((((Y dy).natAbs : Nat) : Int) ^ (dx - dy)) ps (dx - dy - 1)).natAbs ≤ 60 := by
  have hdy := r.1.2.2.2.1
  by_cases c : dx = dy
  · rw [c, Nat.sub_self, Int.pow_zero]
    show jnl (1 : Int).natAbs ≤ 60
    exact Nat.le_trans (jnl_R (v := 1) (by decide)) (by decide)
  · have h2 : itd ((((Y dy).natAbs : Nat) : Int) ^ (dx - dy)) ps (dx - dy - 1) = nxk Y dx dy ps := by
      unfold nxk
      rw [if_neg c]
    rw [h2, (r.1.known (by omega)).1, Int.natAbs_natCast]
    by_cases q : 1 ≤ n - dy + (m - dy)
    · exact jnl_le_lt.mpr (Nat.lt_of_le_of_lt (Nat.le_trans (SB_abs (n := n) q bA bB dy) (bdf_mono (by omega))) size_3)
    · rw [show n - dy = 0 by omega, show m - dy = 0 by omega]
      have h5 : (SB 0 0 n A B dy).natAbs ≤ bM := by
        unfold SB
        exact srow_abs bA bB 0 dy
      refine jnl_le_lt.mpr (Nat.lt_of_le_of_lt (Nat.le_trans h5 ?_) size_3)
      rw [← bdf_one]
      exact bdf_mono (by decide)
end RBR
/-! The row of Sturm of the class: goOn. -/
/-- degrees in their range -/
def DG (X : Nat → Nat → Int) : Prop := ∀ p, cK p = 13 → -1 ≤ X p 2 ∧ X p 2 < cL (p + 3)
/-- only degrees, the row's length and the roots' fields have changed -/
def FX (X X1 : Nat → Nat → Int) : Prop := ∀ a, cK a ≠ 13 → cK a ≠ 15 → cK a ≠ 16 → (a < 180 ∨ 444 ≤ a) → X1 a = X a
theorem FX.rf (X : Nat → Nat → Int) : FX X X := fun _ _ _ _ _ => rfl
theorem FX.tr {X X1 X2 : Nat → Nat → Int} (h : FX X X1) (k : FX X1 X2) : FX X X2 := fun a a1 a2 a3 a4 => (k a a1 a2 a3 a4).trans (h a a1 a2 a3 a4)
theorem FX.up {X : Nat → Nat → Int} {a i : Nat} {v : Int} (h : cK a = 13 ∨ cK a = 15 ∨ cK a = 16) : FX X (xup X a i v) := fun b b1 b2 b3 _ => funext fun j => xup_ne _ _ (Or.inl (fun e => by subst e; omega))
theorem DG.deg {X : Nat → Nat → Int} (h : DG X) {p : Nat} {d : Int} (hd : -1 ≤ d ∧ d < cL (p + 3)) : DG (xup X p 2 d) := fun q kq => by
  by_cases c : q = p
  · subst c
    rw [xup_at]
    exact hd
  · rw [xup_ne _ _ (Or.inl c)]
    exact h q kq
theorem DG.oth {X : Nat → Nat → Int} (h : DG X) {a i : Nat} {v : Int} (ka : cK a ≠ 13) : DG (xup X a i v) := fun q kq => by
  have ne : q ≠ a := fun e => ka (by rw [← e]; exact kq)
  rw [xup_ne _ _ (Or.inl ne)]
  exact h q kq
theorem sro_k {t : Nat} (h : t < 14) : cK (sro t) = 13 ∧ cL (sro t + 3) = if t < 2 then 13 else 14 - t := mK_r.2.2.2.2.2.1 t h
theorem sro_1 : ((List.range 14).all fun i => decide (180 ≤ sro i) && decide (i < 2 || decide (240 ≤ sro i)) && (List.range 14).all fun j => (decide (i = j) || decide (sro i ≠ sro j)) && (decide (j < 2) || decide (sro i + 1 < sro j + 4) || decide (sro j + 4 + 2 * (14 - j) ≤ sro i + 1))) = true := by decide +kernel
theorem sro_2 {i : Nat} (hi : i < 14) : 180 ≤ sro i ∧ (2 ≤ i → 240 ≤ sro i) ∧ ∀ j, j < 14 → (i ≠ j → sro i ≠ sro j) ∧ (2 ≤ j → sro i + 1 < sro j + 4 ∨ sro j + 4 + 2 * (14 - j) ≤ sro i + 1) := by
  have h := jall sro_1 hi
  simp only [Bool.and_eq_true, Bool.or_eq_true, decide_eq_true_eq] at h
  refine ⟨h.1.1, fun q => ?_, fun j hj => ?_⟩
  · rcases h.1.2 with a | a
    · omega
    · exact a
  · have k := jall h.2 hj
    simp only [Bool.and_eq_true, Bool.or_eq_true, decide_eq_true_eq] at k
    refine ⟨fun q => ?_, fun q => ?_⟩
    · rcases k.1 with a | a
      · exact absurd a q
      · exact a
    · rcases k.2 with (a | a) | a
      · omega
      · exact Or.inl a
      · exact Or.inr a
theorem RB.y60 {A B X Y : pz_P} {m n dx dy : Nat} {la ps : Int} (r : RB A B m n X Y dx dy la ps) (e : Nat) : jnl (Y e).natAbs ≤ 60 := by
  have h4 := r.1.2.2.2.1
  by_cases c : 1 ≤ dx
  · exact jnl_le_lt.mpr (Nat.lt_of_le_of_lt (Nat.le_trans (r.2.2.2.1 e) (bdf_mono (by omega))) size_3)
  · refine jnl_le_lt.mpr (Nat.lt_of_le_of_lt (Nat.le_trans (r.2.2.2.2.1 (by omega) e) ?_) size_3)
    rw [← bdf_one]
    exact bdf_mono (by decide)
/-- what stays while the row is made -/
def GFr (V : Nat → Int) (X : Nat → Nat → Int) (V1 : Nat → Int) (X1 : Nat → Nat → Int) : Prop := (∀ x, (x < 84 ∨ 110 ≤ x) → x ≠ 164 → x ≠ 166 → x ≠ 170 → x ≠ 174 → x ≠ 176 → (x < 240 ∨ 444 ≤ x) → V1 x = V x) ∧ (∀ a, a ≠ 80 → a ≠ 172 → (a < 240 ∨ 444 ≤ a) → X1 a = X a)
/-- the last one of a row -/
def GEnd (A B : pz_P) (V2 : Nat → Int) (X2 : Nat → Nat → Int) : Prop := ∃ (k dz : Nat), k < 14 ∧ X2 172 2 = ((k + 1 : Nat) : Int) ∧ X2 (sro k) 2 = (dz : Int) ∧ dz < cL (sro k + 3) ∧ pcs V2 (sro k) dz ≠ 0 ∧ (∀ e : Nat, dz < e → pcs V2 (sro k) e = 0) ∧ (∀ e : Nat, jnl (pcs V2 (sro k) e).natAbs ≤ 60) ∧ ∀ G, (qdv G A ∧ qdv G B) ↔ qdv G (pcs V2 (sro k))
section MGO
variable {g h : mj_H} {n D : Nat} {V : Nat → Int} {X : Nat → Nat → Int}
theorem mR_go_loop {A B : pz_P} {ma na : Nat} (hm : ma ≤ 12) (hn : na ≤ 12) (bA : ∀ e, (A e).natAbs ≤ bM) (bB : ∀ e, (B e).natAbs ≤ bM) : ∀ u t, t + u = 12 → ∀ (V1 : Nat → Int) (X1 : Nat → Nat → Int) (h1 : mj_H) (dx dy : Nat), jM g n V1 X1 h1 → RB A B ma na (pcs V1 (sro t)) (pcs V1 (sro (t + 1))) dx dy (V1 174) (V1 176) → CD A B (pcs V1 (sro t)) (pcs V1 (sro (t + 1))) → X1 (sro t) 2 = (dx : Int) → X1 (sro (t + 1)) 2 = (dy : Int) → dy + t ≤ 12 → X1 172 2 = ((t + 2 : Nat) : Int) → (∀ j, j < 14 → V1 (sro j + 1) = 0) → V1 81 = 0 → GFr V X V1 X1 → DG X1 → mj_T (D + 5) mj_m70 39 [some (.ref 172), some (.int (jn ((t + 2 : Nat) : Int)))] [] h1 (fun z => ∃ V2 X2 h2, jM g n V2 X2 h2 ∧ GEnd A B V2 X2 ∧ (∀ j, j < 14 → V2 (sro j + 1) = 0) ∧ V2 81 = 0 ∧ GFr V X V2 X2 ∧ DG X2 ∧ z = (.inl none, h2))
  | 0, t, htu, V1, X1, hh1, dx, dy, m, r, cd, ip, iq, hdt, hk, hb, h81, fr, dg => by
    have hL : cL 173 = 14 := mK_r.2.2.2.1
    have hdq : dy < cL (sro (t + 1) + 3) := by rw [(sro_k (t := t + 1) (by omega)).2]; split <;> omega
    iterate 2 refine mj_T.pl rfl rfl rfl rfl ?_
    refine mT_get m 16 cq_d172 (by decide) rfl rfl ?_
    refine mT_alen m 5 cq_d173 (by decide) rfl ?_
    refine mj_T.icmp (a := (((t + 2) : Nat) : Int)) (b := ((cL 173 : Nat) : Int)) rfl ⟨by omega, by omega⟩ ⟨by omega, by omega⟩ (fun c1 => ?_) (fun c1 => ?_)
    · simp only [jc, decide_eq_true_eq, decide_eq_false_iff_not, hL] at c1
      refine mj_T.ret rfl rfl rfl ?_
      have d0 : dy = 0 := by omega
      subst d0
      exact ⟨V1, X1, _, m, ⟨t + 1, 0, by omega, hk, iq, hdq, r.1.2.2.1, fun e he => r.1.2.1 e he, fun e => r.y60 e, CD.const (N := dx + 1) (fun e he => r.1.1 e (by omega)) r.1.2.2.1 (fun e he => r.1.2.1 e he) cd⟩, hb, h81, fr, dg, rfl⟩
    · exfalso
      simp only [jc, decide_eq_true_eq, decide_eq_false_iff_not, hL] at c1
      omega
  | u + 1, t, htu, V1, X1, hh1, dx, dy, m, r, cd, ip, iq, hdt, hk, hb, h81, fr, dg => by
    have hL : cL 173 = 14 := mK_r.2.2.2.1
    have hdq : dy < cL (sro (t + 1) + 3) := by rw [(sro_k (t := t + 1) (by omega)).2]; split <;> omega
    iterate 2 refine mj_T.pl rfl rfl rfl rfl ?_
    refine mT_get m 16 cq_d172 (by decide) rfl rfl ?_
    refine mT_alen m 5 cq_d173 (by decide) rfl ?_
    refine mj_T.icmp (a := (((t + 2) : Nat) : Int)) (b := ((cL 173 : Nat) : Int)) rfl ⟨by omega, by omega⟩ ⟨by omega, by omega⟩ (fun c1 => ?_) (fun c1 => ?_)
    · exfalso
      simp only [jc, decide_eq_true_eq, decide_eq_false_iff_not, hL] at c1
      omega
    · simp only [jc, decide_eq_true_eq, decide_eq_false_iff_not, hL] at c1
      have ht : t + 2 < 14 := by omega
      have hL2 : cL (sro (t + 2) + 3) = 12 - t := by rw [(sro_k (t := t + 2) (by omega)).2, if_neg (by omega)]; omega
      refine mj_T.pl rfl rfl rfl rfl ?_
      refine mT_get m 16 cq_d172 (by decide) rfl rfl ?_
      iterate 2 refine mj_T.pl rfl rfl rfl rfl ?_
      refine mj_T.isub (a := (((t + 2) : Nat) : Int)) (b := 1) rfl ?_
      rw [show ((t + 2 : Nat) : Int) - 1 = ((t + 1 : Nat) : Int) by omega]
      refine mT_aald m 5 cq_d173 (by decide) rfl rfl (by omega) ⟨by omega, by omega⟩ ?_
      refine mj_T.eq (st2 := [.ref (sro (t + 1))]) ?_ rfl rfl rfl rfl
      refine mT_get (v := .int (jn ((dy : Nat) : Int))) m 13 (sro_k (t := t + 1) (by omega)).1 (by decide) rfl (congrArg (fun z : Int => some (Value.int (jn z))) (iq)) ?_
      refine mj_T.if0 (a := ((dy : Nat) : Int)) rfl ⟨by omega, by omega⟩ (fun c2 => ?_) (fun c2 => ?_)
      · simp only [jc, Bool.not_eq_true', Bool.not_eq_false', decide_eq_true_eq, decide_eq_false_iff_not] at c2
        refine mj_T.ret rfl rfl rfl ?_
        have d0 : dy = 0 := by omega
        subst d0
        exact ⟨V1, X1, _, m, ⟨t + 1, 0, by omega, hk, iq, hdq, r.1.2.2.1, fun e he => r.1.2.1 e he, fun e => r.y60 e, CD.const (N := dx + 1) (fun e he => r.1.1 e (by omega)) r.1.2.2.1 (fun e he => r.1.2.1 e he) cd⟩, hb, h81, fr, dg, rfl⟩
      · simp only [jc, Bool.not_eq_true', Bool.not_eq_false', decide_eq_true_eq, decide_eq_false_iff_not] at c2
        iterate 2 refine mj_T.pl rfl rfl rfl rfl ?_
        refine mT_get m 16 cq_d172 (by decide) rfl rfl ?_
        iterate 2 refine mj_T.pl rfl rfl rfl rfl ?_
        refine mj_T.isub (a := (((t + 2) : Nat) : Int)) (b := 2) rfl ?_
        rw [show ((t + 2 : Nat) : Int) - 2 = ((t : Nat) : Int) by omega]
        refine mT_aald m 5 cq_d173 (by decide) rfl rfl (by omega) ⟨by omega, by omega⟩ ?_
        refine mj_T.eq (st2 := [.ref (sro t), .ref 172]) ?_ rfl rfl rfl rfl
        refine mj_T.pl rfl rfl rfl rfl ?_
        refine mT_get m 16 cq_d172 (by decide) rfl rfl ?_
        iterate 2 refine mj_T.pl rfl rfl rfl rfl ?_
        refine mj_T.isub (a := (((t + 2) : Nat) : Int)) (b := 1) rfl ?_
        rw [show ((t + 2 : Nat) : Int) - 1 = ((t + 1 : Nat) : Int) by omega]
        refine mT_aald m 5 cq_d173 (by decide) rfl rfl (by omega) ⟨by omega, by omega⟩ ?_
        refine mj_T.eq (st2 := [.ref (sro (t + 1)), .ref (sro t), .ref 172]) ?_ rfl rfl rfl rfl
        refine mj_T.pl rfl rfl rfl rfl ?_
        refine mT_get m 16 cq_d172 (by decide) rfl rfl ?_
        refine mj_T.pl rfl rfl rfl rfl ?_
        refine mT_aald m 5 cq_d173 (by decide) rfl rfl (by omega) ⟨by omega, by omega⟩ ?_
        refine mj_T.eq (st2 := [.ref (sro (t + 2)), .ref (sro (t + 1)), .ref (sro t), .ref 172]) ?_ rfl rfl rfl rfl
        have h1 : 1 ≤ dy := by omega
        have hgap : ∃ gap, dx = dy + gap := ⟨dx - dy, by have := r.1.2.2.2.1; omega⟩
        obtain ⟨gap, hgap⟩ := hgap
        subst hgap
        have g1 : dy + gap - dy = gap := by omega
        have hcap : ∀ i, i < cL (sro (t + 2) + 3) → jnl ((rdv (pcs V1 (sro t)) (pcs V1 (sro (t + 1))) (dy + gap) dy (V1 174) (V1 176)) i).natAbs ≤ cL (sro (t + 2) + 4 + 2 * i + 1) := fun i hi => by
          rw [mK_z.2.2.2.2.2.2.1 (t + 2) (by omega) i (by rw [if_neg (by omega)]; omega), if_neg (by omega)]
          exact r.rcap hm hn bA bB h1 i (by omega)
        have hlq := r.rlq h1
        have hk60 := r.rk60 bA bB hm hn h1
        have hfit := r.fit h1
        rw [g1] at hlq hk60 hfit
        refine mj_T.call rfl rfl (Nat.le_of_ble_eq_true rfl) (Nat.le_of_ble_eq_true rfl) (mV_of m 16 cq_d172 (by decide) rfl (by decide) rfl _) rfl (mj_Ok.up (by omega) (mR_next (D := D) (gap := gap) (dy := dy) (al := bdf (25 - 2 * (dy + gap))) (be := bdf (26 - 2 * (dy + gap))) m ((sro_k (t := t) (by omega)).1) ((sro_k (t := t + 1) (by omega)).1) ((sro_k (t := t + 2) (by omega)).1) (sro_2 (by omega)).1 (sro_2 (by omega)).1 (sro_2 (by omega)).1 (((sro_2 (i := t + 1) (by omega)).2.2 (t + 2) (by omega)).1 (by omega)) ip iq hdq (by have := r.2.1; omega) (hb t (by omega)) h81 r.2.2.1 r.2.2.2.1 (bdf_pos _) hfit (jB_15 (m := 70) (Nat.lt_of_le_of_lt (bdf_mono (show 26 - 2 * (dy + gap) ≤ 26 by omega)) (by decide +kernel)) (by decide)) r.r174.1 r.r174.2 hcap hlq (r.rl60 h1) hk60)) (fun v g3 hq => ?_) (fun i g3 hq => ?_)
        rotate_left
        · obtain ⟨_, _, _, _, _, _, _, _, _, _, _, _, _, hq⟩ := hq; cases hq
        obtain ⟨V3, X3, _, m4, hpm, _, _, hX3, e174, e176, f_V, fX, f80, hq⟩ := hq
        cases hq
        have s20 := (sro_2 (i := t + 2) (by omega))
        have s12 : sro (t + 1) ≠ sro (t + 2) := ((sro_2 (i := t + 1) (by omega)).2.2 (t + 2) (by omega)).1 (by omega)
        have hr240 := s20.2.1 (by omega)
        have hfq := mP_far ((sro_k (t := t + 1) (by omega)).1) ((sro_k (t := t + 2) (by omega)).1) s12
        have hps := mP_pos ((sro_k (t := t + 2) (by omega)).1)
        have hps2 := mP_pos ((sro_k (t := t + 1) (by omega)).1)
        have s11 := (sro_2 (i := t + 1) (by omega)).1
        have eq_3 : pcs V3 (sro (t + 1)) = pcs V1 (sro (t + 1)) := funext fun e => by
          unfold pcs
          by_cases c : e < cL (sro (t + 1) + 3)
          · rw [if_pos c, if_pos c, f_V _ (by omega) (by omega) (by omega) (by omega) (by omega) (by omega) (by omega)]
          · rw [if_neg c, if_neg c]
        have hb3 : ∀ j, j < 14 → V3 (sro j + 1) = 0 := fun j hj => by
          have q1 := (sro_2 hj).1
          have q2 := ((sro_2 hj).2.2 (t + 2) (by omega)).2 (by omega)
          have q3 := mP_pos (sro_k hj).1
          have q4 := (mK_p (sro_k hj).1).2.2.1
          rw [f_V _ (by omega) (by omega) (by omega) (by omega) (by omega) (by omega) (by omega)]
          exact hb j hj
        have h813 : V3 81 = 0 := (f_V 81 (by decide) (by decide) (by decide) (by decide) (by decide) (by decide) (by omega)).trans h81
        have fr3 : (∀ a, a ≠ 80 → a ≠ sro (t + 2) → X3 a = X1 a) → GFr V X V3 X3 := fun fX => by
          refine ⟨fun x x1 x2 x3 x4 x5 x6 x7 => ?_, fun a a1 a2 a3 => ?_⟩
          · rw [f_V x (by omega) x2 x3 x4 x5 x6 (by omega)]
            exact fr.1 x x1 x2 x3 x4 x5 x6 x7
          · rw [fX a a1 (by omega)]
            exact fr.2 a a1 a2 a3
        have dg3 : DG X3 := fun a ka => by
          by_cases c : a = sro (t + 2)
          · subst c
            have := fdg_le (rdv (pcs V1 (sro t)) (pcs V1 (sro (t + 1))) (dy + gap) dy (V1 174) (V1 176)) (cL (sro (t + 2) + 3))
            rw [hX3]
            omega
          · by_cases d : a = 80
            · subst d
              have p83 : cL (80 + 3) = 13 := mK_z.2.2.1
              omega
            · rw [fX a d c]
              exact dg a ka
        have hz0 : fdg (rdv (pcs V1 (sro t)) (pcs V1 (sro (t + 1))) (dy + gap) dy (V1 174) (V1 176)) (cL (sro (t + 2) + 3)) = 0 → ∀ e, (rdv (pcs V1 (sro t)) (pcs V1 (sro (t + 1))) (dy + gap) dy (V1 174) (V1 176)) e = 0 := fun q e => by
          by_cases c : e < cL (sro (t + 2) + 3)
          · exact fdg_zero (rdv (pcs V1 (sro t)) (pcs V1 (sro (t + 1))) (dy + gap) dy (V1 174) (V1 176)) _ e (by omega) c
          · exact r.rlow e (by omega)
        refine mj_T.eq (pc2 := 88) (st2 := []) ?_ rfl rfl rfl rfl
        refine mj_T.pl rfl rfl rfl rfl ?_
        refine mT_get m4 16 cq_d172 (by decide) rfl rfl ?_
        refine mj_T.pl rfl rfl rfl rfl ?_
        refine mT_aald m4 5 cq_d173 (by decide) rfl rfl (by omega) ⟨by omega, by omega⟩ ?_
        refine mj_T.eq (st2 := [.ref (sro (t + 2))]) ?_ rfl rfl rfl rfl
        refine mT_get (v := .int (jn ((fdg (rdv (pcs V1 (sro t)) (pcs V1 (sro (t + 1))) (dy + gap) dy (V1 174) (V1 176)) (cL (sro (t + 2) + 3)) : Int) - 1))) m4 13 (sro_k (t := t + 2) (by omega)).1 (by decide) rfl (congrArg (fun z : Int => some (Value.int (jn z))) (hX3)) ?_
        refine mj_T.if0 (a := ((fdg (rdv (pcs V1 (sro t)) (pcs V1 (sro (t + 1))) (dy + gap) dy (V1 174) (V1 176)) (cL (sro (t + 2) + 3)) : Int) - 1)) rfl ⟨by have := fdg_le (rdv (pcs V1 (sro t)) (pcs V1 (sro (t + 1))) (dy + gap) dy (V1 174) (V1 176)) (cL (sro (t + 2) + 3)); omega, by have := fdg_le (rdv (pcs V1 (sro t)) (pcs V1 (sro (t + 1))) (dy + gap) dy (V1 174) (V1 176)) (cL (sro (t + 2) + 3)); omega⟩ (fun c5 => ?_) (fun c5 => ?_)
        · simp only [jc, Bool.not_eq_true', Bool.not_eq_false', decide_eq_true_eq, decide_eq_false_iff_not] at c5
          iterate 3 refine mj_T.pl rfl rfl rfl rfl ?_
          refine mj_T.iadd (a := (((t + 2) : Nat) : Int)) (b := 1) rfl ?_
          refine mT_put (v := ((((t + 2) : Nat) : Int) + 1)) m4 16 cq_d172 (by decide) rfl (by simp [jMf, xup]) (by simp [jMf]) rfl (fun h6 m7 => ?_)
          refine mj_T.iinc rfl rfl ?_
          rw [show (((t + 2) : Nat) : Int) + 1 = (((t + 2) + 1 : Nat) : Int) by omega]
          refine mj_T.eq (loc2 := [some (.ref 172), some (.int (jn ((((t + 2) + 1) : Nat) : Int)))]) ?_ rfl rfl rfl rfl
          refine mj_T.pl rfl rfl rfl rfl ?_
          have hfl := fdg_le (rdv (pcs V1 (sro t)) (pcs V1 (sro (t + 1))) (dy + gap) dy (V1 174) (V1 176)) (cL (sro (t + 2) + 3))
          have hfn := fdg_ne (rdv (pcs V1 (sro t)) (pcs V1 (sro (t + 1))) (dy + gap) dy (V1 174) (V1 176)) (cL (sro (t + 2) + 3)) (by omega)
          have hlt : fdg (rdv (pcs V1 (sro t)) (pcs V1 (sro (t + 1))) (dy + gap) dy (V1 174) (V1 176)) (cL (sro (t + 2) + 3)) - 1 < dy := by
            rcases Nat.lt_or_ge (fdg (rdv (pcs V1 (sro t)) (pcs V1 (sro (t + 1))) (dy + gap) dy (V1 174) (V1 176)) (cL (sro (t + 2) + 3)) - 1) dy with q | q
            · exact q
            · exact absurd (r.rlow _ q) hfn
          have hpF : pm (pcs V3 (sro (t + 2))) (rdv (pcs V1 (sro t)) (pcs V1 (sro (t + 1))) (dy + gap) dy (V1 174) (V1 176)) := by
            have hl : ∀ i, ¬ i < cL (sro (t + 2) + 3) → (rdv (pcs V1 (sro t)) (pcs V1 (sro (t + 1))) (dy + gap) dy (V1 174) (V1 176)) i = 0 := fun i hi => r.rlow i (by omega)
            rcases hpm with q | q
            · refine Or.inl fun i => ?_
              by_cases c : i < cL (sro (t + 2) + 3)
              · rw [pcs_in c, q i c]
              · rw [pcs_out c, hl i c]
            · refine Or.inr fun i => ?_
              by_cases c : i < cL (sro (t + 2) + 3)
              · rw [pcs_in c, q i c]
              · rw [pcs_out c, hl i c]
                rfl
          have hFz : ∀ i, fdg (rdv (pcs V1 (sro t)) (pcs V1 (sro (t + 1))) (dy + gap) dy (V1 174) (V1 176)) (cL (sro (t + 2) + 3)) - 1 < i → pcs V3 (sro (t + 2)) i = 0 := fun i hi => by
            have q0 : (rdv (pcs V1 (sro t)) (pcs V1 (sro (t + 1))) (dy + gap) dy (V1 174) (V1 176)) i = 0 := by
              by_cases c : i < cL (sro (t + 2) + 3)
              · exact fdg_zero (rdv (pcs V1 (sro t)) (pcs V1 (sro (t + 1))) (dy + gap) dy (V1 174) (V1 176)) _ i (by omega) c
              · exact r.rlow i (by omega)
            rcases hpF with q | q
            · rw [q i, q0]
            · rw [q i, q0]
              rfl
          have hFn : pcs V3 (sro (t + 2)) (fdg (rdv (pcs V1 (sro t)) (pcs V1 (sro (t + 1))) (dy + gap) dy (V1 174) (V1 176)) (cL (sro (t + 2) + 3)) - 1) ≠ 0 := by
            rcases hpF with q | q
            · rw [q]
              exact hfn
            · rw [q]
              omega
          have r3 : RB A B ma na (pcs V3 (sro (t + 1))) (pcs V3 (sro (t + 2))) dy (fdg (rdv (pcs V1 (sro t)) (pcs V1 (sro (t + 1))) (dy + gap) dy (V1 174) (V1 176)) (cL (sro (t + 2) + 3)) - 1) (V3 174) (V3 176) := by
            rw [eq_3, e174, e176]
            exact r.next hm hn bA bB h1 hpF hlt hFz hFn
          have cd3 : CD A B (pcs V3 (sro (t + 1))) (pcs V3 (sro (t + 2))) := by
            rw [eq_3]
            exact CD.next r.1 h1 hpF cd
          refine mR_go_loop hm hn bA bB u (t + 1) (by omega) V3 _ _ _ _ m7 r3 cd3 ?_ ?_ (by omega) ?_ hb3 h813 ?_ (dg3.oth (by decide +kernel))
          · exact (congrFun ((xup_oth (by omega)).trans (fX (sro (t + 1)) (by omega) s12)) 2).trans iq
          · exact (congrFun (xup_oth (b := sro (t + 2)) (by omega)) 2).trans (hX3.trans (by omega))
          · rw [xup_at]
            omega
          · have f4 := fr3 fX
            exact ⟨f4.1, fun a a1 a2 a3 => (xup_oth a2).trans (f4.2 a a1 a2 a3)⟩
        · simp only [jc, Bool.not_eq_true', Bool.not_eq_false', decide_eq_true_eq, decide_eq_false_iff_not] at c5
          refine mj_T.ret rfl rfl rfl ⟨V3, X3, _, m4, ⟨t + 1, dy, by omega, (congrFun (fX 172 (by decide) (by omega)) 2).trans hk, (congrFun (fX (sro (t + 1)) (by omega) s12) 2).trans iq, hdq, ?_, ?_, ?_, ?_⟩, hb3, h813, fr3 fX, dg3, rfl⟩
          · rw [eq_3]
            exact r.1.2.2.1
          · rw [eq_3]
            exact r.1.2.1
          · rw [eq_3]
            exact r.y60
          · rw [eq_3]
            exact CD.last r.1 h1 (fun e => hz0 (by omega) e) cd
theorem pcs_jvu {V : Nat → Int} {a p : Nat} {v : Int} (h : a < p + 4) : pcs (jvu V a v) p = pcs V p := funext fun e => by
  unfold pcs
  by_cases c : e < cL (p + 3)
  · rw [if_pos c, if_pos c, jvu_ne _ _ _ (by omega)]
  · rw [if_neg c, if_neg c]
theorem qdv_0 (G : pz_P) {x : pz_P} (h : ∀ i, x i = 0) : qdv G x := by
  rw [show x = pz_0 from funext h]
  exact qdv.z G
theorem mR_goOn (m : jM g n V X h) (dg : DG X) {ma na : Nat} (hX0 : X 180 2 = (ma : Int)) (hA : ∀ i, ma < i → pcs V 180 i = 0) (hm : ma ≤ 12) (bA : ∀ e, (pcs V 180 e).natAbs ≤ bM) (hb : ∀ j, j < 14 → V (sro j + 1) = 0) (h81 : V 81 = 0) (hX1 : X 210 2 = (na : Int)) (hB : ∀ i, na < i → pcs V 210 i = 0) (hB0 : pcs V 210 na ≠ 0) (hn : na ≤ 12) (hmn : na ≤ ma) (bB : ∀ e, (pcs V 210 e).natAbs ≤ bM) : mj_Ok (D + 6) 70 [.ref 172] h (fun z => ∃ V2 X2 h2, jM g n V2 X2 h2 ∧ GEnd (pcs V 180) (pcs V 210) V2 X2 ∧ (∀ j, j < 14 → V2 (sro j + 1) = 0) ∧ V2 81 = 0 ∧ GFr V X V2 X2 ∧ DG X2 ∧ z = (.inl none, h2)) := by
  have hL : cL 173 = 14 := mK_r.2.2.2.1
  have h175 : 3 ≤ cL (174 + 1) := by decide +kernel
  have h177 : 3 ≤ cL (176 + 1) := by decide +kernel
  refine mj_Ok.of (M := mj_m70) rfl rfl rfl ?_
  iterate 2 refine mj_T.pl rfl rfl rfl rfl ?_
  refine mT_get m 16 cq_d172 (by decide) rfl rfl ?_
  refine mj_T.pl rfl rfl rfl rfl ?_
  refine mT_aald m 5 cq_d173 (by decide) rfl rfl (by omega) ⟨by omega, by omega⟩ ?_
  refine mj_T.eq (st2 := [.ref 210, .ref 172]) ?_ rfl rfl rfl rfl
  refine mT_get (v := .int (jn ((na : Nat) : Int))) m 13 cq_d210 (by decide) rfl (congrArg (fun z : Int => some (Value.int (jn z))) ((by first | exact hX1 | exact (congrFun (xup_oth (by decide)) 2).trans hX1))) ?_
  refine mj_T.if0 (a := ((na : Nat) : Int)) rfl ⟨by omega, by omega⟩ (fun c1 => ?_) (fun c1 => ?_)
  · simp only [jc, Bool.not_eq_true', Bool.not_eq_false', decide_eq_true_eq, decide_eq_false_iff_not] at c1
    refine mj_T.pl rfl rfl rfl rfl ?_
    refine mT_put (v := 2) m 16 cq_d172 (by decide) rfl (by simp [jMf, xup]) (by simp [jMf]) rfl (fun h2 m3 => ?_)
    refine mj_T.pl rfl rfl rfl rfl ?_
    refine mT_get m3 16 cq_d172 (by decide) rfl rfl ?_
    refine jT.lc 1 rfl rfl ?_
    refine mj_T.call rfl rfl (Nat.le_of_ble_eq_true rfl) (Nat.le_of_ble_eq_true rfl) (mV_of m3 18 cq_d174 (by decide) rfl (by decide) rfl _) rfl (mj_Ok.up (by omega) (mW_setLong (D := 0) (v := ((1 : Nat) : Int)) m3 cq_d174 ⟨by decide, by decide⟩ (Nat.le_trans (jnl_R (v := 1) (by decide)) h175))) (fun v g4 hq => ?_) (fun i g4 hq => ?_)
    rotate_left
    · obtain ⟨_, _, hq⟩ := hq; cases hq
    obtain ⟨_, m5, hq⟩ := hq
    cases hq
    have m5 := m5.to (V' := (jvu V 174 ((1 : Nat) : Int))) (by rfl) rfl
    refine mj_T.eq (pc2 := 29) (st2 := []) ?_ rfl rfl rfl rfl
    refine mj_T.pl rfl rfl rfl rfl ?_
    refine mT_get m5 16 cq_d172 (by decide) rfl rfl ?_
    refine jT.lc 1 rfl rfl ?_
    refine mj_T.call rfl rfl (Nat.le_of_ble_eq_true rfl) (Nat.le_of_ble_eq_true rfl) (mV_of m5 18 cq_d176 (by decide) rfl (by decide) rfl _) rfl (mj_Ok.up (by omega) (mW_setLong (D := 0) (v := ((1 : Nat) : Int)) m5 cq_d176 ⟨by decide, by decide⟩ (Nat.le_trans (jnl_R (v := 1) (by decide)) h177))) (fun v g6 hq => ?_) (fun i g6 hq => ?_)
    rotate_left
    · obtain ⟨_, _, hq⟩ := hq; cases hq
    obtain ⟨_, m7, hq⟩ := hq
    cases hq
    have m7 := m7.to (V' := (jvu (jvu V 174 ((1 : Nat) : Int)) 176 ((1 : Nat) : Int))) (by rfl) rfl
    refine mj_T.eq (pc2 := 37) (st2 := []) ?_ rfl rfl rfl rfl
    refine mj_T.pl rfl rfl rfl rfl ?_
    refine mj_T.pl (loc' := [some (.ref 172), some (.int (jn 2))]) rfl rfl rfl rfl ?_
    obtain ⟨V1, hV1⟩ : ∃ V1, V1 = (jvu (jvu V 174 ((1 : Nat) : Int)) 176 ((1 : Nat) : Int)) := ⟨_, rfl⟩
    rw [← hV1] at m7
    have p0 : pcs V1 180 = pcs V 180 := by rw [hV1, pcs_jvu (by decide), pcs_jvu (by decide)]
    have p1 : pcs V1 210 = pcs V 210 := by rw [hV1, pcs_jvu (by decide), pcs_jvu (by decide)]
    have o1 : V1 174 = 1 := by rw [hV1, jvu_ne _ _ _ (by decide), jvu_at]; rfl
    have o2 : V1 176 = 1 := by rw [hV1, jvu_at]; rfl
    have oo : ∀ x, x ≠ 174 → x ≠ 176 → V1 x = V x := fun x x1 x2 => by rw [hV1, jvu_ne _ _ _ x2, jvu_ne _ _ _ x1]
    have hb1 : ∀ j, j < 14 → V1 (sro j + 1) = 0 := fun j hj => by
      have := (sro_2 hj).1
      rw [oo _ (by omega) (by omega)]
      exact hb j hj
    have h811 : V1 81 = 0 := (oo 81 (by decide) (by decide)).trans h81
    have fr1 : GFr V X V1 (xup X 172 2 2) := ⟨fun x _ _ _ _ x5 x6 _ => oo x x5 x6, fun a _ a2 _ => xup_oth a2⟩
    refine mj_T.eq (loc2 := [some (.ref 172), some (.int (jn ((0 + 2 : Nat) : Int)))]) ?_ rfl rfl rfl rfl
    refine mR_go_loop (D := D) hm hn bA bB 12 0 (by omega) V1 _ _ ma na m7 ?_ ?_ ((congrFun (xup_oth (by decide)) 2).trans hX0) ((congrFun (xup_oth (by decide)) 2).trans hX1) (by omega) (xup_at _ _ _ _) hb1 h811 fr1 (dg.oth (by decide +kernel))
    · show RB (pcs V 180) (pcs V 210) ma na (pcs V1 180) (pcs V1 210) ma na (V1 174) (V1 176)
      rw [p0, p1, o1, o2]
      exact RB.start hA hB hB0 hmn hm bA bB
    · show CD (pcs V 180) (pcs V 210) (pcs V1 180) (pcs V1 210)
      rw [p0, p1]
      exact CD.start _ _
  · exfalso
    simp only [jc, Bool.not_eq_true', Bool.not_eq_false', decide_eq_true_eq, decide_eq_false_iff_not] at c1
    omega
theorem mR_goOn0 (m : jM g n V X h) (dg : DG X) {ma : Nat} (hX0 : X 180 2 = (ma : Int)) (hA : ∀ i, ma < i → pcs V 180 i = 0) (hm : ma ≤ 12) (bA : ∀ e, (pcs V 180 e).natAbs ≤ bM) (hb : ∀ j, j < 14 → V (sro j + 1) = 0) (h81 : V 81 = 0) (hX1 : X 210 2 = -1) (hB : ∀ i, pcs V 210 i = 0) (hA0 : pcs V 180 ma ≠ 0) : mj_Ok (D + 6) 70 [.ref 172] h (fun z => ∃ V2 X2 h2, jM g n V2 X2 h2 ∧ GEnd (pcs V 180) (pcs V 210) V2 X2 ∧ (∀ j, j < 14 → V2 (sro j + 1) = 0) ∧ V2 81 = 0 ∧ GFr V X V2 X2 ∧ DG X2 ∧ z = (.inl none, h2)) := by
  have hmc : ma < cL (sro 0 + 3) := by rw [(sro_k (t := 0) (by decide)).2]; split <;> omega
  have hL : cL 173 = 14 := mK_r.2.2.2.1
  have h175 : 3 ≤ cL (174 + 1) := by decide +kernel
  have h177 : 3 ≤ cL (176 + 1) := by decide +kernel
  refine mj_Ok.of (M := mj_m70) rfl rfl rfl ?_
  iterate 2 refine mj_T.pl rfl rfl rfl rfl ?_
  refine mT_get m 16 cq_d172 (by decide) rfl rfl ?_
  refine mj_T.pl rfl rfl rfl rfl ?_
  refine mT_aald m 5 cq_d173 (by decide) rfl rfl (by omega) ⟨by omega, by omega⟩ ?_
  refine mj_T.eq (st2 := [.ref 210, .ref 172]) ?_ rfl rfl rfl rfl
  refine mT_get (v := .int (jn (-1))) m 13 cq_d210 (by decide) rfl (congrArg (fun z : Int => some (Value.int (jn z))) ((by first | exact hX1 | exact (congrFun (xup_oth (by decide)) 2).trans hX1))) ?_
  refine mj_T.if0 (a := (-1)) rfl ⟨by omega, by omega⟩ (fun c1 => ?_) (fun c1 => ?_)
  · exfalso
    simp only [jc, Bool.not_eq_true', Bool.not_eq_false', decide_eq_true_eq, decide_eq_false_iff_not] at c1
    omega
  · simp only [jc, Bool.not_eq_true', Bool.not_eq_false', decide_eq_true_eq, decide_eq_false_iff_not] at c1
    iterate 2 refine mj_T.pl rfl rfl rfl rfl ?_
    refine mT_put (v := 1) m 16 cq_d172 (by decide) rfl (by simp [jMf, xup]) (by simp [jMf]) rfl (fun h2 m3 => ?_)
    refine mj_T.pl rfl rfl rfl rfl ?_
    refine mT_get m3 16 cq_d172 (by decide) rfl rfl ?_
    refine jT.lc 1 rfl rfl ?_
    refine mj_T.call rfl rfl (Nat.le_of_ble_eq_true rfl) (Nat.le_of_ble_eq_true rfl) (mV_of m3 18 cq_d174 (by decide) rfl (by decide) rfl _) rfl (mj_Ok.up (by omega) (mW_setLong (D := 0) (v := ((1 : Nat) : Int)) m3 cq_d174 ⟨by decide, by decide⟩ (Nat.le_trans (jnl_R (v := 1) (by decide)) h175))) (fun v g4 hq => ?_) (fun i g4 hq => ?_)
    rotate_left
    · obtain ⟨_, _, hq⟩ := hq; cases hq
    obtain ⟨_, m5, hq⟩ := hq
    cases hq
    have m5 := m5.to (V' := (jvu V 174 ((1 : Nat) : Int))) (by rfl) rfl
    refine mj_T.eq (pc2 := 29) (st2 := []) ?_ rfl rfl rfl rfl
    refine mj_T.pl rfl rfl rfl rfl ?_
    refine mT_get m5 16 cq_d172 (by decide) rfl rfl ?_
    refine jT.lc 1 rfl rfl ?_
    refine mj_T.call rfl rfl (Nat.le_of_ble_eq_true rfl) (Nat.le_of_ble_eq_true rfl) (mV_of m5 18 cq_d176 (by decide) rfl (by decide) rfl _) rfl (mj_Ok.up (by omega) (mW_setLong (D := 0) (v := ((1 : Nat) : Int)) m5 cq_d176 ⟨by decide, by decide⟩ (Nat.le_trans (jnl_R (v := 1) (by decide)) h177))) (fun v g6 hq => ?_) (fun i g6 hq => ?_)
    rotate_left
    · obtain ⟨_, _, hq⟩ := hq; cases hq
    obtain ⟨_, m7, hq⟩ := hq
    cases hq
    have m7 := m7.to (V' := (jvu (jvu V 174 ((1 : Nat) : Int)) 176 ((1 : Nat) : Int))) (by rfl) rfl
    refine mj_T.eq (pc2 := 37) (st2 := []) ?_ rfl rfl rfl rfl
    refine mj_T.pl rfl rfl rfl rfl ?_
    refine mj_T.pl (loc' := [some (.ref 172), some (.int (jn 2))]) rfl rfl rfl rfl ?_
    obtain ⟨V1, hV1⟩ : ∃ V1, V1 = (jvu (jvu V 174 ((1 : Nat) : Int)) 176 ((1 : Nat) : Int)) := ⟨_, rfl⟩
    rw [← hV1] at m7
    have p0 : pcs V1 180 = pcs V 180 := by rw [hV1, pcs_jvu (by decide), pcs_jvu (by decide)]
    have p1 : pcs V1 210 = pcs V 210 := by rw [hV1, pcs_jvu (by decide), pcs_jvu (by decide)]
    have o1 : V1 174 = 1 := by rw [hV1, jvu_ne _ _ _ (by decide), jvu_at]; rfl
    have o2 : V1 176 = 1 := by rw [hV1, jvu_at]; rfl
    have oo : ∀ x, x ≠ 174 → x ≠ 176 → V1 x = V x := fun x x1 x2 => by rw [hV1, jvu_ne _ _ _ x2, jvu_ne _ _ _ x1]
    have hb1 : ∀ j, j < 14 → V1 (sro j + 1) = 0 := fun j hj => by
      have := (sro_2 hj).1
      rw [oo _ (by omega) (by omega)]
      exact hb j hj
    have h811 : V1 81 = 0 := (oo 81 (by decide) (by decide)).trans h81
    have fr1 : GFr V X V1 (xup X 172 2 1) := ⟨fun x _ _ _ _ x5 x6 _ => oo x x5 x6, fun a _ a2 _ => xup_oth a2⟩
    iterate 2 refine mj_T.pl rfl rfl rfl rfl ?_
    refine mT_get m7 16 cq_d172 (by decide) rfl rfl ?_
    refine mT_alen m7 5 cq_d173 (by decide) rfl ?_
    refine mj_T.icmp (a := 2) (b := ((cL 173 : Nat) : Int)) rfl ⟨by omega, by omega⟩ ⟨by omega, by omega⟩ (fun c8 => ?_) (fun c8 => ?_)
    · exfalso
      simp only [jc, decide_eq_true_eq, decide_eq_false_iff_not, hL] at c8
      omega
    · simp only [jc, decide_eq_true_eq, decide_eq_false_iff_not, hL] at c8
      refine mj_T.pl rfl rfl rfl rfl ?_
      refine mT_get m7 16 cq_d172 (by decide) rfl rfl ?_
      iterate 2 refine mj_T.pl rfl rfl rfl rfl ?_
      refine mj_T.isub (a := 2) (b := 1) rfl ?_
      rw [show (2 : Int) - 1 = ((1 : Nat) : Int) by decide]
      refine mT_aald m7 5 cq_d173 (by decide) rfl rfl (by omega) ⟨by omega, by omega⟩ ?_
      refine mj_T.eq (st2 := [.ref 210]) ?_ rfl rfl rfl rfl
      refine mT_get (v := .int (jn (-1))) m7 13 cq_d210 (by decide) rfl (congrArg (fun z : Int => some (Value.int (jn z))) ((by first | exact hX1 | exact (congrFun (xup_oth (by decide)) 2).trans hX1))) ?_
      refine mj_T.if0 (a := (-1)) rfl ⟨by omega, by omega⟩ (fun c9 => ?_) (fun c9 => ?_)
      · simp only [jc, Bool.not_eq_true', Bool.not_eq_false', decide_eq_true_eq, decide_eq_false_iff_not] at c9
        refine mj_T.ret rfl rfl rfl ⟨V1, _, _, m7, ⟨0, ma, by decide, xup_at _ _ _ _, (congrFun (xup_oth (by decide)) 2).trans hX0, hmc, ?_, ?_, ?_, ?_⟩, hb1, h811, fr1, dg.oth (by decide +kernel), rfl⟩
        · show pcs V1 180 ma ≠ 0
          rw [p0]
          exact hA0
        · show ∀ e, ma < e → pcs V1 180 e = 0
          rw [p0]
          exact hA
        · show ∀ e, jnl (pcs V1 180 e).natAbs ≤ 60
          rw [p0]
          exact fun e => jnl_le_lt.mpr (Nat.lt_of_le_of_lt (Nat.le_trans (bA e) (by rw [← bdf_one]; exact bdf_mono (by decide))) size_3)
        · show ∀ G, (qdv G (pcs V 180) ∧ qdv G (pcs V 210)) ↔ qdv G (pcs V1 180)
          rw [p0]
          exact fun G => ⟨fun k => k.1, fun k => ⟨k, qdv_0 G hB⟩⟩
      · exfalso
        simp only [jc, Bool.not_eq_true', Bool.not_eq_false', decide_eq_true_eq, decide_eq_false_iff_not] at c9
        omega
end MGO
/-! The class's Wides, loosely: what is written holds some number, all else stays. -/
noncomputable def BAD : Int := ((jB ^ 1500 : Nat) : Int)
theorem BAD_no : ¬ jnl BAD.natAbs ≤ 1500 := by
  rw [jnl_le_lt]
  unfold BAD
  rw [Int.natAbs_natCast]
  exact Nat.lt_irrefl _
/-- nothing is known of these -/
noncomputable def drt (sl : List Nat) (V : Nat → Int) : Nat → Int := fun x => if x ∈ sl then BAD else V x
theorem drt_ne {sl : List Nat} {V : Nat → Int} {x : Nat} (h : ¬ x ∈ sl) : drt sl V x = V x := if_neg h
theorem drt_in {sl : List Nat} {V : Nat → Int} {x : Nat} (h : x ∈ sl) : drt sl V x = BAD := if_pos h
def isW (sl : List Nat) : Prop := ∀ a, a ∈ sl → cK a = 18 ∨ cK a = 12
noncomputable def kS (sl : List Nat) (a : Nat) : Nat := if a ∈ sl ∨ (1 ≤ a ∧ a - 1 ∈ sl) then cK a else 0
theorem mK_20 : ((List.range 563).all (fun a => !(decide (cK a = 18) || decide (cK a = 12)) || decide (cR a 0 = a + 1))) = true := by decide +kernel
theorem mK_r0 {a : Nat} (h : cK a = 18 ∨ cK a = 12) : cR a 0 = a + 1 := by
  have h1 := jall mK_20 (cK_in (a := a) (by omega))
  rcases h with h | h <;> simpa [h] using h1
theorem kS_c {sl : List Nat} (hs : isW sl) (a : Nat) : (kS sl a = 0 ∧ ¬ a ∈ sl ∧ ¬ (1 ≤ a ∧ a - 1 ∈ sl)) ∨ (a ∈ sl ∧ kS sl a = 18 ∧ cK a = 18) ∨ (a ∈ sl ∧ kS sl a = 12 ∧ cK a = 12) ∨ (1 ≤ a ∧ a - 1 ∈ sl ∧ kS sl a = 1 ∧ cK a = 1) := by
  unfold kS
  by_cases c : a ∈ sl
  · rcases hs a c with e | e
    · exact Or.inr (Or.inl ⟨c, by rw [if_pos (Or.inl c), e], e⟩)
    · exact Or.inr (Or.inr (Or.inl ⟨c, by rw [if_pos (Or.inl c), e], e⟩))
  · by_cases d : 1 ≤ a ∧ a - 1 ∈ sl
    · have e := (mK_w (hs _ d.2)).1
      rw [show a - 1 + 1 = a by omega] at e
      exact Or.inr (Or.inr (Or.inr ⟨d.1, d.2, by rw [if_pos (Or.inr d), e], e⟩))
    · exact Or.inl ⟨if_neg (fun q => q.elim c d), c, d⟩
theorem kS_in {sl : List Nat} {a : Nat} (h : a ∈ sl) : kS sl a = cK a := if_pos (Or.inl h)
theorem kS_ty {sl : List Nat} (hs : isW sl) : jTY (kS sl) cL cR := by
  have w1 : ∀ a, kS sl a = 18 ∨ kS sl a = 12 → a ∈ sl ∧ (cK a = 18 ∨ cK a = 12) := fun a h => by
    rcases kS_c hs a with q | q | q | q
    · omega
    · exact ⟨q.1, Or.inl q.2.2⟩
    · exact ⟨q.1, Or.inr q.2.2⟩
    · omega
  have w2 : ∀ a, kS sl a = 0 ∨ kS sl a = 1 ∨ kS sl a = 18 ∨ kS sl a = 12 := fun a => by
    rcases kS_c hs a with q | q | q | q <;> omega
  have w3 : ∀ a, a ∈ sl → kS sl (a + 1) = 1 := fun a h => by
    unfold kS
    rw [if_pos (Or.inr ⟨by omega, by rw [Nat.add_sub_cancel]; exact h⟩)]
    exact (mK_w (hs a h)).1
  refine ⟨fun a i c h1 h2 => ?_, fun a h1 h2 => ?_, fun a i h1 h2 _ => ?_, fun a h => ?_, fun a h => ?_, fun a h => ?_, fun a b h _ => ?_, fun a h => ?_⟩
  · rcases w2 a with q | q | q | q
    · rw [q] at h1
      simp [jfs] at h1
    · rw [q] at h1
      simp [jfs] at h1
    · rw [q] at h1
      obtain ⟨y1, y2⟩ := w1 a (Or.inl q)
      match i, h1 with
      | 0, h1 => cases h1; rw [mK_r0 y2]; exact w3 a y1
      | 1, h1 => cases h1; omega
      | 2, h1 => cases h1; omega
      | i + 3, h1 => simp [jfs] at h1
    · rw [q] at h1
      obtain ⟨y1, y2⟩ := w1 a (Or.inr q)
      match i, h1 with
      | 0, h1 => cases h1; rw [mK_r0 y2]; exact w3 a y1
      | 1, h1 => cases h1; omega
      | 2, h1 => cases h1; omega
      | 3, h1 => cases h1; omega
      | i + 4, h1 => simp [jfs] at h1
  · rcases kS_c hs a with q | q | q | q
    · omega
    · omega
    · omega
    · have e := (mK_w (hs _ q.2.1)).2.1
      rw [show a - 1 + 1 = a by omega] at e
      rw [q.2.2.1]
      show (0 : Int) ≤ _ ∧ _ ≤ (1000 : Int)
      omega
  · have := w2 a
    omega
  · obtain ⟨y1, y2⟩ := w1 a (Or.inr h)
    have e : cK a = 12 := by rw [← kS_in y1]; exact h
    rw [mK_r0 y2]
    exact mK_d e
  · have := w2 a
    omega
  · have := w2 a
    omega
  · have := w2 a
    omega
  · have := w2 a
    omega
section MLO
variable {g h : mj_H} {n D : Nat} {V : Nat → Int} {X : Nat → Nat → Int} {sl : List Nat}
theorem jan (w : Int32) : ∃ x : Int, -2147483648 ≤ x ∧ x ≤ 2147483647 ∧ Value.int w = .int (jn x) := ⟨w.toInt, (jr_of w).1, by have := (jr_of w).2; omega, by rw [jn_of]⟩
theorem jlim {h : mj_H} {a n : Nat} {q : Nat → Int32} (hq : h[a]? = some (.inl (0, n, fun j => .int (q j)))) (hn : n = cL a) {R : Nat → Nat → Nat} : ∃ e, h[a]? = some e ∧ jCf (kS sl) cL R 0 1 a e := by
  refine ⟨_, hq, ?_⟩
  unfold jCf
  rw [if_pos (by omega), hn]
  refine ⟨fun j => .int (q j), rfl, fun i => ?_⟩
  rw [if_pos (Or.inl rfl)]
  exact ⟨(q i).toInt, jr_of _, by rw [jn_of]⟩
theorem kS_O (M : jM g n V X h) (hs : isW sl) : jO (kS sl) cL cR h n 0 h := by
  have hn := M.1
  refine ⟨hn, by omega, fun a _ => ⟨fun _ => rfl, fun h1 h2 => absurd h1 (by omega)⟩, fun a ha => ?_⟩
  rcases kS_c hs a with q | q | q | q
  · exact absurd q.1 ha
  · obtain ⟨p, s0, g0, hs0, h1, _⟩ := M.T q.2.2
    refine ⟨_, h1, ?_⟩
    rw [q.2.1]
    unfold jCf
    rw [if_neg (by omega)]
    refine ⟨_, rfl, rfl, fun i c hc => ?_⟩
    match i, hc with
    | 0, hc => cases hc; exact ⟨_, rfl, by unfold jfv; rw [if_pos (by omega), mK_r0 (Or.inl q.2.2)]⟩
    | 1, hc => cases hc; exact ⟨_, rfl, by unfold jfv; rw [if_neg (by omega), if_neg (by omega), if_neg (by omega)]; exact ⟨s0, by show (0 : Int) ≤ _; omega, by show _ ≤ (1000 : Int); omega, rfl⟩⟩
    | 2, hc => cases hc; exact ⟨_, rfl, by unfold jfv; rw [if_neg (by omega), if_neg (by omega), if_neg (by omega)]; exact jan g0⟩
    | i + 3, hc => simp [jfs] at hc
  · obtain ⟨p, s0, g0, f0, hs0, h1, _⟩ := M.DT q.2.2
    refine ⟨_, h1, ?_⟩
    rw [q.2.1]
    unfold jCf
    rw [if_neg (by omega)]
    refine ⟨_, rfl, rfl, fun i c hc => ?_⟩
    match i, hc with
    | 0, hc => cases hc; exact ⟨_, rfl, by unfold jfv; rw [if_pos (by omega), mK_r0 (Or.inr q.2.2)]⟩
    | 1, hc => cases hc; exact ⟨_, rfl, by unfold jfv; rw [if_neg (by omega), if_neg (by omega), if_neg (by omega)]; exact ⟨s0, by show (0 : Int) ≤ _; omega, by show _ ≤ (60 : Int); omega, rfl⟩⟩
    | 2, hc => cases hc; exact ⟨_, rfl, by unfold jfv; rw [if_neg (by omega), if_neg (by omega), if_neg (by omega)]; exact jan g0⟩
    | 3, hc => cases hc; exact ⟨_, rfl, by unfold jfv; rw [if_neg (by omega), if_pos rfl]; exact ⟨f0.toInt, jR_of f0, by rw [jl_of]⟩⟩
    | i + 4, hc => simp [jfs] at hc
  · rw [q.2.2.1]
    have e := hs _ q.2.1
    have ea : a - 1 + 1 = a := by omega
    rcases e with e | e
    · obtain ⟨p, _, _, _, _, h2⟩ := M.T e
      rw [ea] at h2
      exact jlim h2 rfl
    · obtain ⟨p, _, _, _, _, _, h2⟩ := M.DT e
      rw [ea] at h2
      exact jlim h2 rfl
theorem jCf_lim {h : mj_H} {a : Nat} {e : mj_E} (h1 : h[a]? = some e) (k : jCf (kS sl) cL cR 0 1 a e) : ∃ q : Nat → Int32, h[a]? = some (.inl (0, cL a, fun j => .int (q j))) := by
  unfold jCf at k
  rw [if_pos (by omega)] at k
  obtain ⟨f, rfl, h2⟩ := k
  have h3 : ∀ i, ∃ w : Int32, f i = .int w := fun i => by
    have := h2 i
    rw [if_pos (Or.inl rfl)] at this
    obtain ⟨x, _, e⟩ := this
    exact ⟨_, e⟩
  refine ⟨fun i => (h3 i).choose, h1.trans ?_⟩
  exact congrArg (fun z : Nat → Value => (some (.inl (0, cL a, z)) : Option mj_E)) (funext fun j => (h3 j).choose_spec)
theorem kS_M (M : jM g n V X h) (hs : isW sl) {h' : mj_H} (o : jO (kS sl) cL cR h n 0 h') : jM g n (drt sl V) X h' := by
  obtain ⟨o1, _, o3, o4⟩ := o
  have hn := M.1
  have lim : ∀ a, a ∈ sl → ∃ q : Nat → Int32, h'[a + 1]? = some (.inl (0, cL (a + 1), fun j => .int (q j))) := fun a ha => by
    have hk : kS sl (a + 1) = 1 := by
      unfold kS
      rw [if_pos (Or.inr ⟨by omega, by rw [Nat.add_sub_cancel]; exact ha⟩)]
      exact (mK_w (hs a ha)).1
    obtain ⟨e, h1, h2⟩ := o4 (a + 1) (by omega)
    rw [hk] at h2
    exact jCf_lim h1 h2
  refine M.up (fun x => x ∈ sl ∨ (1 ≤ x ∧ x - 1 ∈ sl)) (by omega) (fun a ha => ?_) (fun p hp => ?_) (fun a ha => drt_ne (fun q => ha (Or.inl q))) (fun _ _ => rfl) (fun a ha => ?_) (fun a ha => ?_)
  · rcases kS_c hs a with q | q | q | q
    · exact absurd ha (fun y => y.elim q.2.1 q.2.2)
    · omega
    · omega
    · omega
  · have hk : kS sl p = 0 := if_neg hp
    by_cases c : p < h.length
    · exact (o3 p hk).1 c
    · rw [List.getElem?_eq_none (by omega), List.getElem?_eq_none (by omega)]
  · constructor
    · intro q
      rcases q with q | q
      · exact Or.inr ⟨by omega, by rw [Nat.add_sub_cancel]; exact q⟩
      · have e := (mK_w (hs _ q.2)).1
        rw [show a - 1 + 1 = a by omega] at e
        omega
    · intro q
      rcases q with q | q
      · have e := (mK_w ha).1
        have := hs _ q
        omega
      · rw [Nat.add_sub_cancel] at q
        exact Or.inl q.2
  · rcases kS_c hs a with q | q | q | q
    · exact absurd ha (fun y => y.elim q.2.1 q.2.2)
    · rw [q.2.2]
      show wX _ a _ (drt sl V a)
      rw [drt_in q.1]
      refine ⟨?_, fun y => absurd y BAD_no⟩
      obtain ⟨e, h1, h2⟩ := o4 a (by omega)
      rw [q.2.1] at h2
      unfold jCf at h2
      rw [if_neg (by omega)] at h2
      obtain ⟨fs, rfl, hl, hf⟩ := h2
      obtain ⟨v0, e0, k0⟩ := hf 0 101 rfl
      obtain ⟨v1, e1, k1⟩ := hf 1 10 rfl
      obtain ⟨v2, e2, k2⟩ := hf 2 0 rfl
      unfold jfv at k0 k1 k2
      rw [if_pos (by omega), mK_r0 (Or.inl q.2.2)] at k0
      rw [if_neg (by omega), if_neg (by omega), if_neg (by omega)] at k1 k2
      obtain ⟨x1, a1, b1, rfl⟩ := k1
      obtain ⟨x2, _, _, rfl⟩ := k2
      subst k0
      obtain ⟨q2, hq2⟩ := lim a q.1
      refine ⟨q2, x1.toNat, jn x2, ?_, ?_, hq2⟩
      · have : x1 ≤ (1000 : Int) := b1
        omega
      · have a1 : (0 : Int) ≤ x1 := a1
        rw [h1, show ((x1.toNat : Nat) : Int) = x1 by omega]
        match fs, hl, e0, e1, e2 with
        | [_, _, _], _, rfl, rfl, rfl => rfl
    · rw [q.2.2]
      show dX _ a _ (drt sl V a)
      rw [drt_in q.1]
      refine ⟨?_, fun y => absurd y BAD_no⟩
      obtain ⟨e, h1, h2⟩ := o4 a (by omega)
      rw [q.2.1] at h2
      unfold jCf at h2
      rw [if_neg (by omega)] at h2
      obtain ⟨fs, rfl, hl, hf⟩ := h2
      obtain ⟨v0, e0, k0⟩ := hf 0 101 rfl
      obtain ⟨v1, e1, k1⟩ := hf 1 8 rfl
      obtain ⟨v2, e2, k2⟩ := hf 2 0 rfl
      obtain ⟨v3, e3, k3⟩ := hf 3 1 rfl
      unfold jfv at k0 k1 k2 k3
      rw [if_pos (by omega), mK_r0 (Or.inr q.2.2)] at k0
      rw [if_neg (by omega), if_neg (by omega), if_neg (by omega)] at k1 k2
      rw [if_neg (by omega), if_pos rfl] at k3
      obtain ⟨x1, a1, b1, rfl⟩ := k1
      obtain ⟨x2, _, _, rfl⟩ := k2
      obtain ⟨x3, _, rfl⟩ := k3
      subst k0
      obtain ⟨q2, hq2⟩ := lim a q.1
      refine ⟨q2, x1.toNat, jn x2, jl x3, ?_, ?_, hq2⟩
      · have : x1 ≤ (60 : Int) := b1
        omega
      · have a1 : (0 : Int) ≤ x1 := a1
        rw [h1, show ((x1.toNat : Nat) : Int) = x1 by omega]
        match fs, hl, e0, e1, e2, e3 with
        | [_, _, _, _], _, rfl, rfl, rfl, rfl => rfl
    · rw [q.2.2.2]
      show _ ∨ _
      exact Or.inl (hs _ q.2.1)
/-- a contract over kinds, for some Wides -/
theorem mZ_of {j : Nat} {as : List Value} {Vp : Option Value → Prop} (M : jM g n V X h) (hs : isW sl) (c : mj_Ok D j as h (jQ (kS sl) cL cR h n 0 [] Vp)) : mj_Ok D j as h (fun r => ∃ v h', Vp v ∧ jM g n (drt sl V) X h' ∧ r = (.inl v, h')) := c.to fun r hr => by
  match r, hr with
  | (.inl v, h'), hr => exact ⟨v, h', hr.1, kS_M M hs hr.2, rfl⟩
  | (.inr i, h'), hr => exact absurd hr.1 (by simp)
theorem mZ_pof {j : Nat} {as : List Value} {Vp : Option Value → Prop} (c : mj_Ok D j as h (jQp (kS sl) cL cR h n 0 h [] Vp)) : mj_Ok D j as h (fun r => ∃ v, Vp v ∧ r = (.inl v, h)) := c.to fun r hr => by
  match r, hr with
  | (.inl v, h'), hr => exact ⟨v, hr.1, by rw [show h' = h from hr.2]⟩
  | (.inr i, h'), hr => exact absurd hr.1 (by simp)
theorem isW1 {c : Nat} (kc : cK c = 18 ∨ cK c = 12) : isW [c] := fun a ha => by
  rw [List.mem_singleton.mp ha]
  exact kc
theorem isW2 {c a : Nat} (kc : cK c = 18 ∨ cK c = 12) (ka : cK a = 18 ∨ cK a = 12) : isW [c, a] := fun x hx => by
  rcases List.mem_cons.mp hx with e | e
  · rw [e]
    exact kc
  · rw [List.mem_singleton.mp e]
    exact ka
theorem isW3 {c a b : Nat} (kc : cK c = 18 ∨ cK c = 12) (ka : cK a = 18 ∨ cK a = 12) (kb : cK b = 18 ∨ cK b = 12) : isW [c, a, b] := fun x hx => by
  rcases List.mem_cons.mp hx with e | e
  · rw [e]
    exact kc
  · exact isW2 ka kb x e
theorem mZ_n {j : Nat} {as : List Value} (M : jM g n V X h) (hs : isW sl) (c : mj_Ok D j as h (jQ (kS sl) cL cR h n 0 [] jV0)) : mj_Ok D j as h (fun r => ∃ h', jM g n (drt sl V) X h' ∧ r = (.inl none, h')) := (mZ_of M hs c).to fun r hr => by
  obtain ⟨v, h', e, m, rfl⟩ := hr
  rw [show v = none from e]
  exact ⟨h', m, rfl⟩
theorem mZ_86 (M : jM g n V X h) {c : Nat} {v : Int} (kc : cK c = 18) (hv : jR v) : mj_Ok (D + 1) 86 [.ref c, .long (jl v)] h (fun r => ∃ h', jM g n (drt [c] V) X h' ∧ r = (.inl none, h')) := mZ_n M (isW1 (Or.inl kc)) (jc_86 (kS_ty (isW1 (Or.inl kc))) (Nat.le_of_eq M.1) (kS_O M (isW1 (Or.inl kc))) ((kS_in (by simp)).trans kc) hv)
theorem mZ_87 (M : jM g n V X h) {c a : Nat} (kc : cK c = 18) (ka : cK a = 18) : mj_Ok (D + 1) 87 [.ref c, .ref a] h (fun r => ∃ h', jM g n (drt [c, a] V) X h' ∧ r = (.inl none, h')) := mZ_n M (isW2 (Or.inl kc) (Or.inl ka)) (jc_87 (kS_ty (isW2 (Or.inl kc) (Or.inl ka))) (Nat.le_of_eq M.1) (kS_O M (isW2 (Or.inl kc) (Or.inl ka))) ((kS_in (by simp)).trans kc) ((kS_in (by simp)).trans ka))
theorem mZ_88 (M : jM g n V X h) {c a : Nat} (kc : cK c = 18) (ka : cK a = 18) : mj_Ok (D + 2) 88 [.ref c, .ref a] h (fun r => ∃ h', jM g n (drt [c, a] V) X h' ∧ r = (.inl none, h')) := mZ_n M (isW2 (Or.inl kc) (Or.inl ka)) (jc_88 (kS_ty (isW2 (Or.inl kc) (Or.inl ka))) (Nat.le_of_eq M.1) (kS_O M (isW2 (Or.inl kc) (Or.inl ka))) ((kS_in (by simp)).trans kc) ((kS_in (by simp)).trans ka))
theorem mZ_91 (M : jM g n V X h) {c a : Nat} {f : Int} (kc : cK c = 18) (ka : cK a = 18) (hf : -2147483648 ≤ f ∧ f ≤ 2147483647) : mj_Ok (D + 2) 91 [.ref c, .ref a, .int (jn f)] h (fun r => ∃ h', jM g n (drt [c, a] V) X h' ∧ r = (.inl none, h')) := mZ_n M (isW2 (Or.inl kc) (Or.inl ka)) (jc_91 (kS_ty (isW2 (Or.inl kc) (Or.inl ka))) (Nat.le_of_eq M.1) (kS_O M (isW2 (Or.inl kc) (Or.inl ka))) ((kS_in (by simp)).trans kc) ((kS_in (by simp)).trans ka) hf)
theorem mZ_95 (M : jM g n V X h) {c a b : Nat} (kc : cK c = 18) (ka : cK a = 18) (kb : cK b = 18) : mj_Ok (D + 1) 95 [.ref c, .ref a, .ref b] h (fun r => ∃ h', jM g n (drt [c, a, b] V) X h' ∧ r = (.inl none, h')) := mZ_n M (isW3 (Or.inl kc) (Or.inl ka) (Or.inl kb)) (jc_95 (kS_ty (isW3 (Or.inl kc) (Or.inl ka) (Or.inl kb))) (Nat.le_of_eq M.1) (kS_O M (isW3 (Or.inl kc) (Or.inl ka) (Or.inl kb))) ((kS_in (by simp)).trans kc) ((kS_in (by simp)).trans ka) ((kS_in (by simp)).trans kb))
theorem mZ_96 (M : jM g n V X h) {c : Nat} {v : Int} (kc : cK c = 18) (hv : jR v) : mj_Ok (D + 1) 96 [.ref c, .long (jl v)] h (fun r => ∃ h', jM g n (drt [c] V) X h' ∧ r = (.inl none, h')) := mZ_n M (isW1 (Or.inl kc)) (jc_96 (kS_ty (isW1 (Or.inl kc))) (Nat.le_of_eq M.1) (kS_O M (isW1 (Or.inl kc))) ((kS_in (by simp)).trans kc) hv)
theorem mZ_97 (M : jM g n V X h) {c : Nat} {v : Int} (kc : cK c = 18) (hv : jR v) : mj_Ok (D + 1) 97 [.ref c, .long (jl v)] h (fun r => ∃ h', jM g n (drt [c] V) X h' ∧ r = (.inl none, h')) := mZ_n M (isW1 (Or.inl kc)) (jc_97 (kS_ty (isW1 (Or.inl kc))) (Nat.le_of_eq M.1) (kS_O M (isW1 (Or.inl kc))) ((kS_in (by simp)).trans kc) hv)
theorem mZ_30 (M : jM g n V X h) {c a : Nat} (kc : cK c = 12) (ka : cK a = 18) : mj_Ok (D + 1) 30 [.ref c, .ref a] h (fun r => ∃ h', jM g n (drt [c, a] V) X h' ∧ r = (.inl none, h')) := mZ_n M (isW2 (Or.inr kc) (Or.inl ka)) (jc_30 (kS_ty (isW2 (Or.inr kc) (Or.inl ka))) (Nat.le_of_eq M.1) (kS_O M (isW2 (Or.inr kc) (Or.inl ka))) ((kS_in (by simp)).trans kc) ((kS_in (by simp)).trans ka))
theorem mZ_31 (M : jM g n V X h) {c a b : Nat} (kc : cK c = 12) (ka : cK a = 18) (kb : cK b = 18) : mj_Ok (D + 2) 31 [.ref c, .ref a, .ref b] h (fun r => ∃ h', jM g n (drt [c, a, b] V) X h' ∧ r = (.inl none, h')) := mZ_n M (isW3 (Or.inr kc) (Or.inl ka) (Or.inl kb)) (jc_31 (kS_ty (isW3 (Or.inr kc) (Or.inl ka) (Or.inl kb))) (Nat.le_of_eq M.1) (kS_O M (isW3 (Or.inr kc) (Or.inl ka) (Or.inl kb))) ((kS_in (by simp)).trans kc) ((kS_in (by simp)).trans ka) ((kS_in (by simp)).trans kb))
theorem mZ_100 (M : jM g n V X h) {c : Nat} (kc : cK c = 18) : mj_Ok (D + 1) 100 [.ref c] h (fun r => ∃ z : Int, jR z ∧ r = (.inl (some (.long (jl z))), h)) := (mZ_pof (jc_100 (kS_ty (isW1 (Or.inl kc))) (Nat.le_of_eq M.1) (kS_O M (isW1 (Or.inl kc))) ((kS_in (by simp)).trans kc))).to fun r hr => by
  obtain ⟨v, ⟨z, hz, rfl⟩, rfl⟩ := hr
  exact ⟨z, hz, rfl⟩
theorem mZ_98 (M : jM g n V X h) {c : Nat} (kc : cK c = 18) : mj_Ok (D + 2) 98 [.ref c] h (fun r => ∃ z : Int, (-2147483648 ≤ z ∧ z ≤ 2147483647) ∧ r = (.inl (some (.int (jn z))), h)) := (mZ_pof (jc_98 (kS_ty (isW1 (Or.inl kc))) (Nat.le_of_eq M.1) (kS_O M (isW1 (Or.inl kc))) ((kS_in (by simp)).trans kc))).to fun r hr => by
  obtain ⟨v, ⟨z, h1, h2, rfl⟩, rfl⟩ := hr
  exact ⟨z, ⟨h1, h2⟩, rfl⟩
theorem mZ_99 (M : jM g n V X h) {c : Nat} {p : Int} (kc : cK c = 18) (hp : -2147483648 ≤ p ∧ p ≤ 2147483647) : mj_Ok (D + 2) 99 [.ref c, .int (jn p)] h (fun r => ∃ z : Int, (-2147483648 ≤ z ∧ z ≤ 2147483647) ∧ r = (.inl (some (.int (jn z))), h)) := (mZ_pof (jc_99 (kS_ty (isW1 (Or.inl kc))) (Nat.le_of_eq M.1) (kS_O M (isW1 (Or.inl kc))) ((kS_in (by simp)).trans kc) hp)).to fun r hr => by
  obtain ⟨v, ⟨z, h1, h2, rfl⟩, rfl⟩ := hr
  exact ⟨z, ⟨h1, h2⟩, rfl⟩
end MLO
section MLR
variable {g h : mj_H} {n D pc nm r4 r5 : Nat} {V : Nat → Int} {X : Nat → Nat → Int} {M : mj_M} {loc : mj_L} {st : List Value} {Q : mj_R → Prop}
/-- a sign is read, is written -/
theorem mZ_sg (m : jM g n V X h) {a r3 : Nat} (ka : cK a = 18) (hc : M.2.2.2.2.1 pc = some (.getfield nm, 8, 2, r3, r4, r5)) (q : ∀ z, -2147483648 ≤ z ∧ z ≤ 2147483647 → mj_T D M (pc + 3) loc (.int (jn z) :: st) h Q) : mj_T D M pc loc (.ref a :: st) h Q := by
  obtain ⟨p, _, g0, _, h1, _⟩ := m.T ka
  exact mj_T.gfl hc h1 rfl (jT.anyI q)
theorem mZ_psg (m : jM g n V X h) {a : Nat} {w : Int} (ka : cK a = 18) (hc : M.2.2.2.2.1 pc = some (.putfield nm, 8, 2, 0, r4, r5)) (q : ∀ h', jM g n (drt [a] V) X h' → mj_T D M (pc + 3) loc st h' Q) : mj_T D M pc loc (.int (jn w) :: .ref a :: st) h Q := by
  obtain ⟨p, s0, g0, hs0, h1, h2⟩ := m.T ka
  have hl := (m.T ka).lt
  refine mj_T.pfl hc h1 (by decide : 2 < 3) rfl (q _ (m.up (fun x => x = a ∨ x = a + 1) (by rw [List.length_set]) (fun x hx => ?_) (fun x hx => ?_) (fun x hx => drt_ne (fun y => hx (Or.inl (List.mem_singleton.mp y)))) (fun _ _ => rfl) (fun x hx => ?_) (fun x hx => ?_)))
  · have := mK_w (Or.inl ka)
    rcases hx with e | e <;> subst e <;> omega
  · exact List.getElem?_set_ne (fun e => hx (Or.inl e.symm))
  · have k1 := mK_w (Or.inl ka)
    have k2 := mK_w hx
    constructor
    · intro y
      rcases y with e | e
      · exact Or.inr (by omega)
      · subst e
        omega
    · intro y
      rcases y with e | e
      · subst e
        omega
      · exact Or.inl (by omega)
  · have k1 := mK_w (Or.inl ka)
    rcases hx with e | e
    · subst e
      rw [ka]
      show wX _ x _ (drt [x] V x)
      rw [drt_in (by simp)]
      refine ⟨⟨p, s0, jn w, hs0, ?_, ?_⟩, fun y => absurd y BAD_no⟩
      · rw [List.getElem?_set_self (by omega)]
        rfl
      · rw [List.getElem?_set_ne (by omega)]
        exact h2
    · subst e
      rw [k1.1]
      show _ ∨ _
      exact Or.inl (Or.inl ka)
end MLR
/-! The class loosely: polynomials. -/
def bydl : List Nat := pls.map (· + 1)
/-- what lies beyond a polynomial's parts is 0 -/
def by0 (V : Nat → Int) : Prop := ∀ x, x ∈ bydl → V x = 0
/-- a Wide that may be written -/
def frW (c : Nat) : Prop := cK c = 18 ∧ ¬ c ∈ bydl
theorem bydl_1 : (bydl.all fun x => decide (cK x = 18)) = true := by decide +kernel
theorem bydl_k {x : Nat} (h : x ∈ bydl) : cK x = 18 := of_decide_eq_true (List.all_eq_true.mp bydl_1 x h)
theorem by0.p {V : Nat → Int} (b : by0 V) {p : Nat} (kp : cK p = 13) : V (p + 1) = 0 := by
  have h1 := jall pls_1 (cK_in (a := p) (by omega))
  simp only [kp, decide_true, Bool.not_true, Bool.false_or, decide_eq_true_eq] at h1
  exact b _ (List.mem_map.mpr ⟨p, h1, rfl⟩)
theorem fr_1 : (pls.all fun p => (List.range (cL (p + 3))).all fun i => decide (¬ (p + 4 + 2 * i) ∈ bydl)) = true := by decide +kernel
theorem fr_part {p i : Nat} (kp : cK p = 13) (hi : i < cL (p + 3)) : frW (p + 4 + 2 * i) := by
  have h1 := jall pls_1 (cK_in (a := p) (by omega))
  simp only [kp, decide_true, Bool.not_true, Bool.false_or, decide_eq_true_eq] at h1
  exact ⟨(mK_p kp).2.2.2 i hi, of_decide_eq_true (jall (List.all_eq_true.mp fr_1 p h1) hi)⟩
theorem by0.drt {V : Nat → Int} (b : by0 V) {sl : List Nat} (h : ∀ x, x ∈ sl → ¬ x ∈ bydl) : by0 (drt sl V) := fun x hx => by
  rw [drt_ne (fun q => h x q hx)]
  exact b x hx
theorem by0.jvu {V : Nat → Int} (b : by0 V) {c : Nat} (h : ¬ c ∈ bydl) {v : Int} : by0 (jvu V c v) := fun x hx => by
  have q : x ≠ c := fun e => h (e ▸ hx)
  rw [jvu_ne _ _ _ q]
  exact b x hx
theorem fr_d164 : frW 164 := ⟨by decide +kernel, by decide +kernel⟩
theorem fr_d166 : frW 166 := ⟨by decide +kernel, by decide +kernel⟩
theorem fr_d168 : frW 168 := ⟨by decide +kernel, by decide +kernel⟩
theorem fr_d174 : frW 174 := ⟨by decide +kernel, by decide +kernel⟩
theorem fr_d176 : frW 176 := ⟨by decide +kernel, by decide +kernel⟩
theorem fr_d178 : frW 178 := ⟨by decide +kernel, by decide +kernel⟩
theorem fr_d445 : frW 445 := ⟨by decide +kernel, by decide +kernel⟩
theorem fr_d447 : frW 447 := ⟨by decide +kernel, by decide +kernel⟩
theorem fr_d449 : frW 449 := ⟨by decide +kernel, by decide +kernel⟩
theorem fr_d451 : frW 451 := ⟨by decide +kernel, by decide +kernel⟩
theorem fr_d453 : frW 453 := ⟨by decide +kernel, by decide +kernel⟩
theorem fr_d477 : frW 477 := ⟨by decide +kernel, by decide +kernel⟩
theorem fr_d479 : frW 479 := ⟨by decide +kernel, by decide +kernel⟩
section MLF
variable {g h : mj_H} {n D p r : Nat} {V : Nat → Int} {X : Nat → Nat → Int}
theorem mF_86 (M : jM g n V X h) (b : by0 V) {c : Nat} (fc : frW c) {v : Int} (hv : jR v) : mj_Ok (D + 1) 86 [.ref c, .long (jl v)] h (fun r => ∃ V2 h2, jM g n V2 X h2 ∧ by0 V2 ∧ r = (.inl none, h2)) := (mZ_86 M fc.1 hv).to fun r hr => by
  obtain ⟨h2, m, e⟩ := hr
  refine ⟨_, h2, m, b.drt (fun x hx => ?_), e⟩
  simp only [List.mem_cons, List.not_mem_nil, or_false] at hx
  subst hx
  exact fc.2
theorem mF_96 (M : jM g n V X h) (b : by0 V) {c : Nat} (fc : frW c) {v : Int} (hv : jR v) : mj_Ok (D + 1) 96 [.ref c, .long (jl v)] h (fun r => ∃ V2 h2, jM g n V2 X h2 ∧ by0 V2 ∧ r = (.inl none, h2)) := (mZ_96 M fc.1 hv).to fun r hr => by
  obtain ⟨h2, m, e⟩ := hr
  refine ⟨_, h2, m, b.drt (fun x hx => ?_), e⟩
  simp only [List.mem_cons, List.not_mem_nil, or_false] at hx
  subst hx
  exact fc.2
theorem mF_97 (M : jM g n V X h) (b : by0 V) {c : Nat} (fc : frW c) {v : Int} (hv : jR v) : mj_Ok (D + 1) 97 [.ref c, .long (jl v)] h (fun r => ∃ V2 h2, jM g n V2 X h2 ∧ by0 V2 ∧ r = (.inl none, h2)) := (mZ_97 M fc.1 hv).to fun r hr => by
  obtain ⟨h2, m, e⟩ := hr
  refine ⟨_, h2, m, b.drt (fun x hx => ?_), e⟩
  simp only [List.mem_cons, List.not_mem_nil, or_false] at hx
  subst hx
  exact fc.2
theorem mF_87 (M : jM g n V X h) (b : by0 V) {c a : Nat} (fc : frW c) (fa : frW a) : mj_Ok (D + 1) 87 [.ref c, .ref a] h (fun r => ∃ V2 h2, jM g n V2 X h2 ∧ by0 V2 ∧ r = (.inl none, h2)) := (mZ_87 M fc.1 fa.1).to fun r hr => by
  obtain ⟨h2, m, e⟩ := hr
  refine ⟨_, h2, m, b.drt (fun x hx => ?_), e⟩
  simp only [List.mem_cons, List.not_mem_nil, or_false] at hx
  rcases hx with e | e <;> subst e
  · exact fc.2
  · exact fa.2
theorem mF_88 (M : jM g n V X h) (b : by0 V) {c a : Nat} (fc : frW c) (fa : frW a) : mj_Ok (D + 2) 88 [.ref c, .ref a] h (fun r => ∃ V2 h2, jM g n V2 X h2 ∧ by0 V2 ∧ r = (.inl none, h2)) := (mZ_88 M fc.1 fa.1).to fun r hr => by
  obtain ⟨h2, m, e⟩ := hr
  refine ⟨_, h2, m, b.drt (fun x hx => ?_), e⟩
  simp only [List.mem_cons, List.not_mem_nil, or_false] at hx
  rcases hx with e | e <;> subst e
  · exact fc.2
  · exact fa.2
theorem mF_91 (M : jM g n V X h) (b : by0 V) {c a : Nat} (fc : frW c) (fa : frW a) {f : Int} (hf : -2147483648 ≤ f ∧ f ≤ 2147483647) : mj_Ok (D + 2) 91 [.ref c, .ref a, .int (jn f)] h (fun r => ∃ V2 h2, jM g n V2 X h2 ∧ by0 V2 ∧ r = (.inl none, h2)) := (mZ_91 M fc.1 fa.1 hf).to fun r hr => by
  obtain ⟨h2, m, e⟩ := hr
  refine ⟨_, h2, m, b.drt (fun x hx => ?_), e⟩
  simp only [List.mem_cons, List.not_mem_nil, or_false] at hx
  rcases hx with e | e <;> subst e
  · exact fc.2
  · exact fa.2
theorem mF_95 (M : jM g n V X h) (hb : by0 V) {c a b : Nat} (fc : frW c) (fa : frW a) (fb : frW b) : mj_Ok (D + 1) 95 [.ref c, .ref a, .ref b] h (fun r => ∃ V2 h2, jM g n V2 X h2 ∧ by0 V2 ∧ r = (.inl none, h2)) := (mZ_95 M fc.1 fa.1 fb.1).to fun r hr => by
  obtain ⟨h2, m, e⟩ := hr
  refine ⟨_, h2, m, hb.drt (fun x hx => ?_), e⟩
  simp only [List.mem_cons, List.not_mem_nil, or_false] at hx
  rcases hx with e | e | e <;> subst e
  · exact fc.2
  · exact fa.2
  · exact fb.2
theorem mF_30 (M : jM g n V X h) (b : by0 V) {c a : Nat} (kc : cK c = 12) (fa : frW a) : mj_Ok (D + 1) 30 [.ref c, .ref a] h (fun r => ∃ V2 h2, jM g n V2 X h2 ∧ by0 V2 ∧ r = (.inl none, h2)) := (mZ_30 M kc fa.1).to fun r hr => by
  obtain ⟨h2, m, e⟩ := hr
  refine ⟨_, h2, m, b.drt (fun x hx => ?_), e⟩
  simp only [List.mem_cons, List.not_mem_nil, or_false] at hx
  rcases hx with e | e <;> subst e
  · intro q
    exact absurd (bydl_k q) (by omega)
  · exact fa.2
theorem mF_31 (M : jM g n V X h) (hb : by0 V) {c a b : Nat} (kc : cK c = 12) (fa : frW a) (fb : frW b) : mj_Ok (D + 2) 31 [.ref c, .ref a, .ref b] h (fun r => ∃ V2 h2, jM g n V2 X h2 ∧ by0 V2 ∧ r = (.inl none, h2)) := (mZ_31 M kc fa.1 fb.1).to fun r hr => by
  obtain ⟨h2, m, e⟩ := hr
  refine ⟨_, h2, m, hb.drt (fun x hx => ?_), e⟩
  simp only [List.mem_cons, List.not_mem_nil, or_false] at hx
  rcases hx with e | e | e <;> subst e
  · intro q
    exact absurd (bydl_k q) (by omega)
  · exact fa.2
  · exact fb.2
theorem mZ_42_loop (kp : cK p = 13) : ∀ k i, i + k = cL (p + 3) → ∀ (d : Int) (h1 : mj_H), jM g n V (xup X p 2 d) h1 → (-1 ≤ d ∧ d < cL (p + 3)) → mj_T D mj_m42 7 [some (.ref p), some (.int (jn (i : Int)))] [] h1 (fun r => ∃ d h2, jM g n V (xup X p 2 d) h2 ∧ (-1 ≤ d ∧ d < cL (p + 3)) ∧ r = (.inl none, h2))
  | 0, i, hi, d, h1, m, hd => by
    have hb := (mK_p kp).2.2.1
    iterate 2 refine mj_T.pl rfl rfl rfl rfl ?_
    refine mT_get m 13 kp (by decide) rfl rfl ?_
    refine mT_alen m 4 (mK_p kp).2.1 (by decide) rfl ?_
    refine mj_T.icmp (a := ((i : Nat) : Int)) (b := ((cL (p + 3) : Nat) : Int)) rfl ⟨by omega, by omega⟩ ⟨by omega, by omega⟩ (fun c1 => ?_) (fun c1 => ?_)
    · simp only [jc, Bool.not_eq_true', Bool.not_eq_false', decide_eq_true_eq, decide_eq_false_iff_not] at c1
      exact mj_T.ret rfl rfl rfl ⟨d, _, m, hd, rfl⟩
    · exfalso
      simp only [jc, Bool.not_eq_true', Bool.not_eq_false', decide_eq_true_eq, decide_eq_false_iff_not] at c1
      omega
  | k + 1, i, hi, d, h1, m, hd => by
    have hb := (mK_p kp).2.2.1
    iterate 2 refine mj_T.pl rfl rfl rfl rfl ?_
    refine mT_get m 13 kp (by decide) rfl rfl ?_
    refine mT_alen m 4 (mK_p kp).2.1 (by decide) rfl ?_
    refine mj_T.icmp (a := ((i : Nat) : Int)) (b := ((cL (p + 3) : Nat) : Int)) rfl ⟨by omega, by omega⟩ ⟨by omega, by omega⟩ (fun c1 => ?_) (fun c1 => ?_)
    · exfalso
      simp only [jc, Bool.not_eq_true', Bool.not_eq_false', decide_eq_true_eq, decide_eq_false_iff_not] at c1
      omega
    · simp only [jc, Bool.not_eq_true', Bool.not_eq_false', decide_eq_true_eq, decide_eq_false_iff_not] at c1
      iterate 2 refine mj_T.pl rfl rfl rfl rfl ?_
      refine mT_get m 13 kp (by decide) rfl rfl ?_
      refine mj_T.pl rfl rfl rfl rfl ?_
      refine mT_aald m 4 (mK_p kp).2.1 (by decide) rfl rfl (by omega) ⟨by omega, by omega⟩ ?_
      refine mj_T.eq (st2 := [.ref (p + 4 + 2 * i), .ref p]) ?_ rfl rfl rfl rfl
      refine mZ_sg m ((mK_p kp).2.2.2 i (by omega)) rfl (fun z2 rz2 => ?_)
      refine mj_T.if0 (a := z2) rfl ⟨by omega, by omega⟩ (fun c3 => ?_) (fun c3 => ?_)
      · simp only [jc, Bool.not_eq_true', Bool.not_eq_false', decide_eq_true_eq, decide_eq_false_iff_not] at c3
        refine mj_T.pl rfl rfl rfl rfl ?_
        refine mT_get (v := .int (jn d)) m 13 kp (by decide) rfl (congrArg (fun z : Int => some (Value.int (jn z))) (xup_at X p 2 _)) ?_
        refine mT_put (v := d) m 13 kp (by decide) rfl (by simp [jMf, xup]) (by simp [jMf]) rfl (fun h4 m5 => ?_)
        refine mj_T.iinc rfl rfl ?_
        rw [show ((i : Nat) : Int) + 1 = ((i + 1 : Nat) : Int) by omega]
        refine mj_T.eq (loc2 := [some (.ref p), some (.int (jn (((i + 1) : Nat) : Int)))]) ?_ rfl rfl rfl rfl
        refine mj_T.pl rfl rfl rfl rfl ?_
        exact mZ_42_loop kp k (i + 1) (by omega) _ _ (m5.to rfl (xup_xup _ _ _ _ _).symm) ⟨by omega, by omega⟩
      · simp only [jc, Bool.not_eq_true', Bool.not_eq_false', decide_eq_true_eq, decide_eq_false_iff_not] at c3
        iterate 2 refine mj_T.pl rfl rfl rfl rfl ?_
        refine mT_put (v := ((i : Nat) : Int)) m 13 kp (by decide) rfl (by simp [jMf, xup]) (by simp [jMf]) rfl (fun h6 m7 => ?_)
        refine mj_T.iinc rfl rfl ?_
        rw [show ((i : Nat) : Int) + 1 = ((i + 1 : Nat) : Int) by omega]
        refine mj_T.eq (loc2 := [some (.ref p), some (.int (jn (((i + 1) : Nat) : Int)))]) ?_ rfl rfl rfl rfl
        refine mj_T.pl rfl rfl rfl rfl ?_
        exact mZ_42_loop kp k (i + 1) (by omega) _ _ (m7.to rfl (xup_xup _ _ _ _ _).symm) ⟨by omega, by omega⟩
theorem mZ_42 (m : jM g n V X h) (kp : cK p = 13) : mj_Ok (D + 1) 42 [.ref p] h (fun r => ∃ d h2, jM g n V (xup X p 2 d) h2 ∧ (-1 ≤ d ∧ d < cL (p + 3)) ∧ r = (.inl none, h2)) := by
  have hb := (mK_p kp).2.2.1
  refine mj_Ok.of (M := mj_m42) rfl rfl rfl ?_
  iterate 2 refine mj_T.pl rfl rfl rfl rfl ?_
  refine mT_put (v := (-1)) m 13 kp (by decide) rfl (by simp [jMf, xup]) (by simp [jMf]) rfl (fun h1 m2 => ?_)
  refine mj_T.pl rfl rfl rfl rfl ?_
  refine mj_T.pl (loc' := [some (.ref p), some (.int (jn 0))]) rfl rfl rfl rfl ?_
  exact mZ_42_loop kp (cL (p + 3)) 0 (by omega) (-1) _ m2 ⟨by omega, by omega⟩
theorem mZ_43_loop (kp : cK p = 13) : ∀ k i, i + k = cL (p + 3) → ∀ (V1 : Nat → Int) (h1 : mj_H), jM g n V1 X h1 → by0 V1 → mj_T D mj_m43 2 [some (.ref p), some (.int (jn (i : Int)))] [] h1 (fun r => ∃ V2 h2, jM g n V2 X h2 ∧ by0 V2 ∧ r = (.inl none, h2))
  | 0, i, hi, V1, h1, m, b => by
    have hb := (mK_p kp).2.2.1
    iterate 2 refine mj_T.pl rfl rfl rfl rfl ?_
    refine mT_get m 13 kp (by decide) rfl rfl ?_
    refine mT_alen m 4 (mK_p kp).2.1 (by decide) rfl ?_
    refine mj_T.icmp (a := ((i : Nat) : Int)) (b := ((cL (p + 3) : Nat) : Int)) rfl ⟨by omega, by omega⟩ ⟨by omega, by omega⟩ (fun c1 => ?_) (fun c1 => ?_)
    · simp only [jc, Bool.not_eq_true', Bool.not_eq_false', decide_eq_true_eq, decide_eq_false_iff_not] at c1
      exact mj_T.ret rfl rfl rfl ⟨V1, _, m, b, rfl⟩
    · exfalso
      simp only [jc, Bool.not_eq_true', Bool.not_eq_false', decide_eq_true_eq, decide_eq_false_iff_not] at c1
      omega
  | k + 1, i, hi, V1, h1, m, b => by
    have hb := (mK_p kp).2.2.1
    iterate 2 refine mj_T.pl rfl rfl rfl rfl ?_
    refine mT_get m 13 kp (by decide) rfl rfl ?_
    refine mT_alen m 4 (mK_p kp).2.1 (by decide) rfl ?_
    refine mj_T.icmp (a := ((i : Nat) : Int)) (b := ((cL (p + 3) : Nat) : Int)) rfl ⟨by omega, by omega⟩ ⟨by omega, by omega⟩ (fun c1 => ?_) (fun c1 => ?_)
    · exfalso
      simp only [jc, Bool.not_eq_true', Bool.not_eq_false', decide_eq_true_eq, decide_eq_false_iff_not] at c1
      omega
    · simp only [jc, Bool.not_eq_true', Bool.not_eq_false', decide_eq_true_eq, decide_eq_false_iff_not] at c1
      refine mj_T.pl rfl rfl rfl rfl ?_
      refine mT_get m 13 kp (by decide) rfl rfl ?_
      refine mj_T.pl rfl rfl rfl rfl ?_
      refine mT_aald m 4 (mK_p kp).2.1 (by decide) rfl rfl (by omega) ⟨by omega, by omega⟩ ?_
      refine mj_T.eq (st2 := [.ref (p + 4 + 2 * i)]) ?_ rfl rfl rfl rfl
      refine mj_T.pl rfl rfl rfl rfl ?_
      refine mT_get m 13 kp (by decide) rfl rfl ?_
      refine mj_T.pl rfl rfl rfl rfl ?_
      refine mT_aald m 4 (mK_p kp).2.1 (by decide) rfl rfl (by omega) ⟨by omega, by omega⟩ ?_
      refine mj_T.eq (st2 := [.ref (p + 4 + 2 * i), .ref (p + 4 + 2 * i)]) ?_ rfl rfl rfl rfl
      refine mZ_sg m ((mK_p kp).2.2.2 i (by omega)) rfl (fun z2 rz2 => ?_)
      refine mj_T.ineg rfl ?_
      refine mZ_psg m ((mK_p kp).2.2.2 i (by omega)) rfl (fun h3 m4 => ?_)
      have b6 : by0 _ := b.drt (sl := [(p + 4 + 2 * i)]) (fun x hx => by rw [List.mem_singleton.mp hx]; exact (fr_part kp (by omega)).2)
      refine mj_T.iinc rfl rfl ?_
      rw [show ((i : Nat) : Int) + 1 = ((i + 1 : Nat) : Int) by omega]
      refine mj_T.eq (loc2 := [some (.ref p), some (.int (jn (((i + 1) : Nat) : Int)))]) ?_ rfl rfl rfl rfl
      refine mj_T.pl rfl rfl rfl rfl ?_
      exact mZ_43_loop kp k (i + 1) (by omega) _ _ m4 b6
theorem mZ_43 (m : jM g n V X h) (b : by0 V) (kp : cK p = 13) : mj_Ok (D + 1) 43 [.ref p] h (fun r => ∃ V2 h2, jM g n V2 X h2 ∧ by0 V2 ∧ r = (.inl none, h2)) := by
  refine mj_Ok.of (M := mj_m43) rfl rfl rfl ?_
  refine mj_T.pl rfl rfl rfl rfl ?_
  refine mj_T.pl (loc' := [some (.ref p), some (.int (jn 0))]) rfl rfl rfl rfl ?_
  exact mZ_43_loop kp (cL (p + 3)) 0 (by omega) V _ m b
theorem by0_m {p : Nat} (kp : cK p = 13) : p + 1 ∈ bydl := by
  have h1 := jall pls_1 (cK_in (a := p) (by omega))
  simp only [kp, decide_true, Bool.not_true, Bool.false_or, decide_eq_true_eq] at h1
  exact List.mem_map.mpr ⟨p, h1, rfl⟩
theorem mZ_41_loop {o : Nat} (kp : cK p = 13) (ko : cK o = 13) : ∀ k i, i + k = cL (p + 3) → ∀ (V1 : Nat → Int) (h1 : mj_H), jM g n V1 X h1 → by0 V1 → mj_T (D + 1) mj_m41 2 [some (.ref p), some (.ref o), some (.int (jn (i : Int)))] [] h1 (fun r => ∃ V2 d h2, jM g n V2 (xup X p 2 d) h2 ∧ by0 V2 ∧ (-1 ≤ d ∧ d < cL (p + 3)) ∧ r = (.inl none, h2))
  | 0, i, hi, V1, h1, m, b => by
    have hb := (mK_p kp).2.2.1
    iterate 2 refine mj_T.pl rfl rfl rfl rfl ?_
    refine mT_get m 13 kp (by decide) rfl rfl ?_
    refine mT_alen m 4 (mK_p kp).2.1 (by decide) rfl ?_
    refine mj_T.icmp (a := ((i : Nat) : Int)) (b := ((cL (p + 3) : Nat) : Int)) rfl ⟨by omega, by omega⟩ ⟨by omega, by omega⟩ (fun c1 => ?_) (fun c1 => ?_)
    · simp only [jc, Bool.not_eq_true', Bool.not_eq_false', decide_eq_true_eq, decide_eq_false_iff_not] at c1
      refine mj_T.pl rfl rfl rfl rfl ?_
      refine mj_T.call rfl rfl (Nat.le_of_ble_eq_true rfl) (Nat.le_of_ble_eq_true rfl) (mV_of m 13 kp (by decide) rfl (by decide) rfl _) rfl (mj_Ok.up (by omega) (mZ_42 (D := 0) m kp)) (fun v g2 hq => ?_) (fun i g2 hq => ?_)
      rotate_left
      · obtain ⟨_, _, _, _, hq⟩ := hq; cases hq
      obtain ⟨d3, _, m4, hd3, hq⟩ := hq
      cases hq
      refine mj_T.eq (pc2 := 35) (st2 := []) ?_ rfl rfl rfl rfl
      exact mj_T.ret rfl rfl rfl ⟨V1, _, _, m4, b, hd3, rfl⟩
    · exfalso
      simp only [jc, Bool.not_eq_true', Bool.not_eq_false', decide_eq_true_eq, decide_eq_false_iff_not] at c1
      omega
  | k + 1, i, hi, V1, h1, m, b => by
    have hb := (mK_p kp).2.2.1
    have hbo := (mK_p ko).2.2.1
    iterate 2 refine mj_T.pl rfl rfl rfl rfl ?_
    refine mT_get m 13 kp (by decide) rfl rfl ?_
    refine mT_alen m 4 (mK_p kp).2.1 (by decide) rfl ?_
    refine mj_T.icmp (a := ((i : Nat) : Int)) (b := ((cL (p + 3) : Nat) : Int)) rfl ⟨by omega, by omega⟩ ⟨by omega, by omega⟩ (fun c1 => ?_) (fun c1 => ?_)
    · exfalso
      simp only [jc, Bool.not_eq_true', Bool.not_eq_false', decide_eq_true_eq, decide_eq_false_iff_not] at c1
      omega
    · simp only [jc, Bool.not_eq_true', Bool.not_eq_false', decide_eq_true_eq, decide_eq_false_iff_not] at c1
      refine mj_T.pl rfl rfl rfl rfl ?_
      refine mT_get m 13 kp (by decide) rfl rfl ?_
      refine mj_T.pl rfl rfl rfl rfl ?_
      refine mT_aald m 4 (mK_p kp).2.1 (by decide) rfl rfl (by omega) ⟨by omega, by omega⟩ ?_
      refine mj_T.eq (st2 := [.ref (p + 4 + 2 * i)]) ?_ rfl rfl rfl rfl
      iterate 2 refine mj_T.pl rfl rfl rfl rfl ?_
      by_cases cc : i < cL (o + 3)
      · skip
        refine mj_T.call rfl rfl (Nat.le_of_ble_eq_true rfl) (Nat.le_of_ble_eq_true rfl) (mV_of m 13 ko (by decide) rfl (by decide) rfl _) rfl (mj_Ok.up (by omega) (mP_at (D := 0) m ko (e := i) (by omega))) (fun v g31 hq => ?_) (fun i g31 hq => ?_)
        rotate_left
        · cases hq
        cases hq
        refine mj_T.eq (pc2 := 22) (st2 := [.ref (o + 4 + 2 * i), .ref (p + 4 + 2 * i)]) ?_ rfl rfl rfl rfl
        refine mj_T.call rfl rfl (Nat.le_of_ble_eq_true rfl) (Nat.le_of_ble_eq_true rfl) (mV_of m 18 ((mK_p kp).2.2.2 i (by omega)) (by decide) rfl (by decide) rfl _) rfl (mj_Ok.up (by omega) (mF_87 (D := 0) m b (fr_part kp (by omega)) (fr_part ko (by omega)))) (fun v g32 hq => ?_) (fun i g32 hq => ?_)
        rotate_left
        · obtain ⟨_, _, _, _, hq⟩ := hq; cases hq
        obtain ⟨V33, _, m34, b35, hq⟩ := hq
        cases hq
        refine mj_T.eq (pc2 := 25) (st2 := []) ?_ rfl rfl rfl rfl
        refine mj_T.iinc rfl rfl ?_
        rw [show ((i : Nat) : Int) + 1 = ((i + 1 : Nat) : Int) by omega]
        refine mj_T.eq (loc2 := [some (.ref p), some (.ref o), some (.int (jn (((i + 1) : Nat) : Int)))]) ?_ rfl rfl rfl rfl
        refine mj_T.pl rfl rfl rfl rfl ?_
        exact mZ_41_loop kp ko k (i + 1) (by omega) _ _ m34 b35
      · skip
        refine mj_T.call rfl rfl (Nat.le_of_ble_eq_true rfl) (Nat.le_of_ble_eq_true rfl) (mV_of m 13 ko (by decide) rfl (by decide) rfl _) rfl (mj_Ok.up (by omega) (mP_atB (D := 0) m ko (e := (i : Int)) ⟨by omega, by omega⟩ (Or.inr (by omega)))) (fun v g61 hq => ?_) (fun i g61 hq => ?_)
        rotate_left
        · cases hq
        cases hq
        refine mj_T.eq (pc2 := 22) (st2 := [.ref (o + 1), .ref (p + 4 + 2 * i)]) ?_ rfl rfl rfl rfl
        refine mj_T.call rfl rfl (Nat.le_of_ble_eq_true rfl) (Nat.le_of_ble_eq_true rfl) (mV_of m 18 ((mK_p kp).2.2.2 i (by omega)) (by decide) rfl (by decide) rfl _) rfl (mj_Ok.up (by omega) (mW_set (D := 0) m ((mK_p kp).2.2.2 i (by omega)) (mK_p ko).1 (fun e => (fr_part kp (i := i) (by omega)).2 (e ▸ by0_m ko)) (by rw [b.p ko]; exact Nat.le_trans (Nat.le_of_eq jnl_zero) (Nat.zero_le _)))) (fun v g62 hq => ?_) (fun i g62 hq => ?_)
        rotate_left
        · obtain ⟨_, _, hq⟩ := hq; cases hq
        obtain ⟨_, m63, hq⟩ := hq
        cases hq
        have b64 : by0 (jvu V1 (p + 4 + 2 * i) (V1 (o + 1))) := b.jvu (fr_part kp (by omega)).2
        refine mj_T.eq (pc2 := 25) (st2 := []) ?_ rfl rfl rfl rfl
        refine mj_T.iinc rfl rfl ?_
        rw [show ((i : Nat) : Int) + 1 = ((i + 1 : Nat) : Int) by omega]
        refine mj_T.eq (loc2 := [some (.ref p), some (.ref o), some (.int (jn (((i + 1) : Nat) : Int)))]) ?_ rfl rfl rfl rfl
        refine mj_T.pl rfl rfl rfl rfl ?_
        exact mZ_41_loop kp ko k (i + 1) (by omega) _ _ m63 b64
theorem mZ_41 (m : jM g n V X h) (b : by0 V) {o : Nat} (kp : cK p = 13) (ko : cK o = 13) : mj_Ok (D + 2) 41 [.ref p, .ref o] h (fun r => ∃ V2 d h2, jM g n V2 (xup X p 2 d) h2 ∧ by0 V2 ∧ (-1 ≤ d ∧ d < cL (p + 3)) ∧ r = (.inl none, h2)) := by
  refine mj_Ok.of (M := mj_m41) rfl rfl rfl ?_
  refine mj_T.pl rfl rfl rfl rfl ?_
  refine mj_T.pl (loc' := [some (.ref p), some (.ref o), some (.int (jn 0))]) rfl rfl rfl rfl ?_
  exact mZ_41_loop kp ko (cL (p + 3)) 0 (by omega) V _ m b
theorem mZ_40_loop {d : Int} (kp : cK p = 13) (kr : cK r = 2) (hd : jR d) (hjr : ∀ j, jR (X r j)) : ∀ k i, i + k = cL (p + 3) → ∀ (V1 : Nat → Int) (h1 : mj_H), jM g n V1 X h1 → by0 V1 → mj_T (D + 1) mj_m40 3 [some (.ref p), some (.ref r), some (.long (jl d)), none, some (.int (jn (i : Int)))] [] h1 (fun r => ∃ V2 d h2, jM g n V2 (xup X p 2 d) h2 ∧ by0 V2 ∧ (-1 ≤ d ∧ d < cL (p + 3)) ∧ r = (.inl none, h2))
  | 0, i, hi, V1, h1, m, b => by
    have hb := (mK_p kp).2.2.1
    iterate 2 refine mj_T.pl rfl rfl rfl rfl ?_
    refine mT_get m 13 kp (by decide) rfl rfl ?_
    refine mT_alen m 4 (mK_p kp).2.1 (by decide) rfl ?_
    refine mj_T.icmp (a := ((i : Nat) : Int)) (b := ((cL (p + 3) : Nat) : Int)) rfl ⟨by omega, by omega⟩ ⟨by omega, by omega⟩ (fun c1 => ?_) (fun c1 => ?_)
    · simp only [jc, Bool.not_eq_true', Bool.not_eq_false', decide_eq_true_eq, decide_eq_false_iff_not] at c1
      refine mj_T.pl rfl rfl rfl rfl ?_
      refine mj_T.call rfl rfl (Nat.le_of_ble_eq_true rfl) (Nat.le_of_ble_eq_true rfl) (mV_of m 13 kp (by decide) rfl (by decide) rfl _) rfl (mj_Ok.up (by omega) (mZ_42 (D := 0) m kp)) (fun v g2 hq => ?_) (fun i g2 hq => ?_)
      rotate_left
      · obtain ⟨_, _, _, _, hq⟩ := hq; cases hq
      obtain ⟨d3, _, m4, hd3, hq⟩ := hq
      cases hq
      refine mj_T.eq (pc2 := 56) (st2 := []) ?_ rfl rfl rfl rfl
      exact mj_T.ret rfl rfl rfl ⟨V1, _, _, m4, b, hd3, rfl⟩
    · exfalso
      simp only [jc, Bool.not_eq_true', Bool.not_eq_false', decide_eq_true_eq, decide_eq_false_iff_not] at c1
      omega
  | k + 1, i, hi, V1, h1, m, b => by
    have hb := (mK_p kp).2.2.1
    iterate 2 refine mj_T.pl rfl rfl rfl rfl ?_
    refine mT_get m 13 kp (by decide) rfl rfl ?_
    refine mT_alen m 4 (mK_p kp).2.1 (by decide) rfl ?_
    refine mj_T.icmp (a := ((i : Nat) : Int)) (b := ((cL (p + 3) : Nat) : Int)) rfl ⟨by omega, by omega⟩ ⟨by omega, by omega⟩ (fun c1 => ?_) (fun c1 => ?_)
    · exfalso
      simp only [jc, Bool.not_eq_true', Bool.not_eq_false', decide_eq_true_eq, decide_eq_false_iff_not] at c1
      omega
    · simp only [jc, Bool.not_eq_true', Bool.not_eq_false', decide_eq_true_eq, decide_eq_false_iff_not] at c1
      refine mj_T.pl rfl rfl rfl rfl ?_
      refine mT_get m 13 kp (by decide) rfl rfl ?_
      refine mj_T.pl rfl rfl rfl rfl ?_
      refine mT_aald m 4 (mK_p kp).2.1 (by decide) rfl rfl (by omega) ⟨by omega, by omega⟩ ?_
      refine mj_T.eq (st2 := [.ref (p + 4 + 2 * i)]) ?_ rfl rfl rfl rfl
      iterate 2 refine mj_T.pl rfl rfl rfl rfl ?_
      refine mT_llen m kr rfl ?_
      refine mj_T.icmp (a := ((i : Nat) : Int)) (b := ((13 : Nat) : Int)) rfl ⟨by omega, by omega⟩ ⟨by omega, by omega⟩ (fun c2 => ?_) (fun c2 => ?_)
      · simp only [jc, Bool.not_eq_true', Bool.not_eq_false', decide_eq_true_eq, decide_eq_false_iff_not] at c2
        refine jT.lc 0 rfl rfl ?_
        refine mj_T.call rfl rfl (Nat.le_of_ble_eq_true rfl) (Nat.le_of_ble_eq_true rfl) (mV_of m 18 ((mK_p kp).2.2.2 i (by omega)) (by decide) rfl (by decide) rfl _) rfl (mj_Ok.up (by omega) (mF_86 (D := 0) m b (fr_part kp (by omega)) jR_0)) (fun v g3 hq => ?_) (fun i g3 hq => ?_)
        rotate_left
        · obtain ⟨_, _, _, _, hq⟩ := hq; cases hq
        obtain ⟨V4, _, m5, b6, hq⟩ := hq
        cases hq
        refine mj_T.eq (pc2 := 46) (st2 := []) ?_ rfl rfl rfl rfl
        refine mj_T.iinc rfl rfl ?_
        rw [show ((i : Nat) : Int) + 1 = ((i + 1 : Nat) : Int) by omega]
        refine mj_T.eq (loc2 := [some (.ref p), some (.ref r), some (.long (jl d)), none, some (.int (jn (((i + 1) : Nat) : Int)))]) ?_ rfl rfl rfl rfl
        refine mj_T.pl rfl rfl rfl rfl ?_
        exact mZ_40_loop kp kr hd hjr k (i + 1) (by omega) _ _ m5 b6
      · simp only [jc, Bool.not_eq_true', Bool.not_eq_false', decide_eq_true_eq, decide_eq_false_iff_not] at c2
        refine mj_T.pl rfl rfl rfl rfl ?_
        refine jT.lc 0 rfl rfl ?_
        refine mj_T.lif (a := d) (b := ((0 : Nat) : Int)) rfl rfl hd jR_0 (fun c7 => ?_) (fun c7 => ?_)
        · simp only [jc, Bool.not_eq_true', Bool.not_eq_false', decide_eq_true_eq, decide_eq_false_iff_not] at c7
          refine jT.lc 0 rfl rfl ?_
          refine mj_T.call rfl rfl (Nat.le_of_ble_eq_true rfl) (Nat.le_of_ble_eq_true rfl) (mV_of m 18 ((mK_p kp).2.2.2 i (by omega)) (by decide) rfl (by decide) rfl _) rfl (mj_Ok.up (by omega) (mF_86 (D := 0) m b (fr_part kp (by omega)) jR_0)) (fun v g8 hq => ?_) (fun i g8 hq => ?_)
          rotate_left
          · obtain ⟨_, _, _, _, hq⟩ := hq; cases hq
          obtain ⟨V9, _, m10, b11, hq⟩ := hq
          cases hq
          refine mj_T.eq (pc2 := 46) (st2 := []) ?_ rfl rfl rfl rfl
          refine mj_T.iinc rfl rfl ?_
          rw [show ((i : Nat) : Int) + 1 = ((i + 1 : Nat) : Int) by omega]
          refine mj_T.eq (loc2 := [some (.ref p), some (.ref r), some (.long (jl d)), none, some (.int (jn (((i + 1) : Nat) : Int)))]) ?_ rfl rfl rfl rfl
          refine mj_T.pl rfl rfl rfl rfl ?_
          exact mZ_40_loop kp kr hd hjr k (i + 1) (by omega) _ _ m10 b11
        · simp only [jc, Bool.not_eq_true', Bool.not_eq_false', decide_eq_true_eq, decide_eq_false_iff_not] at c7
          iterate 2 refine mj_T.pl rfl rfl rfl rfl ?_
          refine mT_lald m kr rfl ⟨by omega, by omega⟩ ?_
          refine mj_T.eq (st2 := [.long (jl (X r i)), .ref (p + 4 + 2 * i)]) ?_ rfl rfl rfl rfl
          refine mj_T.pl rfl rfl rfl rfl ?_
          refine jT.ldiv rfl hd (by omega) (fun y12 jy12 => ?_)
          refine mj_T.pl rfl rfl rfl rfl ?_
          refine mj_T.call rfl rfl (Nat.le_of_ble_eq_true rfl) (Nat.le_of_ble_eq_true rfl) (mV_of m 18 ((mK_p kp).2.2.2 i (by omega)) (by decide) rfl (by decide) rfl _) rfl (mj_Ok.up (by omega) (mF_86 (D := 0) m b (fr_part kp (by omega)) jy12)) (fun v g13 hq => ?_) (fun i g13 hq => ?_)
          rotate_left
          · obtain ⟨_, _, _, _, hq⟩ := hq; cases hq
          obtain ⟨V14, _, m15, b16, hq⟩ := hq
          cases hq
          refine mj_T.eq (pc2 := 46) (st2 := []) ?_ rfl rfl rfl rfl
          refine mj_T.iinc rfl rfl ?_
          rw [show ((i : Nat) : Int) + 1 = ((i + 1 : Nat) : Int) by omega]
          refine mj_T.eq (loc2 := [some (.ref p), some (.ref r), some (.long (jl d)), none, some (.int (jn (((i + 1) : Nat) : Int)))]) ?_ rfl rfl rfl rfl
          refine mj_T.pl rfl rfl rfl rfl ?_
          exact mZ_40_loop kp kr hd hjr k (i + 1) (by omega) _ _ m15 b16
theorem mZ_40 (m : jM g n V X h) (b : by0 V) {d : Int} (kp : cK p = 13) (kr : cK r = 2) (hd : jR d) (hjr : ∀ j, jR (X r j)) : mj_Ok (D + 2) 40 [.ref p, .ref r, .long (jl d)] h (fun r => ∃ V2 d h2, jM g n V2 (xup X p 2 d) h2 ∧ by0 V2 ∧ (-1 ≤ d ∧ d < cL (p + 3)) ∧ r = (.inl none, h2)) := by
  refine mj_Ok.of (M := mj_m40) rfl rfl rfl ?_
  refine mj_T.pl rfl rfl rfl rfl ?_
  refine mj_T.pl (loc' := [some (.ref p), some (.ref r), some (.long (jl d)), none, some (.int (jn 0))]) rfl rfl rfl rfl ?_
  exact mZ_40_loop kp kr hd hjr (cL (p + 3)) 0 (by omega) V _ m b
end MLF
/-! The class loosely: its desk. -/
section MLG
variable {g h : mj_H} {n D p q r : Nat} {V : Nat → Int} {X : Nat → Nat → Int}
theorem mZ_171 (M : jM g n V X h) {x y : Int} (hx : jR x) (hy : jR y) : mj_Ok (D + 1) 171 [.long (jl x), .long (jl y)] h (fun r => ∃ z : Int, jR z ∧ r = (.inl (some (.long (jl z))), h)) := by
  have hs : isW [] := fun a ha => by simp at ha
  refine (mZ_pof (jc_171 (kS_ty hs) (Nat.le_of_eq M.1) (kS_O M hs) hx hy)).to fun r hr => ?_
  obtain ⟨v, ⟨z, hz, rfl⟩, rfl⟩ := hr
  exact ⟨z, hz, rfl⟩
theorem mZ_24 (m : jM g n V X h) (b : by0 V) {a : Nat} {y : Int} (fa : frW a) (hy : jR y) : mj_Ok (D + 2) 24 [.ref 19, .ref a, .long (jl y)] h (fun r => ∃ V2 h2, jM g n V2 X h2 ∧ by0 V2 ∧ r = (.inl none, h2)) := by
  refine mj_Ok.of (M := mj_m24) rfl rfl rfl ?_
  refine mj_T.pl rfl rfl rfl rfl ?_
  refine mT_get m 11 cq_d19 (by decide) rfl rfl ?_
  refine mj_T.pl rfl rfl rfl rfl ?_
  refine mj_T.call rfl rfl (Nat.le_of_ble_eq_true rfl) (Nat.le_of_ble_eq_true rfl) (mV_of m 18 cq_d168 (by decide) rfl (by decide) rfl _) rfl (mj_Ok.up (by omega) (mF_86 (D := 0) m b fr_d168 hy)) (fun v g1 hq => ?_) (fun i g1 hq => ?_)
  rotate_left
  · obtain ⟨_, _, _, _, hq⟩ := hq; cases hq
  obtain ⟨V2, _, m3, b4, hq⟩ := hq
  cases hq
  refine mj_T.eq (pc2 := 8) (st2 := []) ?_ rfl rfl rfl rfl
  refine mj_T.pl rfl rfl rfl rfl ?_
  refine mT_get m3 11 cq_d19 (by decide) rfl rfl ?_
  iterate 2 refine mj_T.pl rfl rfl rfl rfl ?_
  refine mT_get m3 11 cq_d19 (by decide) rfl rfl ?_
  refine mj_T.call rfl rfl (Nat.le_of_ble_eq_true rfl) (Nat.le_of_ble_eq_true rfl) (mV_of m3 18 cq_d164 (by decide) rfl (by decide) rfl _) rfl (mj_Ok.up (by omega) (mF_95 (D := 0) m3 b4 fr_d164 fa fr_d168)) (fun v g5 hq => ?_) (fun i g5 hq => ?_)
  rotate_left
  · obtain ⟨_, _, _, _, hq⟩ := hq; cases hq
  obtain ⟨V6, _, m7, b8, hq⟩ := hq
  cases hq
  refine mj_T.eq (pc2 := 20) (st2 := []) ?_ rfl rfl rfl rfl
  iterate 2 refine mj_T.pl rfl rfl rfl rfl ?_
  refine mT_get m7 11 cq_d19 (by decide) rfl rfl ?_
  refine mj_T.call rfl rfl (Nat.le_of_ble_eq_true rfl) (Nat.le_of_ble_eq_true rfl) (mV_of m7 18 fa.1 (by decide) rfl (by decide) rfl _) rfl (mj_Ok.up (by omega) (mF_87 (D := 0) m7 b8 fa fr_d164)) (fun v g9 hq => ?_) (fun i g9 hq => ?_)
  rotate_left
  · obtain ⟨_, _, _, _, hq⟩ := hq; cases hq
  obtain ⟨V10, _, m11, b12, hq⟩ := hq
  cases hq
  refine mj_T.eq (pc2 := 28) (st2 := []) ?_ rfl rfl rfl rfl
  exact mj_T.ret rfl rfl rfl ⟨V10, _, m11, b12, rfl⟩
theorem mZ_25 (m : jM g n V X h) (b : by0 V) {a : Nat} {y : Int} (fa : frW a) (hy : jR y) : mj_Ok (D + 3) 25 [.ref 19, .ref a, .long (jl y)] h (fun r => ∃ V2 h2, jM g n V2 X h2 ∧ by0 V2 ∧ r = (.inl none, h2)) := by
  refine mj_Ok.of (M := mj_m25) rfl rfl rfl ?_
  refine mj_T.pl rfl rfl rfl rfl ?_
  refine mT_get m 11 cq_d19 (by decide) rfl rfl ?_
  refine mj_T.pl rfl rfl rfl rfl ?_
  refine mj_T.call rfl rfl (Nat.le_of_ble_eq_true rfl) (Nat.le_of_ble_eq_true rfl) (mV_of m 18 cq_d168 (by decide) rfl (by decide) rfl _) rfl (mj_Ok.up (by omega) (mF_86 (D := 0) m b fr_d168 hy)) (fun v g1 hq => ?_) (fun i g1 hq => ?_)
  rotate_left
  · obtain ⟨_, _, _, _, hq⟩ := hq; cases hq
  obtain ⟨V2, _, m3, b4, hq⟩ := hq
  cases hq
  refine mj_T.eq (pc2 := 8) (st2 := []) ?_ rfl rfl rfl rfl
  refine mj_T.pl rfl rfl rfl rfl ?_
  refine mT_get m3 11 cq_d19 (by decide) rfl rfl ?_
  refine mj_T.pl rfl rfl rfl rfl ?_
  refine mT_get m3 11 cq_d19 (by decide) rfl rfl ?_
  refine mj_T.call rfl rfl (Nat.le_of_ble_eq_true rfl) (Nat.le_of_ble_eq_true rfl) (mV_of m3 12 cq_d170 (by decide) rfl (by decide) rfl _) rfl (mj_Ok.up (by omega) (mF_30 (D := 0) m3 b4 cq_d170 fr_d168)) (fun v g5 hq => ?_) (fun i g5 hq => ?_)
  rotate_left
  · obtain ⟨_, _, _, _, hq⟩ := hq; cases hq
  obtain ⟨V6, _, m7, b8, hq⟩ := hq
  cases hq
  refine mj_T.eq (pc2 := 19) (st2 := []) ?_ rfl rfl rfl rfl
  refine mj_T.pl rfl rfl rfl rfl ?_
  refine mT_get m7 11 cq_d19 (by decide) rfl rfl ?_
  iterate 2 refine mj_T.pl rfl rfl rfl rfl ?_
  refine mT_get m7 11 cq_d19 (by decide) rfl rfl ?_
  refine mj_T.call rfl rfl (Nat.le_of_ble_eq_true rfl) (Nat.le_of_ble_eq_true rfl) (mV_of m7 12 cq_d170 (by decide) rfl (by decide) rfl _) rfl (mj_Ok.up (by omega) (mF_31 (D := 0) m7 b8 cq_d170 fa fr_d164)) (fun v g9 hq => ?_) (fun i g9 hq => ?_)
  rotate_left
  · obtain ⟨_, _, _, _, hq⟩ := hq; cases hq
  obtain ⟨V10, _, m11, b12, hq⟩ := hq
  cases hq
  refine mj_T.eq (pc2 := 31) (st2 := []) ?_ rfl rfl rfl rfl
  iterate 2 refine mj_T.pl rfl rfl rfl rfl ?_
  refine mT_get m11 11 cq_d19 (by decide) rfl rfl ?_
  refine mj_T.call rfl rfl (Nat.le_of_ble_eq_true rfl) (Nat.le_of_ble_eq_true rfl) (mV_of m11 18 fa.1 (by decide) rfl (by decide) rfl _) rfl (mj_Ok.up (by omega) (mF_87 (D := 0) m11 b12 fa fr_d164)) (fun v g13 hq => ?_) (fun i g13 hq => ?_)
  rotate_left
  · obtain ⟨_, _, _, _, hq⟩ := hq; cases hq
  obtain ⟨V14, _, m15, b16, hq⟩ := hq
  cases hq
  refine mj_T.eq (pc2 := 39) (st2 := []) ?_ rfl rfl rfl rfl
  exact mj_T.ret rfl rfl rfl ⟨V14, _, m15, b16, rfl⟩
theorem mZ_23 (m : jM g n V X h) (b : by0 V) {a : Nat} {y : Int} (fa : frW a) (hy : jR y) : mj_Ok (D + 3) 23 [.ref 19, .ref a, .long (jl y)] h (fun r => ∃ (V2 : Nat → Int) (z : Int) (h2 : mj_H), jM g n V2 X h2 ∧ by0 V2 ∧ jR z ∧ r = (.inl (some (.long (jl z))), h2)) := by
  refine mj_Ok.of (M := mj_m23) rfl rfl rfl ?_
  refine mj_T.pl rfl rfl rfl rfl ?_
  refine mT_get m 11 cq_d19 (by decide) rfl rfl ?_
  refine mj_T.pl rfl rfl rfl rfl ?_
  refine mj_T.call rfl rfl (Nat.le_of_ble_eq_true rfl) (Nat.le_of_ble_eq_true rfl) (mV_of m 18 cq_d168 (by decide) rfl (by decide) rfl _) rfl (mj_Ok.up (by omega) (mF_86 (D := 0) m b fr_d168 hy)) (fun v g1 hq => ?_) (fun i g1 hq => ?_)
  rotate_left
  · obtain ⟨_, _, _, _, hq⟩ := hq; cases hq
  obtain ⟨V2, _, m3, b4, hq⟩ := hq
  cases hq
  refine mj_T.eq (pc2 := 8) (st2 := []) ?_ rfl rfl rfl rfl
  refine mj_T.pl rfl rfl rfl rfl ?_
  refine mT_get m3 11 cq_d19 (by decide) rfl rfl ?_
  refine mj_T.pl rfl rfl rfl rfl ?_
  refine mT_get m3 11 cq_d19 (by decide) rfl rfl ?_
  refine mj_T.call rfl rfl (Nat.le_of_ble_eq_true rfl) (Nat.le_of_ble_eq_true rfl) (mV_of m3 12 cq_d170 (by decide) rfl (by decide) rfl _) rfl (mj_Ok.up (by omega) (mF_30 (D := 0) m3 b4 cq_d170 fr_d168)) (fun v g5 hq => ?_) (fun i g5 hq => ?_)
  rotate_left
  · obtain ⟨_, _, _, _, hq⟩ := hq; cases hq
  obtain ⟨V6, _, m7, b8, hq⟩ := hq
  cases hq
  refine mj_T.eq (pc2 := 19) (st2 := []) ?_ rfl rfl rfl rfl
  refine mj_T.pl rfl rfl rfl rfl ?_
  refine mT_get m7 11 cq_d19 (by decide) rfl rfl ?_
  refine mj_T.pl rfl rfl rfl rfl ?_
  refine mj_T.call rfl rfl (Nat.le_of_ble_eq_true rfl) (Nat.le_of_ble_eq_true rfl) (mV_of m7 18 cq_d166 (by decide) rfl (by decide) rfl _) rfl (mj_Ok.up (by omega) (mF_87 (D := 0) m7 b8 fr_d166 fa)) (fun v g9 hq => ?_) (fun i g9 hq => ?_)
  rotate_left
  · obtain ⟨_, _, _, _, hq⟩ := hq; cases hq
  obtain ⟨V10, _, m11, b12, hq⟩ := hq
  cases hq
  refine mj_T.eq (pc2 := 27) (st2 := []) ?_ rfl rfl rfl rfl
  refine mj_T.pl rfl rfl rfl rfl ?_
  refine mT_get m11 11 cq_d19 (by decide) rfl rfl ?_
  refine mj_T.pl rfl rfl rfl rfl ?_
  refine mT_get m11 11 cq_d19 (by decide) rfl rfl ?_
  refine mj_T.pl rfl rfl rfl rfl ?_
  refine mT_get m11 11 cq_d19 (by decide) rfl rfl ?_
  refine mj_T.call rfl rfl (Nat.le_of_ble_eq_true rfl) (Nat.le_of_ble_eq_true rfl) (mV_of m11 12 cq_d170 (by decide) rfl (by decide) rfl _) rfl (mj_Ok.up (by omega) (mF_31 (D := 0) m11 b12 cq_d170 fr_d166 fr_d164)) (fun v g13 hq => ?_) (fun i g13 hq => ?_)
  rotate_left
  · obtain ⟨_, _, _, _, hq⟩ := hq; cases hq
  obtain ⟨V14, _, m15, b16, hq⟩ := hq
  cases hq
  refine mj_T.eq (pc2 := 42) (st2 := []) ?_ rfl rfl rfl rfl
  refine mj_T.pl rfl rfl rfl rfl ?_
  refine mT_get m15 11 cq_d19 (by decide) rfl rfl ?_
  refine mj_T.call rfl rfl (Nat.le_of_ble_eq_true rfl) (Nat.le_of_ble_eq_true rfl) (mV_of m15 18 cq_d166 (by decide) rfl (by decide) rfl _) rfl (mj_Ok.up (by omega) (mZ_100 (D := 0) m15 cq_d166)) (fun v g17 hq => ?_) (fun i g17 hq => ?_)
  rotate_left
  · obtain ⟨_, _, hq⟩ := hq; cases hq
  obtain ⟨y18, jy18, hq⟩ := hq
  cases hq
  refine mj_T.eq (pc2 := 49) (st2 := [.long (jl y18)]) ?_ rfl rfl rfl rfl
  refine mj_T.pl rfl rfl rfl rfl ?_
  refine mj_T.call rfl rfl (Nat.le_of_ble_eq_true rfl) (Nat.le_of_ble_eq_true rfl) rfl rfl (mj_Ok.up (by omega) (mZ_171 (D := 0) m15 jy18 hy)) (fun v g19 hq => ?_) (fun i g19 hq => ?_)
  rotate_left
  · obtain ⟨_, _, hq⟩ := hq; cases hq
  obtain ⟨y20, jy20, hq⟩ := hq
  cases hq
  refine mj_T.eq (pc2 := 53) (st2 := [.long (jl y20)]) ?_ rfl rfl rfl rfl
  exact mj_T.ret rfl rfl rfl ⟨V14, _, _, m15, b16, jy20, rfl⟩
theorem mZ_17_loop {dy s : Nat} (kp : cK p = 13) (kq : cK q = 13) (hdy : X q 2 = (dy : Int)) (hdq : dy < cL (q + 3)) (hs : dy + s < cL (p + 3)) : ∀ k i, i + k = dy + s → ∀ (V1 : Nat → Int) (h1 : mj_H) (l7 : Option Value), jM g n V1 X h1 → by0 V1 → mj_T (D + 2) mj_m17 21 [some (.ref 19), some (.ref p), some (.ref q), some (.int (jn (s : Int))), some (.ref (p + 4 + 2 * (dy + s))), some (.ref (q + 4 + 2 * dy)), some (.int (jn (i : Int))), l7] [] h1 (fun r => ∃ V2 h2, jM g n V2 X h2 ∧ by0 V2 ∧ r = (.inl none, h2))
  | 0, i, hi, V1, h1, l7, m, b => by
    have hbp := (mK_p kp).2.2.1
    have hbq := (mK_p kq).2.2.1
    iterate 2 refine mj_T.pl rfl rfl rfl rfl ?_
    refine mT_get (v := .int (jn ((dy : Nat) : Int))) m 13 kq (by decide) rfl (congrArg (fun z : Int => some (Value.int (jn z))) (hdy)) ?_
    refine mj_T.pl rfl rfl rfl rfl ?_
    refine mj_T.iadd (a := ((dy : Nat) : Int)) (b := ((s : Nat) : Int)) rfl ?_
    refine mj_T.icmp (a := ((i : Nat) : Int)) (b := (((dy : Nat) : Int) + ((s : Nat) : Int))) rfl ⟨by omega, by omega⟩ ⟨by omega, by omega⟩ (fun c1 => ?_) (fun c1 => ?_)
    · simp only [jc, Bool.not_eq_true', Bool.not_eq_false', decide_eq_true_eq, decide_eq_false_iff_not] at c1
      refine mj_T.pl rfl rfl rfl rfl ?_
      refine jT.lc 0 rfl rfl ?_
      refine mj_T.call rfl rfl (Nat.le_of_ble_eq_true rfl) (Nat.le_of_ble_eq_true rfl) (mV_of m 18 ((mK_p kp).2.2.2 (dy + s) (by omega)) (by decide) rfl (by decide) rfl _) rfl (mj_Ok.up (by omega) (mF_86 (D := 0) m b (fr_part kp (by omega)) jR_0)) (fun v g2 hq => ?_) (fun i g2 hq => ?_)
      rotate_left
      · obtain ⟨_, _, _, _, hq⟩ := hq; cases hq
      obtain ⟨V3, _, m4, b5, hq⟩ := hq
      cases hq
      refine mj_T.eq (pc2 := 107) (st2 := []) ?_ rfl rfl rfl rfl
      exact mj_T.ret rfl rfl rfl ⟨V3, _, m4, b5, rfl⟩
    · exfalso
      simp only [jc, Bool.not_eq_true', Bool.not_eq_false', decide_eq_true_eq, decide_eq_false_iff_not] at c1
      omega
  | k + 1, i, hi, V1, h1, l7, m, b => by
    have hbp := (mK_p kp).2.2.1
    have hbq := (mK_p kq).2.2.1
    iterate 2 refine mj_T.pl rfl rfl rfl rfl ?_
    refine mT_get (v := .int (jn ((dy : Nat) : Int))) m 13 kq (by decide) rfl (congrArg (fun z : Int => some (Value.int (jn z))) (hdy)) ?_
    refine mj_T.pl rfl rfl rfl rfl ?_
    refine mj_T.iadd (a := ((dy : Nat) : Int)) (b := ((s : Nat) : Int)) rfl ?_
    refine mj_T.icmp (a := ((i : Nat) : Int)) (b := (((dy : Nat) : Int) + ((s : Nat) : Int))) rfl ⟨by omega, by omega⟩ ⟨by omega, by omega⟩ (fun c1 => ?_) (fun c1 => ?_)
    · exfalso
      simp only [jc, Bool.not_eq_true', Bool.not_eq_false', decide_eq_true_eq, decide_eq_false_iff_not] at c1
      omega
    · simp only [jc, Bool.not_eq_true', Bool.not_eq_false', decide_eq_true_eq, decide_eq_false_iff_not] at c1
      iterate 2 refine mj_T.pl rfl rfl rfl rfl ?_
      refine mj_T.call rfl rfl (Nat.le_of_ble_eq_true rfl) (Nat.le_of_ble_eq_true rfl) (mV_of m 13 kp (by decide) rfl (by decide) rfl _) rfl (mj_Ok.up (by omega) (mP_at (D := 0) m kp (e := i) (by omega))) (fun v g2 hq => ?_) (fun i g2 hq => ?_)
      rotate_left
      · cases hq
      cases hq
      refine mj_T.eq (pc2 := 38) (st2 := [.ref (p + 4 + 2 * i)]) ?_ rfl rfl rfl rfl
      refine mj_T.pl (loc' := [some (.ref 19), some (.ref p), some (.ref q), some (.int (jn ((s : Nat) : Int))), some (.ref (p + 4 + 2 * (dy + s))), some (.ref (q + 4 + 2 * dy)), some (.int (jn ((i : Nat) : Int))), some (.ref (p + 4 + 2 * i))]) rfl rfl rfl rfl ?_
      refine mj_T.pl rfl rfl rfl rfl ?_
      refine mT_get m 11 cq_d19 (by decide) rfl rfl ?_
      iterate 2 refine mj_T.pl rfl rfl rfl rfl ?_
      refine mj_T.call rfl rfl (Nat.le_of_ble_eq_true rfl) (Nat.le_of_ble_eq_true rfl) (mV_of m 18 cq_d164 (by decide) rfl (by decide) rfl _) rfl (mj_Ok.up (by omega) (mF_95 (D := 0) m b fr_d164 (fr_part kp (by omega)) (fr_part kq (by omega)))) (fun v g3 hq => ?_) (fun i g3 hq => ?_)
      rotate_left
      · obtain ⟨_, _, _, _, hq⟩ := hq; cases hq
      obtain ⟨V4, _, m5, b6, hq⟩ := hq
      cases hq
      refine mj_T.eq (pc2 := 51) (st2 := []) ?_ rfl rfl rfl rfl
      iterate 2 refine mj_T.pl rfl rfl rfl rfl ?_
      refine mj_T.icmp (a := ((i : Nat) : Int)) (b := ((s : Nat) : Int)) rfl ⟨by omega, by omega⟩ ⟨by omega, by omega⟩ (fun c7 => ?_) (fun c7 => ?_)
      · simp only [jc, Bool.not_eq_true', Bool.not_eq_false', decide_eq_true_eq, decide_eq_false_iff_not] at c7
        iterate 2 refine mj_T.pl rfl rfl rfl rfl ?_
        refine mT_get m5 11 cq_d19 (by decide) rfl rfl ?_
        refine mj_T.call rfl rfl (Nat.le_of_ble_eq_true rfl) (Nat.le_of_ble_eq_true rfl) (mV_of m5 18 ((mK_p kp).2.2.2 i (by omega)) (by decide) rfl (by decide) rfl _) rfl (mj_Ok.up (by omega) (mF_87 (D := 0) m5 b6 (fr_part kp (by omega)) fr_d164)) (fun v g8 hq => ?_) (fun i g8 hq => ?_)
        rotate_left
        · obtain ⟨_, _, _, _, hq⟩ := hq; cases hq
        obtain ⟨V9, _, m10, b11, hq⟩ := hq
        cases hq
        refine mj_T.eq (pc2 := 95) (st2 := []) ?_ rfl rfl rfl rfl
        refine mj_T.iinc rfl rfl ?_
        rw [show ((i : Nat) : Int) + 1 = ((i + 1 : Nat) : Int) by omega]
        refine mj_T.eq (loc2 := [some (.ref 19), some (.ref p), some (.ref q), some (.int (jn ((s : Nat) : Int))), some (.ref (p + 4 + 2 * (dy + s))), some (.ref (q + 4 + 2 * dy)), some (.int (jn (((i + 1) : Nat) : Int))), some (.ref (p + 4 + 2 * i))]) ?_ rfl rfl rfl rfl
        refine mj_T.pl rfl rfl rfl rfl ?_
        exact mZ_17_loop kp kq hdy hdq hs k (i + 1) (by omega) _ _ _ m10 b11
      · simp only [jc, Bool.not_eq_true', Bool.not_eq_false', decide_eq_true_eq, decide_eq_false_iff_not] at c7
        refine mj_T.pl rfl rfl rfl rfl ?_
        refine mT_get m5 11 cq_d19 (by decide) rfl rfl ?_
        iterate 4 refine mj_T.pl rfl rfl rfl rfl ?_
        refine mj_T.isub (a := ((i : Nat) : Int)) (b := ((s : Nat) : Int)) rfl ?_
        rw [show (((i : Nat) : Int) - ((s : Nat) : Int)) = (((i - s) : Nat) : Int) by omega]
        refine mj_T.call rfl rfl (Nat.le_of_ble_eq_true rfl) (Nat.le_of_ble_eq_true rfl) (mV_of m5 13 kq (by decide) rfl (by decide) rfl _) rfl (mj_Ok.up (by omega) (mP_at (D := 0) m5 kq (e := (i - s)) (by omega))) (fun v g12 hq => ?_) (fun i g12 hq => ?_)
        rotate_left
        · cases hq
        cases hq
        refine mj_T.eq (pc2 := 71) (st2 := [.ref (q + 4 + 2 * (i - s)), .ref (p + 4 + 2 * (dy + s)), .ref 166]) ?_ rfl rfl rfl rfl
        refine mj_T.call rfl rfl (Nat.le_of_ble_eq_true rfl) (Nat.le_of_ble_eq_true rfl) (mV_of m5 18 cq_d166 (by decide) rfl (by decide) rfl _) rfl (mj_Ok.up (by omega) (mF_95 (D := 0) m5 b6 fr_d166 (fr_part kp (by omega)) (fr_part kq (by omega)))) (fun v g13 hq => ?_) (fun i g13 hq => ?_)
        rotate_left
        · obtain ⟨_, _, _, _, hq⟩ := hq; cases hq
        obtain ⟨V14, _, m15, b16, hq⟩ := hq
        cases hq
        refine mj_T.eq (pc2 := 74) (st2 := []) ?_ rfl rfl rfl rfl
        refine mj_T.pl rfl rfl rfl rfl ?_
        refine mT_get m15 11 cq_d19 (by decide) rfl rfl ?_
        refine mj_T.pl rfl rfl rfl rfl ?_
        refine mT_get m15 11 cq_d19 (by decide) rfl rfl ?_
        refine mj_T.pl rfl rfl rfl rfl ?_
        refine mj_T.call rfl rfl (Nat.le_of_ble_eq_true rfl) (Nat.le_of_ble_eq_true rfl) (mV_of m15 18 cq_d164 (by decide) rfl (by decide) rfl _) rfl (mj_Ok.up (by omega) (mF_91 (D := 0) m15 b16 fr_d164 fr_d166 (by omega))) (fun v g17 hq => ?_) (fun i g17 hq => ?_)
        rotate_left
        · obtain ⟨_, _, _, _, hq⟩ := hq; cases hq
        obtain ⟨V18, _, m19, b20, hq⟩ := hq
        cases hq
        refine mj_T.eq (pc2 := 86) (st2 := []) ?_ rfl rfl rfl rfl
        iterate 2 refine mj_T.pl rfl rfl rfl rfl ?_
        refine mT_get m19 11 cq_d19 (by decide) rfl rfl ?_
        refine mj_T.call rfl rfl (Nat.le_of_ble_eq_true rfl) (Nat.le_of_ble_eq_true rfl) (mV_of m19 18 ((mK_p kp).2.2.2 i (by omega)) (by decide) rfl (by decide) rfl _) rfl (mj_Ok.up (by omega) (mF_87 (D := 0) m19 b20 (fr_part kp (by omega)) fr_d164)) (fun v g21 hq => ?_) (fun i g21 hq => ?_)
        rotate_left
        · obtain ⟨_, _, _, _, hq⟩ := hq; cases hq
        obtain ⟨V22, _, m23, b24, hq⟩ := hq
        cases hq
        refine mj_T.eq (pc2 := 95) (st2 := []) ?_ rfl rfl rfl rfl
        refine mj_T.iinc rfl rfl ?_
        rw [show ((i : Nat) : Int) + 1 = ((i + 1 : Nat) : Int) by omega]
        refine mj_T.eq (loc2 := [some (.ref 19), some (.ref p), some (.ref q), some (.int (jn ((s : Nat) : Int))), some (.ref (p + 4 + 2 * (dy + s))), some (.ref (q + 4 + 2 * dy)), some (.int (jn (((i + 1) : Nat) : Int))), some (.ref (p + 4 + 2 * i))]) ?_ rfl rfl rfl rfl
        refine mj_T.pl rfl rfl rfl rfl ?_
        exact mZ_17_loop kp kq hdy hdq hs k (i + 1) (by omega) _ _ _ m23 b24
theorem mZ_17 (m : jM g n V X h) (b : by0 V) {dy s : Nat} (kp : cK p = 13) (kq : cK q = 13) (hdy : X q 2 = (dy : Int)) (hdq : dy < cL (q + 3)) (hs : dy + s < cL (p + 3)) : mj_Ok (D + 3) 17 [.ref 19, .ref p, .ref q, .int (jn (s : Int))] h (fun r => ∃ V2 h2, jM g n V2 X h2 ∧ by0 V2 ∧ r = (.inl none, h2)) := by
  have hbp := (mK_p kp).2.2.1
  have hbq := (mK_p kq).2.2.1
  refine mj_Ok.of (M := mj_m17) rfl rfl rfl ?_
  iterate 2 refine mj_T.pl rfl rfl rfl rfl ?_
  refine mT_get (v := .int (jn ((dy : Nat) : Int))) m 13 kq (by decide) rfl (congrArg (fun z : Int => some (Value.int (jn z))) (hdy)) ?_
  refine mj_T.pl rfl rfl rfl rfl ?_
  refine mj_T.iadd (a := ((dy : Nat) : Int)) (b := ((s : Nat) : Int)) rfl ?_
  rw [show (((dy : Nat) : Int) + ((s : Nat) : Int)) = ((dy + s : Nat) : Int) by omega]
  refine mj_T.call rfl rfl (Nat.le_of_ble_eq_true rfl) (Nat.le_of_ble_eq_true rfl) (mV_of m 13 kp (by decide) rfl (by decide) rfl _) rfl (mj_Ok.up (by omega) (mP_at (D := 0) m kp (e := (dy + s)) (by omega))) (fun v g1 hq => ?_) (fun i g1 hq => ?_)
  rotate_left
  · cases hq
  cases hq
  refine mj_T.eq (pc2 := 10) (st2 := [.ref (p + 4 + 2 * (dy + s))]) ?_ rfl rfl rfl rfl
  refine mj_T.pl (loc' := [some (.ref 19), some (.ref p), some (.ref q), some (.int (jn ((s : Nat) : Int))), some (.ref (p + 4 + 2 * (dy + s))), none, none, none]) rfl rfl rfl rfl ?_
  refine mj_T.pl rfl rfl rfl rfl ?_
  refine mj_T.call rfl rfl (Nat.le_of_ble_eq_true rfl) (Nat.le_of_ble_eq_true rfl) (mV_of m 13 kq (by decide) rfl (by decide) rfl _) rfl (mj_Ok.up (by omega) (mP_lead (D := 0) m kq hdy hdq)) (fun v g2 hq => ?_) (fun i g2 hq => ?_)
  rotate_left
  · cases hq
  cases hq
  refine mj_T.eq (pc2 := 16) (st2 := [.ref (q + 4 + 2 * dy)]) ?_ rfl rfl rfl rfl
  refine mj_T.pl (loc' := [some (.ref 19), some (.ref p), some (.ref q), some (.int (jn ((s : Nat) : Int))), some (.ref (p + 4 + 2 * (dy + s))), some (.ref (q + 4 + 2 * dy)), none, none]) rfl rfl rfl rfl ?_
  refine mj_T.pl rfl rfl rfl rfl ?_
  refine mj_T.pl (loc' := [some (.ref 19), some (.ref p), some (.ref q), some (.int (jn ((s : Nat) : Int))), some (.ref (p + 4 + 2 * (dy + s))), some (.ref (q + 4 + 2 * dy)), some (.int (jn 0)), none]) rfl rfl rfl rfl ?_
  exact mZ_17_loop kp kq hdy hdq hs (dy + s) 0 (by omega) _ _ _ m b
theorem mZ_20_in {a i : Nat} {d t : Int} (kp : cK p = 13) (fa : frW a) (hd : X p 2 = d) (hd2 : -1 ≤ d ∧ d < cL (p + 3)) (ht : -2147483648 ≤ t ∧ t ≤ 2147483647) (hi : i < cL (p + 3)) {Q : mj_R → Prop} (hend : ∀ (V1 : Nat → Int) (h1 : mj_H) (j : Int), jM g n V1 X h1 → by0 V1 → mj_T (D + 2) mj_m20 65 [some (.ref 19), some (.ref p), some (.ref a), some (.int (jn t)), some (.int (jn (i : Int))), some (.ref (p + 4 + 2 * i)), some (.int (jn j))] [] h1 Q) : ∀ (k : Nat) (j : Int), (0 ≤ j ∧ j ≤ 2147483647) → t - j ≤ k → ∀ (V1 : Nat → Int) (h1 : mj_H), jM g n V1 X h1 → by0 V1 → mj_T (D + 2) mj_m20 31 [some (.ref 19), some (.ref p), some (.ref a), some (.int (jn t)), some (.int (jn (i : Int))), some (.ref (p + 4 + 2 * i)), some (.int (jn j))] [] h1 Q
  | 0, j, hj, htj, V1, h1, m, b => by
    iterate 2 refine mj_T.pl rfl rfl rfl rfl ?_
    refine mj_T.icmp (a := j) (b := t) rfl ⟨by omega, by omega⟩ ⟨by omega, by omega⟩ (fun c1 => ?_) (fun c1 => ?_)
    · simp only [jc, Bool.not_eq_true', Bool.not_eq_false', decide_eq_true_eq, decide_eq_false_iff_not] at c1
      exact hend _ _ _ m b
    · exfalso
      simp only [jc, Bool.not_eq_true', Bool.not_eq_false', decide_eq_true_eq, decide_eq_false_iff_not] at c1
      omega
  | k + 1, j, hj, htj, V1, h1, m, b => by
    iterate 2 refine mj_T.pl rfl rfl rfl rfl ?_
    refine mj_T.icmp (a := j) (b := t) rfl ⟨by omega, by omega⟩ ⟨by omega, by omega⟩ (fun c1 => ?_) (fun c1 => ?_)
    · simp only [jc, Bool.not_eq_true', Bool.not_eq_false', decide_eq_true_eq, decide_eq_false_iff_not] at c1
      exact hend _ _ _ m b
    · simp only [jc, Bool.not_eq_true', Bool.not_eq_false', decide_eq_true_eq, decide_eq_false_iff_not] at c1
      refine mj_T.pl rfl rfl rfl rfl ?_
      refine mT_get m 11 cq_d19 (by decide) rfl rfl ?_
      iterate 2 refine mj_T.pl rfl rfl rfl rfl ?_
      refine mT_get m 11 cq_d19 (by decide) rfl rfl ?_
      refine mj_T.call rfl rfl (Nat.le_of_ble_eq_true rfl) (Nat.le_of_ble_eq_true rfl) (mV_of m 12 cq_d170 (by decide) rfl (by decide) rfl _) rfl (mj_Ok.up (by omega) (mF_31 (D := 0) m b cq_d170 (fr_part kp (by omega)) fr_d164)) (fun v g2 hq => ?_) (fun i g2 hq => ?_)
      rotate_left
      · obtain ⟨_, _, _, _, hq⟩ := hq; cases hq
      obtain ⟨V3, _, m4, b5, hq⟩ := hq
      cases hq
      refine mj_T.eq (pc2 := 50) (st2 := []) ?_ rfl rfl rfl rfl
      iterate 2 refine mj_T.pl rfl rfl rfl rfl ?_
      refine mT_get m4 11 cq_d19 (by decide) rfl rfl ?_
      refine mj_T.call rfl rfl (Nat.le_of_ble_eq_true rfl) (Nat.le_of_ble_eq_true rfl) (mV_of m4 18 ((mK_p kp).2.2.2 i (by omega)) (by decide) rfl (by decide) rfl _) rfl (mj_Ok.up (by omega) (mF_87 (D := 0) m4 b5 (fr_part kp (by omega)) fr_d164)) (fun v g6 hq => ?_) (fun i g6 hq => ?_)
      rotate_left
      · obtain ⟨_, _, _, _, hq⟩ := hq; cases hq
      obtain ⟨V7, _, m8, b9, hq⟩ := hq
      cases hq
      refine mj_T.eq (pc2 := 59) (st2 := []) ?_ rfl rfl rfl rfl
      refine mj_T.iinc rfl rfl ?_
      refine mj_T.eq (loc2 := [some (.ref 19), some (.ref p), some (.ref a), some (.int (jn t)), some (.int (jn ((i : Nat) : Int))), some (.ref (p + 4 + 2 * i)), some (.int (jn (j + 1)))]) ?_ rfl rfl rfl rfl
      refine mj_T.pl rfl rfl rfl rfl ?_
      exact mZ_20_in kp fa hd hd2 ht hi hend k (j + 1) (by omega) (by omega) _ _ m8 b9
theorem mZ_20_out {a : Nat} {d t : Int} (kp : cK p = 13) (fa : frW a) (hd : X p 2 = d) (hd2 : -1 ≤ d ∧ d < cL (p + 3)) (ht : -2147483648 ≤ t ∧ t ≤ 2147483647) : ∀ (k i : Nat), cL (p + 3) + 1 = i + k → ∀ (V1 : Nat → Int) (h1 : mj_H) (l5 l6 : Option Value), jM g n V1 X h1 → by0 V1 → mj_T (D + 2) mj_m20 11 [some (.ref 19), some (.ref p), some (.ref a), some (.int (jn t)), some (.int (jn (i : Int))), l5, l6] [] h1 (fun r => ∃ V2 h2, jM g n V2 X h2 ∧ by0 V2 ∧ r = (.inl none, h2))
  | 0, i, hi, V1, h1, l5, l6, m, b => by
    have hbp := (mK_p kp).2.2.1
    iterate 2 refine mj_T.pl rfl rfl rfl rfl ?_
    refine mT_get (v := .int (jn d)) m 13 kp (by decide) rfl (congrArg (fun z : Int => some (Value.int (jn z))) (hd)) ?_
    refine mj_T.icmp (a := ((i : Nat) : Int)) (b := d) rfl ⟨by omega, by omega⟩ ⟨by omega, by omega⟩ (fun c1 => ?_) (fun c1 => ?_)
    · simp only [jc, Bool.not_eq_true', Bool.not_eq_false', decide_eq_true_eq, decide_eq_false_iff_not] at c1
      exact mj_T.ret rfl rfl rfl ⟨V1, _, m, b, rfl⟩
    · exfalso
      simp only [jc, Bool.not_eq_true', Bool.not_eq_false', decide_eq_true_eq, decide_eq_false_iff_not] at c1
      omega
  | k + 1, i, hi, V1, h1, l5, l6, m, b => by
    have hbp := (mK_p kp).2.2.1
    iterate 2 refine mj_T.pl rfl rfl rfl rfl ?_
    refine mT_get (v := .int (jn d)) m 13 kp (by decide) rfl (congrArg (fun z : Int => some (Value.int (jn z))) (hd)) ?_
    refine mj_T.icmp (a := ((i : Nat) : Int)) (b := d) rfl ⟨by omega, by omega⟩ ⟨by omega, by omega⟩ (fun c1 => ?_) (fun c1 => ?_)
    · simp only [jc, Bool.not_eq_true', Bool.not_eq_false', decide_eq_true_eq, decide_eq_false_iff_not] at c1
      exact mj_T.ret rfl rfl rfl ⟨V1, _, m, b, rfl⟩
    · simp only [jc, Bool.not_eq_true', Bool.not_eq_false', decide_eq_true_eq, decide_eq_false_iff_not] at c1
      iterate 2 refine mj_T.pl rfl rfl rfl rfl ?_
      refine mj_T.call rfl rfl (Nat.le_of_ble_eq_true rfl) (Nat.le_of_ble_eq_true rfl) (mV_of m 13 kp (by decide) rfl (by decide) rfl _) rfl (mj_Ok.up (by omega) (mP_at (D := 0) m kp (e := i) (by omega))) (fun v g2 hq => ?_) (fun i g2 hq => ?_)
      rotate_left
      · cases hq
      cases hq
      refine mj_T.eq (pc2 := 26) (st2 := [.ref (p + 4 + 2 * i)]) ?_ rfl rfl rfl rfl
      refine mj_T.pl (loc' := [some (.ref 19), some (.ref p), some (.ref a), some (.int (jn t)), some (.int (jn ((i : Nat) : Int))), some (.ref (p + 4 + 2 * i)), l6]) rfl rfl rfl rfl ?_
      refine mj_T.pl rfl rfl rfl rfl ?_
      refine mj_T.pl (loc' := [some (.ref 19), some (.ref p), some (.ref a), some (.int (jn t)), some (.int (jn ((i : Nat) : Int))), some (.ref (p + 4 + 2 * i)), some (.int (jn 0))]) rfl rfl rfl rfl ?_
      refine mZ_20_in kp fa hd hd2 ht (by omega) (fun V3 h3 j3 m3 b3 => ?_) (t + 1).toNat 0 (by omega) (by omega) _ _ m b
      refine mj_T.iinc rfl rfl ?_
      rw [show ((i : Nat) : Int) + 1 = ((i + 1 : Nat) : Int) by omega]
      refine mj_T.eq (loc2 := [some (.ref 19), some (.ref p), some (.ref a), some (.int (jn t)), some (.int (jn (((i + 1) : Nat) : Int))), some (.ref (p + 4 + 2 * i)), some (.int (jn j3))]) ?_ rfl rfl rfl rfl
      refine mj_T.pl rfl rfl rfl rfl ?_
      exact mZ_20_out kp fa hd hd2 ht k (i + 1) (by omega) _ _ _ _ m3 b3
theorem mZ_20 (m : jM g n V X h) (b : by0 V) {a : Nat} {d t : Int} (kp : cK p = 13) (fa : frW a) (hd : X p 2 = d) (hd2 : -1 ≤ d ∧ d < cL (p + 3)) (ht : -2147483648 ≤ t ∧ t ≤ 2147483647) : mj_Ok (D + 3) 20 [.ref 19, .ref p, .ref a, .int (jn t)] h (fun r => ∃ V2 h2, jM g n V2 X h2 ∧ by0 V2 ∧ r = (.inl none, h2)) := by
  refine mj_Ok.of (M := mj_m20) rfl rfl rfl ?_
  refine mj_T.pl rfl rfl rfl rfl ?_
  refine mT_get m 11 cq_d19 (by decide) rfl rfl ?_
  refine mj_T.pl rfl rfl rfl rfl ?_
  refine mj_T.call rfl rfl (Nat.le_of_ble_eq_true rfl) (Nat.le_of_ble_eq_true rfl) (mV_of m 12 cq_d170 (by decide) rfl (by decide) rfl _) rfl (mj_Ok.up (by omega) (mF_30 (D := 0) m b cq_d170 fa)) (fun v g1 hq => ?_) (fun i g1 hq => ?_)
  rotate_left
  · obtain ⟨_, _, _, _, hq⟩ := hq; cases hq
  obtain ⟨V2, _, m3, b4, hq⟩ := hq
  cases hq
  refine mj_T.eq (pc2 := 8) (st2 := []) ?_ rfl rfl rfl rfl
  refine mj_T.pl rfl rfl rfl rfl ?_
  refine mj_T.pl (loc' := [some (.ref 19), some (.ref p), some (.ref a), some (.int (jn t)), some (.int (jn 0)), none, none]) rfl rfl rfl rfl ?_
  exact mZ_20_out kp fa hd hd2 ht (cL (p + 3) + 1) 0 (by omega) _ _ _ _ m3 b4
theorem mZ_26_loop {y : Int} (kp : cK p = 13) (hy : jR y) : ∀ (k : Nat) (i : Int), i < k → (-5 ≤ i ∧ i < cL (p + 3)) → ∀ (V1 : Nat → Int) (h1 : mj_H), jM g n V1 X h1 → by0 V1 → mj_T (D + 2) mj_m26 16 [some (.ref 19), some (.ref p), some (.long (jl y)), none, some (.int (jn i))] [] h1 (fun r => ∃ V2 h2, jM g n V2 X h2 ∧ by0 V2 ∧ r = (.inl none, h2))
  | 0, i, hi, hi2, V1, h1, m, b => by
    have hbp := (mK_p kp).2.2.1
    refine mj_T.pl rfl rfl rfl rfl ?_
    refine mj_T.if0 (a := i) rfl ⟨by omega, by omega⟩ (fun c1 => ?_) (fun c1 => ?_)
    · simp only [jc, Bool.not_eq_true', Bool.not_eq_false', decide_eq_true_eq, decide_eq_false_iff_not] at c1
      exact mj_T.ret rfl rfl rfl ⟨V1, _, m, b, rfl⟩
    · exfalso
      simp only [jc, Bool.not_eq_true', Bool.not_eq_false', decide_eq_true_eq, decide_eq_false_iff_not] at c1
      omega
  | k + 1, i, hi, hi2, V1, h1, m, b => by
    have hbp := (mK_p kp).2.2.1
    refine mj_T.pl rfl rfl rfl rfl ?_
    refine mj_T.if0 (a := i) rfl ⟨by omega, by omega⟩ (fun c1 => ?_) (fun c1 => ?_)
    · simp only [jc, Bool.not_eq_true', Bool.not_eq_false', decide_eq_true_eq, decide_eq_false_iff_not] at c1
      exact mj_T.ret rfl rfl rfl ⟨V1, _, m, b, rfl⟩
    · simp only [jc, Bool.not_eq_true', Bool.not_eq_false', decide_eq_true_eq, decide_eq_false_iff_not] at c1
      refine mj_T.pl rfl rfl rfl rfl ?_
      refine jT.lc 1 rfl rfl ?_
      refine mj_T.lif (a := y) (b := ((1 : Nat) : Int)) rfl rfl hy ⟨by decide, by decide⟩ (fun c2 => ?_) (fun c2 => ?_)
      · simp only [jc, Bool.not_eq_true', Bool.not_eq_false', decide_eq_true_eq, decide_eq_false_iff_not] at c2
        exact mj_T.ret rfl rfl rfl ⟨V1, _, m, b, rfl⟩
      · simp only [jc, Bool.not_eq_true', Bool.not_eq_false', decide_eq_true_eq, decide_eq_false_iff_not] at c2
        obtain ⟨e, he⟩ : ∃ e : Nat, i = (e : Int) := ⟨(i : Int).toNat, by omega⟩
        subst he
        refine mj_T.pl rfl rfl rfl rfl ?_
        refine mT_get m 11 cq_d19 (by decide) rfl rfl ?_
        refine mj_T.pl rfl rfl rfl rfl ?_
        refine mj_T.call rfl rfl (Nat.le_of_ble_eq_true rfl) (Nat.le_of_ble_eq_true rfl) (mV_of m 18 cq_d166 (by decide) rfl (by decide) rfl _) rfl (mj_Ok.up (by omega) (mF_86 (D := 0) m b fr_d166 hy)) (fun v g3 hq => ?_) (fun i g3 hq => ?_)
        rotate_left
        · obtain ⟨_, _, _, _, hq⟩ := hq; cases hq
        obtain ⟨V4, _, m5, b6, hq⟩ := hq
        cases hq
        refine mj_T.eq (pc2 := 35) (st2 := []) ?_ rfl rfl rfl rfl
        refine mj_T.pl rfl rfl rfl rfl ?_
        refine mT_get m5 11 cq_d19 (by decide) rfl rfl ?_
        refine mj_T.pl rfl rfl rfl rfl ?_
        refine mT_get m5 11 cq_d19 (by decide) rfl rfl ?_
        refine mj_T.pl rfl rfl rfl rfl ?_
        refine mT_get m5 11 cq_d19 (by decide) rfl rfl ?_
        refine mj_T.call rfl rfl (Nat.le_of_ble_eq_true rfl) (Nat.le_of_ble_eq_true rfl) (mV_of m5 18 cq_d164 (by decide) rfl (by decide) rfl _) rfl (mj_Ok.up (by omega) (mF_95 (D := 0) m5 b6 fr_d164 fr_d168 fr_d166)) (fun v g7 hq => ?_) (fun i g7 hq => ?_)
        rotate_left
        · obtain ⟨_, _, _, _, hq⟩ := hq; cases hq
        obtain ⟨V8, _, m9, b10, hq⟩ := hq
        cases hq
        refine mj_T.eq (pc2 := 50) (st2 := []) ?_ rfl rfl rfl rfl
        refine mj_T.pl rfl rfl rfl rfl ?_
        refine mT_get m9 11 cq_d19 (by decide) rfl rfl ?_
        refine mj_T.pl rfl rfl rfl rfl ?_
        refine mT_get m9 11 cq_d19 (by decide) rfl rfl ?_
        refine mj_T.call rfl rfl (Nat.le_of_ble_eq_true rfl) (Nat.le_of_ble_eq_true rfl) (mV_of m9 18 cq_d168 (by decide) rfl (by decide) rfl _) rfl (mj_Ok.up (by omega) (mF_87 (D := 0) m9 b10 fr_d168 fr_d164)) (fun v g11 hq => ?_) (fun i g11 hq => ?_)
        rotate_left
        · obtain ⟨_, _, _, _, hq⟩ := hq; cases hq
        obtain ⟨V12, _, m13, b14, hq⟩ := hq
        cases hq
        refine mj_T.eq (pc2 := 61) (st2 := []) ?_ rfl rfl rfl rfl
        refine mj_T.pl rfl rfl rfl rfl ?_
        refine mT_get m13 11 cq_d19 (by decide) rfl rfl ?_
        iterate 2 refine mj_T.pl rfl rfl rfl rfl ?_
        refine mj_T.call rfl rfl (Nat.le_of_ble_eq_true rfl) (Nat.le_of_ble_eq_true rfl) (mV_of m13 13 kp (by decide) rfl (by decide) rfl _) rfl (mj_Ok.up (by omega) (mP_at (D := 0) m13 kp (e := e) (by omega))) (fun v g15 hq => ?_) (fun i g15 hq => ?_)
        rotate_left
        · cases hq
        cases hq
        refine mj_T.eq (pc2 := 71) (st2 := [.ref (p + 4 + 2 * e), .ref 164]) ?_ rfl rfl rfl rfl
        refine mj_T.pl rfl rfl rfl rfl ?_
        refine mT_get m13 11 cq_d19 (by decide) rfl rfl ?_
        refine mj_T.call rfl rfl (Nat.le_of_ble_eq_true rfl) (Nat.le_of_ble_eq_true rfl) (mV_of m13 18 cq_d164 (by decide) rfl (by decide) rfl _) rfl (mj_Ok.up (by omega) (mF_95 (D := 0) m13 b14 fr_d164 (fr_part kp (by omega)) fr_d168)) (fun v g16 hq => ?_) (fun i g16 hq => ?_)
        rotate_left
        · obtain ⟨_, _, _, _, hq⟩ := hq; cases hq
        obtain ⟨V17, _, m18, b19, hq⟩ := hq
        cases hq
        refine mj_T.eq (pc2 := 78) (st2 := []) ?_ rfl rfl rfl rfl
        iterate 2 refine mj_T.pl rfl rfl rfl rfl ?_
        refine mj_T.call rfl rfl (Nat.le_of_ble_eq_true rfl) (Nat.le_of_ble_eq_true rfl) (mV_of m18 13 kp (by decide) rfl (by decide) rfl _) rfl (mj_Ok.up (by omega) (mP_at (D := 0) m18 kp (e := e) (by omega))) (fun v g20 hq => ?_) (fun i g20 hq => ?_)
        rotate_left
        · cases hq
        cases hq
        refine mj_T.eq (pc2 := 84) (st2 := [.ref (p + 4 + 2 * e)]) ?_ rfl rfl rfl rfl
        refine mj_T.pl rfl rfl rfl rfl ?_
        refine mT_get m18 11 cq_d19 (by decide) rfl rfl ?_
        refine mj_T.call rfl rfl (Nat.le_of_ble_eq_true rfl) (Nat.le_of_ble_eq_true rfl) (mV_of m18 18 ((mK_p kp).2.2.2 e (by omega)) (by decide) rfl (by decide) rfl _) rfl (mj_Ok.up (by omega) (mF_87 (D := 0) m18 b19 (fr_part kp (by omega)) fr_d164)) (fun v g21 hq => ?_) (fun i g21 hq => ?_)
        rotate_left
        · obtain ⟨_, _, _, _, hq⟩ := hq; cases hq
        obtain ⟨V22, _, m23, b24, hq⟩ := hq
        cases hq
        refine mj_T.eq (pc2 := 91) (st2 := []) ?_ rfl rfl rfl rfl
        refine mj_T.iinc rfl rfl ?_
        refine mj_T.eq (loc2 := [some (.ref 19), some (.ref p), some (.long (jl y)), none, some (.int (jn (((e : Nat) : Int) + (-1))))]) ?_ rfl rfl rfl rfl
        refine mj_T.pl rfl rfl rfl rfl ?_
        exact mZ_26_loop kp hy k _ (by omega) (by omega) _ _ m23 b24
theorem mZ_26 (m : jM g n V X h) (b : by0 V) {y d : Int} (kp : cK p = 13) (hy : jR y) (hd : X p 2 = d) (hd2 : -1 ≤ d ∧ d < cL (p + 3)) : mj_Ok (D + 3) 26 [.ref 19, .ref p, .long (jl y)] h (fun r => ∃ V2 h2, jM g n V2 X h2 ∧ by0 V2 ∧ r = (.inl none, h2)) := by
  have hbp := (mK_p kp).2.2.1
  refine mj_Ok.of (M := mj_m26) rfl rfl rfl ?_
  refine mj_T.pl rfl rfl rfl rfl ?_
  refine mT_get m 11 cq_d19 (by decide) rfl rfl ?_
  refine jT.lc 1 rfl rfl ?_
  refine mj_T.call rfl rfl (Nat.le_of_ble_eq_true rfl) (Nat.le_of_ble_eq_true rfl) (mV_of m 18 cq_d168 (by decide) rfl (by decide) rfl _) rfl (mj_Ok.up (by omega) (mF_86 (D := 0) m b fr_d168 ⟨by decide, by decide⟩)) (fun v g1 hq => ?_) (fun i g1 hq => ?_)
  rotate_left
  · obtain ⟨_, _, _, _, hq⟩ := hq; cases hq
  obtain ⟨V2, _, m3, b4, hq⟩ := hq
  cases hq
  refine mj_T.eq (pc2 := 8) (st2 := []) ?_ rfl rfl rfl rfl
  refine mj_T.pl rfl rfl rfl rfl ?_
  refine mT_get (v := .int (jn d)) m3 13 kp (by decide) rfl (congrArg (fun z : Int => some (Value.int (jn z))) (hd)) ?_
  refine mj_T.pl rfl rfl rfl rfl ?_
  refine mj_T.isub (a := d) (b := 1) rfl ?_
  refine mj_T.pl (loc' := [some (.ref 19), some (.ref p), some (.long (jl y)), none, some (.int (jn (d - 1)))]) rfl rfl rfl rfl ?_
  exact mZ_26_loop kp hy (d + 1).toNat _ (by omega) (by omega) _ _ m3 b4
theorem mZ_28_loop {a : Nat} (kp : cK p = 13) (fa : frW a) : ∀ (k : Nat) (i : Int), i < k → (-5 ≤ i ∧ i < cL (p + 3)) → ∀ (V1 : Nat → Int) (h1 : mj_H), jM g n V1 X h1 → by0 V1 → mj_T (D + 2) mj_m28 13 [some (.ref 19), some (.ref p), some (.ref a), some (.int (jn i))] [] h1 (fun r => ∃ (V2 : Nat → Int) (z : Int) (h2 : mj_H), jM g n V2 X h2 ∧ by0 V2 ∧ (-2147483648 ≤ z ∧ z ≤ 2147483647) ∧ r = (.inl (some (.int (jn z))), h2))
  | 0, i, hi, hi2, V1, h1, m, b => by
    have hbp := (mK_p kp).2.2.1
    refine mj_T.pl rfl rfl rfl rfl ?_
    refine mj_T.if0 (a := i) rfl ⟨by omega, by omega⟩ (fun c1 => ?_) (fun c1 => ?_)
    · simp only [jc, Bool.not_eq_true', Bool.not_eq_false', decide_eq_true_eq, decide_eq_false_iff_not] at c1
      refine mj_T.pl rfl rfl rfl rfl ?_
      refine mT_get m 11 cq_d19 (by decide) rfl rfl ?_
      refine mZ_sg m cq_d164 rfl (fun z2 rz2 => ?_)
      exact mj_T.ret rfl rfl rfl ⟨V1, _, _, m, b, rz2, rfl⟩
    · exfalso
      simp only [jc, Bool.not_eq_true', Bool.not_eq_false', decide_eq_true_eq, decide_eq_false_iff_not] at c1
      omega
  | k + 1, i, hi, hi2, V1, h1, m, b => by
    have hbp := (mK_p kp).2.2.1
    refine mj_T.pl rfl rfl rfl rfl ?_
    refine mj_T.if0 (a := i) rfl ⟨by omega, by omega⟩ (fun c1 => ?_) (fun c1 => ?_)
    · simp only [jc, Bool.not_eq_true', Bool.not_eq_false', decide_eq_true_eq, decide_eq_false_iff_not] at c1
      refine mj_T.pl rfl rfl rfl rfl ?_
      refine mT_get m 11 cq_d19 (by decide) rfl rfl ?_
      refine mZ_sg m cq_d164 rfl (fun z2 rz2 => ?_)
      exact mj_T.ret rfl rfl rfl ⟨V1, _, _, m, b, rz2, rfl⟩
    · simp only [jc, Bool.not_eq_true', Bool.not_eq_false', decide_eq_true_eq, decide_eq_false_iff_not] at c1
      obtain ⟨e, he⟩ : ∃ e : Nat, i = (e : Int) := ⟨(i : Int).toNat, by omega⟩
      subst he
      refine mj_T.pl rfl rfl rfl rfl ?_
      refine mT_get m 11 cq_d19 (by decide) rfl rfl ?_
      refine mj_T.pl rfl rfl rfl rfl ?_
      refine mT_get m 11 cq_d19 (by decide) rfl rfl ?_
      refine mj_T.pl rfl rfl rfl rfl ?_
      refine mj_T.call rfl rfl (Nat.le_of_ble_eq_true rfl) (Nat.le_of_ble_eq_true rfl) (mV_of m 18 cq_d166 (by decide) rfl (by decide) rfl _) rfl (mj_Ok.up (by omega) (mF_95 (D := 0) m b fr_d166 fr_d164 fa)) (fun v g3 hq => ?_) (fun i g3 hq => ?_)
      rotate_left
      · obtain ⟨_, _, _, _, hq⟩ := hq; cases hq
      obtain ⟨V4, _, m5, b6, hq⟩ := hq
      cases hq
      refine mj_T.eq (pc2 := 29) (st2 := []) ?_ rfl rfl rfl rfl
      refine mj_T.pl rfl rfl rfl rfl ?_
      refine mT_get m5 11 cq_d19 (by decide) rfl rfl ?_
      iterate 2 refine mj_T.pl rfl rfl rfl rfl ?_
      refine mj_T.call rfl rfl (Nat.le_of_ble_eq_true rfl) (Nat.le_of_ble_eq_true rfl) (mV_of m5 13 kp (by decide) rfl (by decide) rfl _) rfl (mj_Ok.up (by omega) (mP_at (D := 0) m5 kp (e := e) (by omega))) (fun v g7 hq => ?_) (fun i g7 hq => ?_)
      rotate_left
      · cases hq
      cases hq
      refine mj_T.eq (pc2 := 38) (st2 := [.ref (p + 4 + 2 * e), .ref 166]) ?_ rfl rfl rfl rfl
      refine mj_T.pl rfl rfl rfl rfl ?_
      refine mj_T.call rfl rfl (Nat.le_of_ble_eq_true rfl) (Nat.le_of_ble_eq_true rfl) (mV_of m5 18 cq_d166 (by decide) rfl (by decide) rfl _) rfl (mj_Ok.up (by omega) (mF_91 (D := 0) m5 b6 fr_d166 (fr_part kp (by omega)) (by omega))) (fun v g8 hq => ?_) (fun i g8 hq => ?_)
      rotate_left
      · obtain ⟨_, _, _, _, hq⟩ := hq; cases hq
      obtain ⟨V9, _, m10, b11, hq⟩ := hq
      cases hq
      refine mj_T.eq (pc2 := 42) (st2 := []) ?_ rfl rfl rfl rfl
      refine mj_T.pl rfl rfl rfl rfl ?_
      refine mT_get m10 11 cq_d19 (by decide) rfl rfl ?_
      refine mj_T.pl rfl rfl rfl rfl ?_
      refine mT_get m10 11 cq_d19 (by decide) rfl rfl ?_
      refine mj_T.call rfl rfl (Nat.le_of_ble_eq_true rfl) (Nat.le_of_ble_eq_true rfl) (mV_of m10 18 cq_d164 (by decide) rfl (by decide) rfl _) rfl (mj_Ok.up (by omega) (mF_87 (D := 0) m10 b11 fr_d164 fr_d166)) (fun v g12 hq => ?_) (fun i g12 hq => ?_)
      rotate_left
      · obtain ⟨_, _, _, _, hq⟩ := hq; cases hq
      obtain ⟨V13, _, m14, b15, hq⟩ := hq
      cases hq
      refine mj_T.eq (pc2 := 53) (st2 := []) ?_ rfl rfl rfl rfl
      refine mj_T.iinc rfl rfl ?_
      refine mj_T.eq (loc2 := [some (.ref 19), some (.ref p), some (.ref a), some (.int (jn (((e : Nat) : Int) + (-1))))]) ?_ rfl rfl rfl rfl
      refine mj_T.pl rfl rfl rfl rfl ?_
      exact mZ_28_loop kp fa k _ (by omega) (by omega) _ _ m14 b15
theorem mZ_28 (m : jM g n V X h) (b : by0 V) {a : Nat} {d : Int} (kp : cK p = 13) (fa : frW a) (hd : X p 2 = d) (hd2 : -1 ≤ d ∧ d < cL (p + 3)) : mj_Ok (D + 4) 28 [.ref 19, .ref p, .ref a] h (fun r => ∃ (V2 : Nat → Int) (z : Int) (h2 : mj_H), jM g n V2 X h2 ∧ by0 V2 ∧ (-2147483648 ≤ z ∧ z ≤ 2147483647) ∧ r = (.inl (some (.int (jn z))), h2)) := by
  have hbp := (mK_p kp).2.2.1
  refine mj_Ok.of (M := mj_m28) rfl rfl rfl ?_
  refine mj_T.pl rfl rfl rfl rfl ?_
  refine mT_get m 11 cq_d19 (by decide) rfl rfl ?_
  refine jT.lc 0 rfl rfl ?_
  refine mj_T.call rfl rfl (Nat.le_of_ble_eq_true rfl) (Nat.le_of_ble_eq_true rfl) (mV_of m 18 cq_d164 (by decide) rfl (by decide) rfl _) rfl (mj_Ok.up (by omega) (mF_86 (D := 0) m b fr_d164 jR_0)) (fun v g1 hq => ?_) (fun i g1 hq => ?_)
  rotate_left
  · obtain ⟨_, _, _, _, hq⟩ := hq; cases hq
  obtain ⟨V2, _, m3, b4, hq⟩ := hq
  cases hq
  refine mj_T.eq (pc2 := 8) (st2 := []) ?_ rfl rfl rfl rfl
  refine mj_T.pl rfl rfl rfl rfl ?_
  refine mT_get (v := .int (jn d)) m3 13 kp (by decide) rfl (congrArg (fun z : Int => some (Value.int (jn z))) (hd)) ?_
  refine mj_T.pl (loc' := [some (.ref 19), some (.ref p), some (.ref a), some (.int (jn d))]) rfl rfl rfl rfl ?_
  exact mZ_28_loop kp fa (d + 1).toNat _ (by omega) (by omega) _ _ m3 b4
end MLG
