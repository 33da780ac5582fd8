/-! The desk of the class, exactly: shorten. -/
def shg (f : Nat → Int) (s0 : Nat) : Nat → Nat
  | 0 => s0
  | k + 1 => Nat.gcd (f k).natAbs (shg f s0 k)
theorem shg_le (f : Nat → Int) {s0 : Nat} (h : 1 ≤ s0) : ∀ k, 1 ≤ shg f s0 k ∧ shg f s0 k ≤ s0
  | 0 => ⟨h, Nat.le_refl _⟩
  | k + 1 => by
    obtain ⟨a, b⟩ := shg_le f h k
    have h1 : Nat.gcd (f k).natAbs (shg f s0 k) ∣ shg f s0 k := Nat.gcd_dvd_right _ _
    have h2 := Nat.le_of_dvd (by omega) h1
    exact ⟨Nat.pos_of_dvd_of_pos h1 (by omega), Nat.le_trans h2 b⟩
theorem shg_dvd (f : Nat → Int) (s0 : Nat) : ∀ k, shg f s0 k ∣ s0 ∧ ∀ i, i < k → shg f s0 k ∣ (f i).natAbs
  | 0 => ⟨Nat.dvd_refl _, fun i hi => absurd hi (by omega)⟩
  | k + 1 => by
    obtain ⟨a, b⟩ := shg_dvd f s0 k
    have h1 : shg f s0 (k + 1) ∣ shg f s0 k := Nat.gcd_dvd_right _ _
    refine ⟨Nat.dvd_trans h1 a, fun i hi => ?_⟩
    by_cases c : i = k
    · rw [c]
      exact Nat.gcd_dvd_left _ _
    · exact Nat.dvd_trans h1 (b i (by omega))
theorem shg_max (f : Nat → Int) (s0 d : Nat) (h0 : d ∣ s0) : ∀ k, (∀ i, i < k → d ∣ (f i).natAbs) → d ∣ shg f s0 k
  | 0, _ => h0
  | k + 1, h => Nat.dvd_gcd (h k (by omega)) (shg_max f s0 d h0 k (fun i hi => h i (by omega)))
section MSH
variable {g h : mj_H} {n D : Nat} {V : Nat → Int} {X : Nat → Nat → Int}
theorem mD_sh_loop {d s0 : Nat} (hX : X 20 2 = (d : Int) - 1) (hd : d ≤ 13) (hs : 1 ≤ s0) (hs2 : s0 ≤ 9223372036854775807) (hl29 : ∀ e, e < 13 → jnl (V (20 + 4 + 2 * e)).natAbs ≤ 29) {Q : mj_R → Prop} (hend : ∀ (V1 : Nat → Int) (h1 : mj_H), jM g n V1 X h1 → (∀ x, x ≠ 164 → x ≠ 166 → x ≠ 168 → x ≠ 170 → V1 x = V x) → mj_T (D + 3) mj_m22 38 [some (.ref 19), some (.long (jl (s0 : Int))), none, some (.long (jl ((shg (pco V 20) s0 d : Nat) : Int))), none, some (.int (jn ((d : Nat) : Int)))] [] h1 Q) : ∀ k i, i + k = d → ∀ (V1 : Nat → Int) (h1 : mj_H), jM g n V1 X h1 → (∀ x, x ≠ 164 → x ≠ 166 → x ≠ 168 → x ≠ 170 → V1 x = V x) → mj_T (D + 3) mj_m22 5 [some (.ref 19), some (.long (jl (s0 : Int))), none, some (.long (jl ((shg (pco V 20) s0 i : Nat) : Int))), none, some (.int (jn ((i : Nat) : Int)))] [] h1 Q
  | 0, i, hi, V1, h1, m, e1 => by
    iterate 2 refine mj_T.pl rfl rfl rfl rfl ?_
    refine mT_get m 11 cq_d19 (by decide) rfl rfl ?_
    refine mT_get (v := .int (jn ((d : Int) - 1))) m 13 cq_d20 (by decide) rfl (congrArg (fun z : Int => some (Value.int (jn z))) (hX)) ?_
    refine mj_T.icmp (a := ((i : Nat) : Int)) (b := ((d : Int) - 1)) rfl ⟨by omega, by omega⟩ ⟨by omega, by omega⟩ (fun c1 => ?_) (fun c1 => ?_)
    · simp only [jc, Bool.not_eq_true', Bool.not_eq_false', decide_eq_true_eq, decide_eq_false_iff_not] at c1
      have hi2 : i = d := by omega
      subst hi2
      exact hend V1 _ m e1
    · exfalso
      simp only [jc, Bool.not_eq_true', Bool.not_eq_false', decide_eq_true_eq, decide_eq_false_iff_not] at c1
      omega
  | k + 1, i, hi, V1, h1, m, e1 => by
    have p20 : cL (20 + 3) = 13 := mK_z.1
    iterate 2 refine mj_T.pl rfl rfl rfl rfl ?_
    refine mT_get m 11 cq_d19 (by decide) rfl rfl ?_
    refine mT_get (v := .int (jn ((d : Int) - 1))) m 13 cq_d20 (by decide) rfl (congrArg (fun z : Int => some (Value.int (jn z))) (hX)) ?_
    refine mj_T.icmp (a := ((i : Nat) : Int)) (b := ((d : Int) - 1)) rfl ⟨by omega, by omega⟩ ⟨by omega, by omega⟩ (fun c1 => ?_) (fun c1 => ?_)
    · exfalso
      simp only [jc, Bool.not_eq_true', Bool.not_eq_false', decide_eq_true_eq, decide_eq_false_iff_not] at c1
      omega
    · simp only [jc, Bool.not_eq_true', Bool.not_eq_false', decide_eq_true_eq, decide_eq_false_iff_not] at c1
      iterate 2 refine mj_T.pl rfl rfl rfl rfl ?_
      refine mT_get m 11 cq_d19 (by decide) rfl rfl ?_
      refine mj_T.pl rfl rfl rfl rfl ?_
      refine mj_T.call rfl rfl (Nat.le_of_ble_eq_true rfl) (Nat.le_of_ble_eq_true rfl) (mV_of m 13 cq_d20 (by decide) rfl (by decide) rfl _) rfl (mj_Ok.up (by omega) (mP_at (D := 0) m cq_d20 (e := i) (by omega))) (fun v g2 hq => ?_) (fun i g2 hq => ?_)
      rotate_left
      · cases hq
      cases hq
      refine mj_T.eq (pc2 := 27) (st2 := [.ref (20 + 4 + 2 * i), .ref 19]) ?_ rfl rfl rfl rfl
      refine mj_T.pl rfl rfl rfl rfl ?_
      have ei : V1 (20 + 4 + 2 * i) = pco V 20 i := e1 _ (by omega) (by omega) (by omega) (by omega)
      have hcap : jnl (V1 (20 + 4 + 2 * i)).natAbs ≤ 30 := by
        have q := hl29 i (by omega)
        rw [ei]
        show jnl (V (20 + 4 + 2 * i)).natAbs ≤ 30
        omega
      have hsh := shg_le (pco V 20) hs i
      refine mj_T.call rfl rfl (Nat.le_of_ble_eq_true rfl) (Nat.le_of_ble_eq_true rfl) (mV_of m 11 cq_d19 (by decide) rfl (by decide) rfl _) rfl (mj_Ok.up (by omega) (mD_common (D := 0) (f := ((shg (pco V 20) s0 i : Nat) : Int)) m ((mK_p cq_d20).2.2.2 i (by omega)) (by omega) (by rw [Int.natAbs_natCast]; omega) (by omega) (by omega))) (fun v g3 hq => ?_) (fun i g3 hq => ?_)
      rotate_left
      · obtain ⟨_, _, _, _, hq⟩ := hq; cases hq
      obtain ⟨V3, _, m4, f1, hq⟩ := hq
      cases hq
      rw [ei, Int.natAbs_natCast]
      refine mj_T.eq (pc2 := 31) (st2 := [.long (jl ((Nat.gcd (pco V 20 i).natAbs (shg (pco V 20) s0 i) : Nat) : Int))]) ?_ rfl rfl rfl rfl
      refine mj_T.pl (loc' := [some (.ref 19), some (.long (jl (s0 : Int))), none, some (.long (jl ((Nat.gcd (pco V 20 i).natAbs (shg (pco V 20) s0 i) : Nat) : Int))), none, some (.int (jn ((i : Nat) : Int)))]) rfl rfl rfl rfl ?_
      refine mj_T.iinc rfl rfl ?_
      rw [show ((i : Nat) : Int) + 1 = ((i + 1 : Nat) : Int) by omega]
      refine mj_T.eq (loc2 := [some (.ref 19), some (.long (jl (s0 : Int))), none, some (.long (jl ((Nat.gcd (pco V 20 i).natAbs (shg (pco V 20) s0 i) : Nat) : Int))), none, some (.int (jn (((i + 1) : Nat) : Int)))]) ?_ rfl rfl rfl rfl
      refine mj_T.pl rfl rfl rfl rfl ?_
      exact mD_sh_loop hX hd hs hs2 hl29 hend k (i + 1) (by omega) V3 _ m4 (fun x x1 x2 x3 x4 => (f1 x x1 x2 x3 x4 x1).trans (e1 x x1 x2 x3 x4))
theorem mD_shorten (m : jM g n V X h) {d s0 : Nat} (hX : X 20 2 = (d : Int) - 1) (hd : d ≤ 13) (hs : 1 ≤ s0) (hs2 : s0 ≤ 9223372036854775807) (hz : ∀ e, d ≤ e → e < 13 → V (20 + 4 + 2 * e) = 0) (hl : ∀ e, e < 13 → jnl (V (20 + 4 + 2 * e)).natAbs ≤ 29) : mj_Ok (D + 4) 22 [.ref 19, .long (jl (s0 : Int))] h (fun r => ∃ V2 h2, jM g n V2 X h2 ∧ (∀ e, e < 13 → V2 (20 + 4 + 2 * e) = (V (20 + 4 + 2 * e)).tdiv ((shg (pco V 20) s0 d : Nat) : Int)) ∧ (∀ x, x ≠ 164 → x ≠ 166 → x ≠ 168 → x ≠ 170 → (x < 20 + 4 ∨ 20 + 4 + 2 * 13 ≤ x) → V2 x = V x) ∧ r = (.inl (some (.long (jl ((shg (pco V 20) s0 d : Nat) : Int)))), h2)) := by
  have p20 : cL (20 + 3) = 13 := mK_z.1
  have c3 : cL (168 + 1) = 40 := mK_z.2.2.2.2.2.2.2.2.2.1
  have hsh := shg_le (pco V 20) hs d
  have hj3 : jnl (((shg (pco V 20) s0 d : Nat) : Int)).natAbs ≤ 3 := jnl_R (by rw [Int.natAbs_natCast]; omega)
  have hj60 : jnl (((shg (pco V 20) s0 d : Nat) : Int)).natAbs ≤ 60 := by omega
  refine mj_Ok.of (M := mj_m22) rfl rfl rfl ?_
  refine mj_T.pl rfl rfl rfl rfl ?_
  refine mj_T.pl (loc' := [some (.ref 19), some (.long (jl (s0 : Int))), none, some (.long (jl (s0 : Int))), none, none]) rfl rfl rfl rfl ?_
  refine mj_T.pl rfl rfl rfl rfl ?_
  refine mj_T.pl (loc' := [some (.ref 19), some (.long (jl (s0 : Int))), none, some (.long (jl (s0 : Int))), none, some (.int (jn 0))]) rfl rfl rfl rfl ?_
  refine mD_sh_loop (D := D) (s0 := s0) hX hd hs hs2 hl (fun V1 h1 m1 e1 => ?_) d 0 (by omega) V _ m (fun _ _ _ _ _ => rfl)
  refine mj_T.pl rfl rfl rfl rfl ?_
  refine mT_get m1 11 cq_d19 (by decide) rfl rfl ?_
  refine mj_T.pl rfl rfl rfl rfl ?_
  refine mj_T.call rfl rfl (Nat.le_of_ble_eq_true rfl) (Nat.le_of_ble_eq_true rfl) (mV_of m1 18 cq_d168 (by decide) rfl (by decide) rfl _) rfl (mj_Ok.up (by omega) (mW_setLong (D := 0) (v := ((shg (pco V 20) s0 d : Nat) : Int)) m1 cq_d168 ⟨by omega, by omega⟩ (by omega))) (fun v g51 hq => ?_) (fun i g51 hq => ?_)
  rotate_left
  · obtain ⟨_, _, hq⟩ := hq; cases hq
  obtain ⟨_, m52, hq⟩ := hq
  cases hq
  have m52 := m52.to (V' := (jvu V1 168 ((shg (pco V 20) s0 d : Nat) : Int))) (by rfl) rfl
  refine mj_T.eq (pc2 := 46) (st2 := []) ?_ rfl rfl rfl rfl
  iterate 2 refine mj_T.pl rfl rfl rfl rfl ?_
  refine mT_get m52 11 cq_d19 (by decide) rfl rfl ?_
  refine mj_T.pl rfl rfl rfl rfl ?_
  refine mT_get m52 11 cq_d19 (by decide) rfl rfl ?_
  refine mj_T.pl rfl rfl rfl rfl ?_
  have hV : ∀ e, e < 13 → (jvu V1 168 ((shg (pco V 20) s0 d : Nat) : Int)) (20 + 4 + 2 * e) = V (20 + 4 + 2 * e) := fun e he => (jvu_ne _ _ _ (by omega)).trans (e1 _ (by omega) (by omega) (by omega) (by omega))
  refine mj_T.call rfl rfl (Nat.le_of_ble_eq_true rfl) (Nat.le_of_ble_eq_true rfl) (mV_of m52 11 cq_d19 (by decide) rfl (by decide) rfl _) rfl (mj_Ok.up (by omega) (mD_divParts (D := 0) (t := 1) (dp := d) m52 cq_d20 cq_d168 (by decide) (by rw [p20]; exact hd) hX (fun e x1 x2 => by rw [p20] at x2; rw [hV e x2]; exact hz e x1 x2) (fun e he => by rw [p20] at he; rw [hV e he, (mK_z.2.2.2.2.1 e he).1]; exact ⟨by have := hl e he; omega, by have := hl e he; omega⟩) (by rw [jvu_at]; exact hj60))) (fun v g53 hq => ?_) (fun i g53 hq => ?_)
  rotate_left
  · obtain ⟨_, _, _, _, hq⟩ := hq; cases hq
  obtain ⟨V5, _, m54, I5, hq⟩ := hq
  cases hq
  rw [p20, jvu_at] at I5
  refine mj_T.eq (pc2 := 59) (st2 := []) ?_ rfl rfl rfl rfl
  refine mj_T.pl rfl rfl rfl rfl ?_
  refine mj_T.ret rfl rfl rfl ⟨V5, _, m54, fun e he => ?_, fun x x1 x2 x3 x4 x5 => ?_, rfl⟩
  · rw [I5.1 e he, if_pos he, hV e he]
    rfl
  · rw [I5.2.2 x x1 x4 x5, jvu_ne _ _ _ x3]
    exact e1 x x1 x2 x3 x4
end MSH
