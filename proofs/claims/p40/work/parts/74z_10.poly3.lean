/-! The polynomials of the class, exactly: load, store. -/
def xfl (X : Nat → Nat → Int) (r : Nat) (w : Nat → Int) (k : Nat) : Nat → Nat → Int := fun a j => if a = r ∧ j < k then w j else X a j
theorem xfl_zero (X : Nat → Nat → Int) (r : Nat) (w : Nat → Int) : xfl X r w 0 = X := funext fun a => funext fun j => if_neg (by omega)
theorem xfl_succ (X : Nat → Nat → Int) (r : Nat) (w : Nat → Int) (k : Nat) : xfl X r w (k + 1) = xup (xfl X r w k) r k (w k) := funext fun a => funext fun j => by
  simp only [xfl, xup]
  by_cases c : a = r ∧ j = k
  · rw [if_pos (by omega), if_pos c, c.2]
  · rw [if_neg c]
    by_cases d : a = r ∧ j < k
    · rw [if_pos d, if_pos (by omega)]
    · rw [if_neg d, if_neg (by omega)]
theorem xfl_at (X : Nat → Nat → Int) (r : Nat) (w : Nat → Int) {k j : Nat} (h : j < k) : xfl X r w k r j = w j := if_pos ⟨rfl, h⟩
theorem xfl_off (X : Nat → Nat → Int) (r : Nat) (w : Nat → Int) {k a : Nat} (h : a ≠ r) : xfl X r w k a = X a := funext fun j => if_neg (fun q => h q.1)
theorem jnl_two {v : Int} : jnl v.natAbs ≤ 2 ↔ v.natAbs ≤ 999999999999999999 := by
  rw [jnl_le_lt, show jB ^ 2 = 1000000000000000000 from rfl]
  omega
section MTL
variable {h : mj_H} {D pc r1 r2 r3 r4 r5 : Nat} {M : mj_M} {loc : mj_L} {st : List Value} {Q : mj_R → Prop}
theorem mT_ldiv {a b : Int} (hc : M.2.2.2.2.1 pc = some (.ldiv, r1, r2, r3, r4, r5)) (ha : jR a) (h1 : a ≠ -9223372036854775808) (hb : jR b) (h0 : b ≠ 0) (k : mj_T D M (pc + 1) loc (.long (jl (a.tdiv b)) :: st) h Q) : mj_T D M pc loc (.long (jl b) :: .long (jl a) :: st) h Q := mj_T.step hc rfl (by
  simp only [mj_step, jl_divn ha h1 hb]
  rw [if_neg (jl_ne0' hb h0)]) k
end MTL
section MPR
variable {g h : mj_H} {n D p r : Nat} {V : Nat → Int} {X : Nat → Nat → Int}
theorem mP_load_loop {d : Int} (kp : cK p = 13) (kr : cK r = 2) (hm : cL (p + 3) = 13) (hd : jR d) (hX : ∀ i, i < 13 → (X r i).natAbs ≤ 999999999999999999) (hcap : ∀ i, i < 13 → 2 ≤ cL (p + 4 + 2 * i + 1)) {Q : mj_R → Prop} (hend : ∀ h, jM g n (pfl V p (fun e => (X r e).tdiv d) 13) X h → mj_T (D + 1) mj_m40 52 [some (.ref p), some (.ref r), some (.long (jl d)), none, some (.int (jn ((13 : Nat) : Int)))] [] h Q) : ∀ k i, i + k = 13 → ∀ h, jM g n (pfl V p (fun e => (X r e).tdiv d) i) X h → mj_T (D + 1) mj_m40 3 [some (.ref p), some (.ref r), some (.long (jl d)), none, some (.int (jn (i : Int)))] [] h Q
  | 0, i, hi, h, m => by
    have hb := (mK_p kp).2.2.1
    iterate 2 refine mj_T.pl rfl rfl rfl rfl ?_
    refine mT_get m 13 kp (by decide) rfl rfl ?_
    refine mT_alen m 4 (mK_p kp).2.1 (by decide) rfl ?_
    refine mj_T.icmp (a := ((i : Nat) : Int)) (b := ((cL (p + 3) : Nat) : Int)) rfl ⟨by omega, by omega⟩ ⟨by omega, by omega⟩ (fun c1 => ?_) (fun c1 => ?_)
    · simp only [jc, Bool.not_eq_true', Bool.not_eq_false', decide_eq_true_eq, decide_eq_false_iff_not] at c1
      rw [show i = 13 by omega] at m ⊢
      exact hend _ m
    · exfalso
      simp only [jc, Bool.not_eq_true', Bool.not_eq_false', decide_eq_true_eq, decide_eq_false_iff_not] at c1
      omega
  | k + 1, i, hi, h, m => by
    have hb := (mK_p kp).2.2.1
    have hx := hX i (by omega)
    have hxr : jR (X r i) := ⟨by omega, by omega⟩
    have hxn : X r i ≠ -9223372036854775808 := by omega
    have hq := Int.natAbs_tdiv_le_natAbs (X r i) d
    have hj : jR ((X r i).tdiv d) := ⟨by omega, by omega⟩
    have hjn : jnl ((X r i).tdiv d).natAbs ≤ cL (p + 4 + 2 * i + 1) := Nat.le_trans (jnl_two.mpr (by omega)) (hcap i (by omega))
    iterate 2 refine mj_T.pl rfl rfl rfl rfl ?_
    refine mT_get m 13 kp (by decide) rfl rfl ?_
    refine mT_alen m 4 (mK_p kp).2.1 (by decide) rfl ?_
    refine mj_T.icmp (a := ((i : Nat) : Int)) (b := ((cL (p + 3) : Nat) : Int)) rfl ⟨by omega, by omega⟩ ⟨by omega, by omega⟩ (fun c1 => ?_) (fun c1 => ?_)
    · exfalso
      simp only [jc, Bool.not_eq_true', Bool.not_eq_false', decide_eq_true_eq, decide_eq_false_iff_not] at c1
      omega
    · simp only [jc, Bool.not_eq_true', Bool.not_eq_false', decide_eq_true_eq, decide_eq_false_iff_not] at c1
      refine mj_T.pl rfl rfl rfl rfl ?_
      refine mT_get m 13 kp (by decide) rfl rfl ?_
      refine mj_T.pl rfl rfl rfl rfl ?_
      refine mT_aald m 4 (mK_p kp).2.1 (by decide) rfl rfl (by omega) ⟨by omega, by omega⟩ ?_
      refine mj_T.eq (st2 := [.ref (p + 4 + 2 * i)]) ?_ rfl rfl rfl rfl
      iterate 2 refine mj_T.pl rfl rfl rfl rfl ?_
      refine mT_llen m kr rfl ?_
      refine mj_T.icmp (a := ((i : Nat) : Int)) (b := ((13 : Nat) : Int)) rfl ⟨by omega, by omega⟩ ⟨by omega, by omega⟩ (fun c2 => ?_) (fun c2 => ?_)
      · exfalso
        simp only [jc, Bool.not_eq_true', Bool.not_eq_false', decide_eq_true_eq, decide_eq_false_iff_not] at c2
        omega
      · simp only [jc, Bool.not_eq_true', Bool.not_eq_false', decide_eq_true_eq, decide_eq_false_iff_not] at c2
        refine mj_T.pl rfl rfl rfl rfl ?_
        refine jT.lc 0 rfl rfl ?_
        refine mj_T.lif (a := d) (b := ((0 : Nat) : Int)) rfl rfl hd jR_0 (fun c3 => ?_) (fun c3 => ?_)
        · simp only [jc, Bool.not_eq_true', Bool.not_eq_false', decide_eq_true_eq, decide_eq_false_iff_not] at c3
          refine jT.lc 0 rfl rfl ?_
          refine mj_T.call rfl rfl (Nat.le_of_ble_eq_true rfl) (Nat.le_of_ble_eq_true rfl) (mV_of m 18 ((mK_p kp).2.2.2 _ (by omega)) (by decide) rfl (by decide) rfl _) rfl (mj_Ok.up (by omega) (mW_setLong (D := 0) (v := ((0 : Nat) : Int)) m ((mK_p kp).2.2.2 _ (by omega)) jR_0 (by rw [jnl_0]; omega))) (fun v g4 hq => ?_) (fun i g4 hq => ?_)
          rotate_left
          · obtain ⟨_, _, hq⟩ := hq; cases hq
          obtain ⟨_, m5, hq⟩ := hq
          cases hq
          refine mj_T.eq (pc2 := 46) (st2 := []) ?_ rfl rfl rfl rfl
          refine mj_T.iinc rfl rfl ?_
          rw [show ((i : Nat) : Int) + 1 = ((i + 1 : Nat) : Int) by omega]
          refine mj_T.eq (loc2 := [some (.ref p), some (.ref r), some (.long (jl d)), none, some (.int (jn (((i + 1) : Nat) : Int)))]) ?_ rfl rfl rfl rfl
          refine mj_T.pl rfl rfl rfl rfl ?_
          refine mP_load_loop kp kr hm hd hX hcap hend k (i + 1) (by omega) _ (m5.to ?_ rfl)
          rw [pfl_succ]
          congr 1
          rw [show d = 0 by omega, Int.tdiv_zero]
          rfl
        · simp only [jc, Bool.not_eq_true', Bool.not_eq_false', decide_eq_true_eq, decide_eq_false_iff_not] at c3
          iterate 2 refine mj_T.pl rfl rfl rfl rfl ?_
          refine mT_lald m kr rfl ⟨by omega, by omega⟩ ?_
          refine mj_T.eq (st2 := [.long (jl (X r i)), .ref (p + 4 + 2 * i)]) ?_ rfl rfl rfl rfl
          refine mj_T.pl rfl rfl rfl rfl ?_
          refine mT_ldiv rfl hxr hxn hd (by omega) ?_
          refine mj_T.pl rfl rfl rfl rfl ?_
          refine mj_T.call rfl rfl (Nat.le_of_ble_eq_true rfl) (Nat.le_of_ble_eq_true rfl) (mV_of m 18 ((mK_p kp).2.2.2 _ (by omega)) (by decide) rfl (by decide) rfl _) rfl (mj_Ok.up (by omega) (mW_setLong (D := 0) (v := ((X r i).tdiv d)) m ((mK_p kp).2.2.2 _ (by omega)) hj hjn)) (fun v g6 hq => ?_) (fun i g6 hq => ?_)
          rotate_left
          · obtain ⟨_, _, hq⟩ := hq; cases hq
          obtain ⟨_, m7, hq⟩ := hq
          cases hq
          refine mj_T.eq (pc2 := 46) (st2 := []) ?_ rfl rfl rfl rfl
          refine mj_T.iinc rfl rfl ?_
          rw [show ((i : Nat) : Int) + 1 = ((i + 1 : Nat) : Int) by omega]
          refine mj_T.eq (loc2 := [some (.ref p), some (.ref r), some (.long (jl d)), none, some (.int (jn (((i + 1) : Nat) : Int)))]) ?_ rfl rfl rfl rfl
          refine mj_T.pl rfl rfl rfl rfl ?_
          refine mP_load_loop kp kr hm hd hX hcap hend k (i + 1) (by omega) _ (m7.to ?_ rfl)
          rw [pfl_succ]
theorem mP_load (m : jM g n V X h) {d : Int} (kp : cK p = 13) (kr : cK r = 2) (hm : cL (p + 3) = 13) (hd : jR d) (hX : ∀ i, i < 13 → (X r i).natAbs ≤ 999999999999999999) (hcap : ∀ i, i < 13 → 2 ≤ cL (p + 4 + 2 * i + 1)) : mj_Ok (D + 2) 40 [.ref p, .ref r, .long (jl d)] h (fun z => ∃ h2, jM g n (pfl V p (fun e => (X r e).tdiv d) 13) (xup X p 2 ((fdg (fun e => (X r e).tdiv d) 13 : Int) - 1)) h2 ∧ z = (.inl none, h2)) := by
  refine mj_Ok.of (M := mj_m40) rfl rfl rfl ?_
  refine mj_T.pl rfl rfl rfl rfl ?_
  refine mj_T.pl (loc' := [some (.ref p), some (.ref r), some (.long (jl d)), none, some (.int (jn 0))]) rfl rfl rfl rfl ?_
  refine mP_load_loop kp kr hm hd hX hcap (fun h1 m1 => ?_) 13 0 (by omega) _ (m.to (pfl_zero _ _ _) rfl)
  refine mj_T.pl rfl rfl rfl rfl ?_
  refine mj_T.call rfl rfl (Nat.le_of_ble_eq_true rfl) (Nat.le_of_ble_eq_true rfl) (mV_of m1 13 kp (by decide) rfl (by decide) rfl _) rfl (mj_Ok.up (by omega) (mP_settle (D := 0) m1 kp (pcl_pfl (by omega) (fun i hi => Nat.le_trans (jnl_two.mpr (by have q1 := hX i hi; have q2 := Int.natAbs_tdiv_le_natAbs (X r i) d; omega)) (by decide))))) (fun v g61 hq => ?_) (fun i g61 hq => ?_)
  rotate_left
  · obtain ⟨_, _, hq⟩ := hq; cases hq
  obtain ⟨_, m62, hq⟩ := hq
  cases hq
  refine mj_T.eq (pc2 := 56) (st2 := []) ?_ rfl rfl rfl rfl
  exact mj_T.ret rfl rfl rfl ⟨_, m62.to rfl (by rw [hm, fdg_congr _ (fun i hi => pco_pfl i hi)]), rfl⟩
/-- a register may take it -/
def pok (V : Nat → Int) (p c : Nat) : Prop := ∀ i, i < c → jnl (V (p + 4 + 2 * i)).natAbs ≤ if i ≤ 12 then 2 else 0
theorem mP_store1 (kp : cK p = 13) (hcl : pcl V p) (m : jM g n V X h) {Q : mj_R → Prop} (hbad : ¬ pok V p (cL (p + 3)) → Q (.inl (some (.int (jn 0))), h)) (hok : pok V p (cL (p + 3)) → mj_T D mj_m44 42 [some (.ref p), some (.ref r), some (.int (jn (cL (p + 3) : Int)))] [] h Q) : ∀ k i, i + k = cL (p + 3) → pok V p i → mj_T D mj_m44 2 [some (.ref p), some (.ref r), some (.int (jn (i : Int)))] [] h Q
  | 0, i, hi, hp => by
    have hb := (mK_p kp).2.2.1
    iterate 2 refine mj_T.pl rfl rfl rfl rfl ?_
    refine mT_get m 13 kp (by decide) rfl rfl ?_
    refine mT_alen m 4 (mK_p kp).2.1 (by decide) rfl ?_
    refine mj_T.icmp (a := ((i : Nat) : Int)) (b := ((cL (p + 3) : Nat) : Int)) rfl ⟨by omega, by omega⟩ ⟨by omega, by omega⟩ (fun c1 => ?_) (fun c1 => ?_)
    · simp only [jc, Bool.not_eq_true', Bool.not_eq_false', decide_eq_true_eq, decide_eq_false_iff_not] at c1
      rw [show i = cL (p + 3) by omega] at hp ⊢
      exact hok hp
    · exfalso
      simp only [jc, Bool.not_eq_true', Bool.not_eq_false', decide_eq_true_eq, decide_eq_false_iff_not] at c1
      omega
  | k + 1, i, hi, hp => by
    have hb := (mK_p kp).2.2.1
    have hci := hcl i (by omega)
    obtain ⟨q0, _, _, _, hs⟩ := m.W ((mK_p kp).2.2.2 i (by omega))
    have hs2 := (mK_w (Or.inl ((mK_p kp).2.2.2 i (by omega)))).2.1
    have hjr : jr ((jnl (V (p + 4 + 2 * i)).natAbs : Nat) : Int) := ⟨by omega, by omega⟩
    iterate 2 refine mj_T.pl rfl rfl rfl rfl ?_
    refine mT_get m 13 kp (by decide) rfl rfl ?_
    refine mT_alen m 4 (mK_p kp).2.1 (by decide) rfl ?_
    refine mj_T.icmp (a := ((i : Nat) : Int)) (b := ((cL (p + 3) : Nat) : Int)) rfl ⟨by omega, by omega⟩ ⟨by omega, by omega⟩ (fun c1 => ?_) (fun c1 => ?_)
    · exfalso
      simp only [jc, Bool.not_eq_true', Bool.not_eq_false', decide_eq_true_eq, decide_eq_false_iff_not] at c1
      omega
    · simp only [jc, Bool.not_eq_true', Bool.not_eq_false', decide_eq_true_eq, decide_eq_false_iff_not] at c1
      refine mj_T.pl rfl rfl rfl rfl ?_
      refine mT_get m 13 kp (by decide) rfl rfl ?_
      refine mj_T.pl rfl rfl rfl rfl ?_
      refine mT_aald m 4 (mK_p kp).2.1 (by decide) rfl rfl (by omega) ⟨by omega, by omega⟩ ?_
      refine mj_T.eq (st2 := [.ref (p + 4 + 2 * i)]) ?_ rfl rfl rfl rfl
      refine mT_sz m ((mK_p kp).2.2.2 _ (by omega)) rfl ?_
      iterate 2 refine mj_T.pl rfl rfl rfl rfl ?_
      refine mj_T.icmp (a := ((i : Nat) : Int)) (b := 12) rfl ⟨by omega, by omega⟩ ⟨by omega, by omega⟩ (fun c2 => ?_) (fun c2 => ?_)
      · simp only [jc, Bool.not_eq_true', Bool.not_eq_false', decide_eq_true_eq, decide_eq_false_iff_not] at c2
        refine mj_T.pl rfl rfl rfl rfl ?_
        refine mj_T.icmp (a := ((jnl (V (p + 4 + 2 * i)).natAbs : Nat) : Int)) (b := 0) rfl hjr ⟨by omega, by omega⟩ (fun c3 => ?_) (fun c3 => ?_)
        · simp only [jc, Bool.not_eq_true', Bool.not_eq_false', decide_eq_true_eq, decide_eq_false_iff_not] at c3
          refine mj_T.iinc rfl rfl ?_
          rw [show ((i : Nat) : Int) + 1 = ((i + 1 : Nat) : Int) by omega]
          refine mj_T.eq (loc2 := [some (.ref p), some (.ref r), some (.int (jn (((i + 1) : Nat) : Int)))]) ?_ rfl rfl rfl rfl
          refine mj_T.pl rfl rfl rfl rfl ?_
          refine mP_store1 kp hcl m hbad hok k (i + 1) (by omega) (fun x hx => ?_)
          by_cases e : x = i
          · subst e
            split <;> omega
          · exact hp x (by omega)
        · simp only [jc, Bool.not_eq_true', Bool.not_eq_false', decide_eq_true_eq, decide_eq_false_iff_not] at c3
          refine mj_T.pl rfl rfl rfl rfl ?_
          refine mj_T.ret rfl rfl rfl (hbad (fun q => ?_))
          have q := q i (by omega)
          split at q <;> omega
      · simp only [jc, Bool.not_eq_true', Bool.not_eq_false', decide_eq_true_eq, decide_eq_false_iff_not] at c2
        iterate 2 refine mj_T.pl rfl rfl rfl rfl ?_
        refine mj_T.icmp (a := ((jnl (V (p + 4 + 2 * i)).natAbs : Nat) : Int)) (b := 2) rfl hjr ⟨by omega, by omega⟩ (fun c4 => ?_) (fun c4 => ?_)
        · simp only [jc, Bool.not_eq_true', Bool.not_eq_false', decide_eq_true_eq, decide_eq_false_iff_not] at c4
          refine mj_T.iinc rfl rfl ?_
          rw [show ((i : Nat) : Int) + 1 = ((i + 1 : Nat) : Int) by omega]
          refine mj_T.eq (loc2 := [some (.ref p), some (.ref r), some (.int (jn (((i + 1) : Nat) : Int)))]) ?_ rfl rfl rfl rfl
          refine mj_T.pl rfl rfl rfl rfl ?_
          refine mP_store1 kp hcl m hbad hok k (i + 1) (by omega) (fun x hx => ?_)
          by_cases e : x = i
          · subst e
            split <;> omega
          · exact hp x (by omega)
        · simp only [jc, Bool.not_eq_true', Bool.not_eq_false', decide_eq_true_eq, decide_eq_false_iff_not] at c4
          refine mj_T.pl rfl rfl rfl rfl ?_
          refine mj_T.ret rfl rfl rfl (hbad (fun q => ?_))
          have q := q i (by omega)
          split at q <;> omega
theorem mP_store2 (kp : cK p = 13) (hcl : pcl V p) (kr : cK r = 2) (hm : 13 ≤ cL (p + 3)) {Q : mj_R → Prop} (hend : ∀ h, jM g n V (xfl X r (pco V p) 13) h → Q (.inl (some (.int (jn 1))), h)) : ∀ k i, i + k = 13 → ∀ h, jM g n V (xfl X r (pco V p) i) h → mj_T (D + 1) mj_m44 44 [some (.ref p), some (.ref r), some (.int (jn (i : Int)))] [] h Q
  | 0, i, hi, h, m => by
    iterate 2 refine mj_T.pl rfl rfl rfl rfl ?_
    refine mT_llen m kr rfl ?_
    refine mj_T.icmp (a := ((i : Nat) : Int)) (b := ((13 : Nat) : Int)) rfl ⟨by omega, by omega⟩ ⟨by omega, by omega⟩ (fun c1 => ?_) (fun c1 => ?_)
    · simp only [jc, Bool.not_eq_true', Bool.not_eq_false', decide_eq_true_eq, decide_eq_false_iff_not] at c1
      refine mj_T.pl rfl rfl rfl rfl ?_
      exact mj_T.ret rfl rfl rfl (hend _ (m.to rfl (by rw [show i = 13 by omega])))
    · exfalso
      simp only [jc, Bool.not_eq_true', Bool.not_eq_false', decide_eq_true_eq, decide_eq_false_iff_not] at c1
      omega
  | k + 1, i, hi, h, m => by
    have hci := hcl i (by omega)
    iterate 2 refine mj_T.pl rfl rfl rfl rfl ?_
    refine mT_llen m kr rfl ?_
    refine mj_T.icmp (a := ((i : Nat) : Int)) (b := ((13 : Nat) : Int)) rfl ⟨by omega, by omega⟩ ⟨by omega, by omega⟩ (fun c1 => ?_) (fun c1 => ?_)
    · exfalso
      simp only [jc, Bool.not_eq_true', Bool.not_eq_false', decide_eq_true_eq, decide_eq_false_iff_not] at c1
      omega
    · simp only [jc, Bool.not_eq_true', Bool.not_eq_false', decide_eq_true_eq, decide_eq_false_iff_not] at c1
      iterate 4 refine mj_T.pl rfl rfl rfl rfl ?_
      refine mj_T.call rfl rfl (Nat.le_of_ble_eq_true rfl) (Nat.le_of_ble_eq_true rfl) (mV_of m 13 kp (by decide) rfl (by decide) rfl _) rfl (mj_Ok.up (by omega) (mP_at (D := 0) m kp (e := i) (by omega))) (fun v g2 hq => ?_) (fun i g2 hq => ?_)
      rotate_left
      · cases hq
      cases hq
      refine mj_T.eq (pc2 := 57) (st2 := [.ref (p + 4 + 2 * i), .int (jn ((i : Nat) : Int)), .ref r]) ?_ rfl rfl rfl rfl
      refine mj_T.call rfl rfl (Nat.le_of_ble_eq_true rfl) (Nat.le_of_ble_eq_true rfl) (mV_of m 18 ((mK_p kp).2.2.2 _ (by omega)) (by decide) rfl (by decide) rfl _) rfl (mj_Ok.up (by omega) (mW_low (D := 0) m ((mK_p kp).2.2.2 _ (by omega)))) (fun v g3 hq => ?_) (fun i g3 hq => ?_)
      rotate_left
      · cases hq
      cases hq
      refine mj_T.eq (pc2 := 60) (st2 := [.long (jl (V (p + 4 + 2 * i))), .int (jn ((i : Nat) : Int)), .ref r]) ?_ rfl rfl rfl rfl
      refine mT_last (v := (V (p + 4 + 2 * i))) m kr rfl ⟨by omega, by omega⟩ (fun h4 m5 => ?_)
      refine mj_T.iinc rfl rfl ?_
      rw [show ((i : Nat) : Int) + 1 = ((i + 1 : Nat) : Int) by omega]
      refine mj_T.eq (loc2 := [some (.ref p), some (.ref r), some (.int (jn (((i + 1) : Nat) : Int)))]) ?_ rfl rfl rfl rfl
      refine mj_T.pl rfl rfl rfl rfl ?_
      exact mP_store2 kp hcl kr hm hend k (i + 1) (by omega) _ (m5.to rfl (xfl_succ X r _ i))
theorem mP_store (m : jM g n V X h) (kp : cK p = 13) (hcl : pcl V p) (kr : cK r = 2) (hm : 13 ≤ cL (p + 3)) : mj_Ok (D + 2) 44 [.ref p, .ref r] h (fun z => (pok V p (cL (p + 3)) ∧ ∃ h2, jM g n V (xfl X r (pco V p) 13) h2 ∧ z = (.inl (some (.int (jn 1))), h2)) ∨ (¬ pok V p (cL (p + 3)) ∧ z = (.inl (some (.int (jn 0))), h))) := by
  have hb := (mK_p kp).2.2.1
  refine mj_Ok.of (M := mj_m44) rfl rfl rfl ?_
  refine mj_T.pl rfl rfl rfl rfl ?_
  refine mj_T.pl (loc' := [some (.ref p), some (.ref r), some (.int (jn 0))]) rfl rfl rfl rfl ?_
  refine mP_store1 kp hcl m (fun q => Or.inr ⟨q, rfl⟩) (fun q => ?_) (cL (p + 3)) 0 (by omega) (fun x hx => absurd hx (by omega))
  refine mj_T.pl rfl rfl rfl rfl ?_
  refine mj_T.pl (loc' := [some (.ref p), some (.ref r), some (.int (jn 0))]) rfl rfl rfl rfl ?_
  exact mP_store2 kp hcl kr hm (fun h1 m1 => Or.inl ⟨q, h1, m1, rfl⟩) 13 0 (by omega) _ (m.to rfl (xfl_zero _ _ _))
end MPR
