/-! The benches of the class: weights, bases of interpolation. -/
theorem rdf_18g {P : Nat → Int} {n : Nat} (g3 : ∀ i, i < n → -9 ≤ P i ∧ P i ≤ 9) (g4 : ∀ a b, a < b → b < n → P a ≠ P b) {i : Nat} (hi : i < n) : rdf (P i) P i n ∣ 6402373705728000 := by
  have hp := g3 i hi
  obtain ⟨x, hx⟩ : ∃ x : Nat, P i = (x : Int) - 9 := ⟨(P i + 9).toNat, by omega⟩
  have h1 := rpl_dvd x (by omega)
  rw [← hx] at h1
  refine Int.dvd_trans (rdf_dvd _ _ i n (rpl x) (fun j hj hne => ?_) (fun a b hab hb => g4 a b hab (by omega))) h1
  have hq := g3 j (by omega)
  refine List.mem_map.mpr ⟨(P j + 9).toNat, List.mem_filter.mpr ⟨List.mem_range.mpr (by omega), ?_⟩, by omega⟩
  have hd : P j ≠ P i := by
    rcases Nat.lt_or_gt_of_ne hne with c | c
    · exact g4 j i c (by omega)
    · exact fun e => g4 i j c (by omega) e.symm
  have : (P j + 9).toNat ≠ x := by omega
  simp [this]
/-- the points of a bench -/
def PT (X : Nat → Nat → Int) (o p : Nat) : Prop := X o 3 = (p : Int) ∧ p ≤ 6 ∧ (∀ i, i < p → (-9 ≤ X (o + 8) i ∧ X (o + 8) i ≤ 9) ∧ (-999 ≤ X (o + 9) i ∧ X (o + 9) i ≤ 999)) ∧ (∀ a b, a < b → b < p → X (o + 8) a ≠ X (o + 8) b)
/-- the weight of a point -/
def wgt (P : Nat → Int) (p i : Nat) : Int := rdf (P i) P i p
theorem PT.w {X : Nat → Nat → Int} {o p : Nat} (q : PT X o p) {i : Nat} (hi : i < p) : wgt (X (o + 8)) p i ≠ 0 ∧ (wgt (X (o + 8)) p i).natAbs ∣ 6402373705728000 ∧ (wgt (X (o + 8)) p i).natAbs ≤ 6402373705728000 := r18_bd (rdf_18g (fun j hj => (q.2.2.1 j hj).1) q.2.2.2 hi)
/-- the weights' common multiple, with a sign -/
def lcw (w : Nat → Int) : Nat → Int
  | 0 => 1
  | k + 1 => lcw w k * (w k).tdiv ((Nat.gcd (lcw w k).natAbs (w k).natAbs : Nat) : Int)
theorem lcw_lcm (w : Nat → Int) (k : Nat) : (lcw w (k + 1)).natAbs = Nat.lcm (lcw w k).natAbs (w k).natAbs := by
  show (lcw w k * (w k).tdiv ((Nat.gcd (lcw w k).natAbs (w k).natAbs : Nat) : Int)).natAbs = _
  rw [Int.natAbs_mul, Int.natAbs_tdiv, Int.natAbs_natCast]
  show _ = (lcw w k).natAbs * (w k).natAbs / Nat.gcd (lcw w k).natAbs (w k).natAbs
  rw [Nat.mul_div_assoc _ (Nat.gcd_dvd_right _ _)]
  rfl
theorem lcw_dvd {w : Nat → Int} {F : Nat} : ∀ k, (∀ i, i < k → (w i).natAbs ∣ F) → (lcw w k).natAbs ∣ F
  | 0, _ => by
    show (1 : Int).natAbs ∣ F
    exact Nat.one_dvd F
  | k + 1, h => by
    rw [lcw_lcm]
    exact Nat.lcm_dvd (lcw_dvd k (fun i hi => h i (by omega))) (h k (by omega))
theorem lcw_of (w : Nat → Int) : ∀ k i, i < k → (w i).natAbs ∣ (lcw w k).natAbs
  | 0, i, h => absurd h (Nat.not_lt_zero i)
  | k + 1, i, h => by
    rw [lcw_lcm]
    by_cases c : i = k
    · rw [c]
      exact Nat.dvd_lcm_right _ _
    · exact Nat.dvd_trans (lcw_of w k i (by omega)) (Nat.dvd_lcm_left _ _)
theorem dvd_18 {a : Nat} (h : a ∣ 6402373705728000) : 0 < a ∧ a ≤ 6402373705728000 := by
  refine ⟨Nat.pos_of_ne_zero (fun e => ?_), Nat.le_of_dvd (by decide) h⟩
  rw [e] at h
  exact absurd (Nat.eq_zero_of_zero_dvd h) (by decide)
theorem PT.l {X : Nat → Nat → Int} {o p : Nat} (q : PT X o p) {k : Nat} (hk : k ≤ p) : 0 < (lcw (wgt (X (o + 8)) p) k).natAbs ∧ (lcw (wgt (X (o + 8)) p) k).natAbs ≤ 6402373705728000 := dvd_18 (lcw_dvd k (fun i hi => (q.w (i := i) (by omega)).2.1))
/-- the product of the lines through the other places -/
def bsf (P : Nat → Int) (i : Nat) : Nat → Nat → Int
  | 0 => fun j => if j = 0 then 1 else 0
  | k + 1 => if k = i then bsf P i k else fun j => (if j = 0 then 0 else bsf P i k (j - 1)) - P k * bsf P i k j
section MBW
variable {g h : mj_H} {n D o r : Nat} {V : Nat → Int} {X : Nat → Nat → Int}
theorem mB_weight_loop (m : jM g n V X h) (ko : cK o = 10) {p i : Nat} (hp : PT X o p) (hi : i < p) : ∀ k c, c + k = p → mj_T (D + 1) mj_m7 5 [some (.ref o), some (.int (jn (i : Int))), some (.long (jl (rdf (X (o + 8) i) (X (o + 8)) i c))), none, some (.int (jn (((c : Nat)) : Int)))] [] h (fun z => z = (.inl (some (.long (jl (wgt (X (o + 8)) p i)))), h))
  | 0, c, hc => by
    have hp6 := hp.2.1
    have hpi := (hp.2.2.1 i hi).1
    iterate 2 refine mj_T.pl rfl rfl rfl rfl ?_
    refine mT_get (v := .int (jn ((p : Nat) : Int))) m 10 ko (by decide) rfl (congrArg (fun z : Int => some (Value.int (jn z))) (hp.1)) ?_
    refine mj_T.icmp (a := ((c : Nat) : Int)) (b := ((p : Nat) : Int)) rfl ⟨by omega, by omega⟩ ⟨by omega, by omega⟩ (fun c1 => ?_) (fun c1 => ?_)
    · simp only [jc, Bool.not_eq_true', Bool.not_eq_false', decide_eq_true_eq, decide_eq_false_iff_not] at c1
      refine mj_T.pl rfl rfl rfl rfl ?_
      have hcp : c = p := by omega
      subst hcp
      exact mj_T.ret rfl rfl rfl rfl
    · exfalso
      simp only [jc, Bool.not_eq_true', Bool.not_eq_false', decide_eq_true_eq, decide_eq_false_iff_not] at c1
      omega
  | k + 1, c, hc => by
    have hp6 := hp.2.1
    have hpi := (hp.2.2.1 i hi).1
    have hpc := (hp.2.2.1 c (by omega)).1
    iterate 2 refine mj_T.pl rfl rfl rfl rfl ?_
    refine mT_get (v := .int (jn ((p : Nat) : Int))) m 10 ko (by decide) rfl (congrArg (fun z : Int => some (Value.int (jn z))) (hp.1)) ?_
    refine mj_T.icmp (a := ((c : Nat) : Int)) (b := ((p : Nat) : Int)) rfl ⟨by omega, by omega⟩ ⟨by omega, by omega⟩ (fun c1 => ?_) (fun c1 => ?_)
    · exfalso
      simp only [jc, Bool.not_eq_true', Bool.not_eq_false', decide_eq_true_eq, decide_eq_false_iff_not] at c1
      omega
    · simp only [jc, Bool.not_eq_true', Bool.not_eq_false', decide_eq_true_eq, decide_eq_false_iff_not] at c1
      iterate 2 refine mj_T.pl rfl rfl rfl rfl ?_
      refine mj_T.icmp (a := ((c : Nat) : Int)) (b := ((i : Nat) : Int)) rfl ⟨by omega, by omega⟩ ⟨by omega, by omega⟩ (fun c2 => ?_) (fun c2 => ?_)
      · simp only [jc, Bool.not_eq_true', Bool.not_eq_false', decide_eq_true_eq, decide_eq_false_iff_not] at c2
        refine mj_T.iinc rfl rfl ?_
        rw [show ((c : Nat) : Int) + 1 = ((c + 1 : Nat) : Int) by omega]
        refine mj_T.eq (loc2 := [some (.ref o), some (.int (jn ((i : Nat) : Int))), some (.long (jl (rdf (X (o + 8) i) (X (o + 8)) i c))), none, some (.int (jn (((c + 1) : Nat) : Int)))]) ?_ rfl rfl rfl rfl
        refine mj_T.pl rfl rfl rfl rfl ?_
        refine mj_T.eq (loc2 := [some (.ref o), some (.int (jn (i : Int))), some (.long (jl (rdf (X (o + 8) i) (X (o + 8)) i (c + 1)))), none, some (.int (jn ((((c + 1) : Nat)) : Int)))]) ?_ rfl (by rw [show (rdf (X (o + 8) i) (X (o + 8)) i (c + 1)) = (rdf (X (o + 8) i) (X (o + 8)) i c) from if_pos (by omega)]) rfl rfl
        exact mB_weight_loop m ko hp hi k (c + 1) (by omega)
      · simp only [jc, Bool.not_eq_true', Bool.not_eq_false', decide_eq_true_eq, decide_eq_false_iff_not] at c2
        iterate 3 refine mj_T.pl rfl rfl rfl rfl ?_
        refine mj_T.call rfl rfl (Nat.le_of_ble_eq_true rfl) (Nat.le_of_ble_eq_true rfl) (mV_of m 10 ko (by decide) rfl (by decide) rfl _) rfl (mj_Ok.up (by omega) (mB_place (D := 0) (i := i) m ko (by omega))) (fun v g3 hq => ?_) (fun i g3 hq => ?_)
        rotate_left
        · cases hq
        cases hq
        refine mj_T.eq (pc2 := 26) (st2 := [.int (jn (X (o + 8) i)), .long (jl (rdf (X (o + 8) i) (X (o + 8)) i c))]) ?_ rfl rfl rfl rfl
        iterate 2 refine mj_T.pl rfl rfl rfl rfl ?_
        refine mj_T.call rfl rfl (Nat.le_of_ble_eq_true rfl) (Nat.le_of_ble_eq_true rfl) (mV_of m 10 ko (by decide) rfl (by decide) rfl _) rfl (mj_Ok.up (by omega) (mB_place (D := 0) (i := c) m ko (by omega))) (fun v g4 hq => ?_) (fun i g4 hq => ?_)
        rotate_left
        · cases hq
        cases hq
        refine mj_T.eq (pc2 := 32) (st2 := [.int (jn (X (o + 8) c)), .int (jn (X (o + 8) i)), .long (jl (rdf (X (o + 8) i) (X (o + 8)) i c))]) ?_ rfl rfl rfl rfl
        refine mj_T.isub (a := (X (o + 8) i)) (b := (X (o + 8) c)) rfl ?_
        refine mj_T.i2l rfl ⟨by omega, by omega⟩ ?_
        refine mj_T.lmul (a := (rdf (X (o + 8) i) (X (o + 8)) i c)) (b := ((X (o + 8) i) - (X (o + 8) c))) rfl ?_
        refine mj_T.pl (loc' := [some (.ref o), some (.int (jn ((i : Nat) : Int))), some (.long (jl ((rdf (X (o + 8) i) (X (o + 8)) i c) * ((X (o + 8) i) - (X (o + 8) c))))), none, some (.int (jn ((c : Nat) : Int)))]) rfl rfl rfl rfl ?_
        refine mj_T.iinc rfl rfl ?_
        rw [show ((c : Nat) : Int) + 1 = ((c + 1 : Nat) : Int) by omega]
        refine mj_T.eq (loc2 := [some (.ref o), some (.int (jn ((i : Nat) : Int))), some (.long (jl ((rdf (X (o + 8) i) (X (o + 8)) i c) * ((X (o + 8) i) - (X (o + 8) c))))), none, some (.int (jn (((c + 1) : Nat) : Int)))]) ?_ rfl rfl rfl rfl
        refine mj_T.pl rfl rfl rfl rfl ?_
        refine mj_T.eq (loc2 := [some (.ref o), some (.int (jn (i : Int))), some (.long (jl (rdf (X (o + 8) i) (X (o + 8)) i (c + 1)))), none, some (.int (jn ((((c + 1) : Nat)) : Int)))]) ?_ rfl (by rw [show (rdf (X (o + 8) i) (X (o + 8)) i (c + 1)) = ((rdf (X (o + 8) i) (X (o + 8)) i c) * ((X (o + 8) i) - (X (o + 8) c))) from if_neg (by omega)]) rfl rfl
        exact mB_weight_loop m ko hp hi k (c + 1) (by omega)
theorem mB_weight (m : jM g n V X h) (ko : cK o = 10) {p i : Nat} (hp : PT X o p) (hi : i < p) : mj_Ok (D + 2) 7 [.ref o, .int (jn (i : Int))] h (fun z => z = (.inl (some (.long (jl (wgt (X (o + 8)) p i)))), h)) := by
  refine mj_Ok.of (M := mj_m7) rfl rfl rfl ?_
  refine jT.lc 1 rfl rfl ?_
  refine mj_T.pl (loc' := [some (.ref o), some (.int (jn ((i : Nat) : Int))), some (.long (jl ((1 : Nat) : Int))), none, none]) rfl rfl rfl rfl ?_
  refine mj_T.pl rfl rfl rfl rfl ?_
  refine mj_T.pl (loc' := [some (.ref o), some (.int (jn ((i : Nat) : Int))), some (.long (jl ((1 : Nat) : Int))), none, some (.int (jn 0))]) rfl rfl rfl rfl ?_
  exact mB_weight_loop m ko hp hi p 0 (by omega)
theorem mB_common_loop (m : jM g n V X h) (ko : cK o = 10) {p : Nat} (hp : PT X o p) : ∀ k i, i + k = p → ∀ l4 l6, mj_T (D + 2) mj_m8 4 [some (.ref o), some (.long (jl (lcw (wgt (X (o + 8)) p) i))), none, some (.int (jn (((i : Nat)) : Int))), l4, none, l6, none] [] h (fun z => z = (.inl (some (.long (jl (((lcw (wgt (X (o + 8)) p) p).natAbs : Nat) : Int)))), h))
  | 0, i, hi, l4, l6 => by
    have hip : i = p := by omega
    rw [← hip] at hp ⊢
    have hp6 := hp.2.1
    have hl := hp.l (k := i) (by omega)
    iterate 2 refine mj_T.pl rfl rfl rfl rfl ?_
    refine mT_get (v := .int (jn ((i : Nat) : Int))) m 10 ko (by decide) rfl (congrArg (fun z : Int => some (Value.int (jn z))) (hp.1)) ?_
    refine mj_T.icmp (a := ((i : Nat) : Int)) (b := ((i : Nat) : Int)) rfl ⟨by omega, by omega⟩ ⟨by omega, by omega⟩ (fun c1 => ?_) (fun c1 => ?_)
    · simp only [jc, Bool.not_eq_true', Bool.not_eq_false', decide_eq_true_eq, decide_eq_false_iff_not] at c1
      refine mj_T.pl rfl rfl rfl rfl ?_
      refine jT.lc 0 rfl rfl ?_
      refine mj_T.lif (a := (lcw (wgt (X (o + 8)) i) i)) (b := ((0 : Nat) : Int)) rfl rfl ⟨by omega, by omega⟩ ⟨by omega, by omega⟩ (fun c2 => ?_) (fun c2 => ?_)
      · simp only [jc, Bool.not_eq_true', Bool.not_eq_false', decide_eq_true_eq, decide_eq_false_iff_not] at c2
        refine mj_T.pl rfl rfl rfl rfl ?_
        exact mj_T.ret rfl rfl rfl (congrArg (fun z : Int => ((.inl (some (Value.long (jl z))), h) : mj_R)) (show (lcw (wgt (X (o + 8)) i) i) = (((lcw (wgt (X (o + 8)) i) i).natAbs : Nat) : Int) by omega))
      · simp only [jc, Bool.not_eq_true', Bool.not_eq_false', decide_eq_true_eq, decide_eq_false_iff_not] at c2
        refine mj_T.pl rfl rfl rfl rfl ?_
        refine mj_T.lneg rfl ?_
        refine mj_T.pl rfl rfl rfl rfl ?_
        exact mj_T.ret rfl rfl rfl (congrArg (fun z : Int => ((.inl (some (Value.long (jl z))), h) : mj_R)) (show (-(lcw (wgt (X (o + 8)) i) i)) = (((lcw (wgt (X (o + 8)) i) i).natAbs : Nat) : Int) by omega))
    · exfalso
      simp only [jc, Bool.not_eq_true', Bool.not_eq_false', decide_eq_true_eq, decide_eq_false_iff_not] at c1
      omega
  | k + 1, i, hi, l4, l6 => by
    have hp6 := hp.2.1
    have hl := hp.l (k := i) (by omega)
    have hw := hp.w (i := i) (by omega)
    have hg0 : 0 < (Nat.gcd (lcw (wgt (X (o + 8)) p) i).natAbs (wgt (X (o + 8)) p i).natAbs) := Nat.gcd_pos_of_pos_left _ hl.1
    have hg1 : (Nat.gcd (lcw (wgt (X (o + 8)) p) i).natAbs (wgt (X (o + 8)) p i).natAbs) ≤ (lcw (wgt (X (o + 8)) p) i).natAbs := Nat.le_of_dvd hl.1 (Nat.gcd_dvd_left _ _)
    iterate 2 refine mj_T.pl rfl rfl rfl rfl ?_
    refine mT_get (v := .int (jn ((p : Nat) : Int))) m 10 ko (by decide) rfl (congrArg (fun z : Int => some (Value.int (jn z))) (hp.1)) ?_
    refine mj_T.icmp (a := ((i : Nat) : Int)) (b := ((p : Nat) : Int)) rfl ⟨by omega, by omega⟩ ⟨by omega, by omega⟩ (fun c1 => ?_) (fun c1 => ?_)
    · exfalso
      simp only [jc, Bool.not_eq_true', Bool.not_eq_false', decide_eq_true_eq, decide_eq_false_iff_not] at c1
      omega
    · simp only [jc, Bool.not_eq_true', Bool.not_eq_false', decide_eq_true_eq, decide_eq_false_iff_not] at c1
      iterate 2 refine mj_T.pl rfl rfl rfl rfl ?_
      refine mj_T.call rfl rfl (Nat.le_of_ble_eq_true rfl) (Nat.le_of_ble_eq_true rfl) (mV_of m 10 ko (by decide) rfl (by decide) rfl _) rfl (mj_Ok.up (by omega) (mB_weight (D := 0) m ko hp (i := i) (by omega))) (fun v g2 hq => ?_) (fun i g2 hq => ?_)
      rotate_left
      · cases hq
      cases hq
      refine mj_T.eq (pc2 := 17) (st2 := [.long (jl (wgt (X (o + 8)) p i))]) ?_ rfl rfl rfl rfl
      refine mj_T.pl (loc' := [some (.ref o), some (.long (jl (lcw (wgt (X (o + 8)) p) i))), none, some (.int (jn ((i : Nat) : Int))), some (.long (jl (wgt (X (o + 8)) p i))), none, l6, none]) rfl rfl rfl rfl ?_
      iterate 2 refine mj_T.pl rfl rfl rfl rfl ?_
      refine mj_T.call rfl rfl (Nat.le_of_ble_eq_true rfl) (Nat.le_of_ble_eq_true rfl) rfl rfl (mj_Ok.up (by omega) (mS_common (D := 0) (by omega) (by omega))) (fun v g3 hq => ?_) (fun i g3 hq => ?_)
      rotate_left
      · cases hq
      cases hq
      refine mj_T.eq (pc2 := 25) (st2 := [.long (jl (((Nat.gcd (lcw (wgt (X (o + 8)) p) i).natAbs (wgt (X (o + 8)) p i).natAbs) : Nat) : Int))]) ?_ rfl rfl rfl rfl
      refine mj_T.pl (loc' := [some (.ref o), some (.long (jl (lcw (wgt (X (o + 8)) p) i))), none, some (.int (jn ((i : Nat) : Int))), some (.long (jl (wgt (X (o + 8)) p i))), none, some (.long (jl (((Nat.gcd (lcw (wgt (X (o + 8)) p) i).natAbs (wgt (X (o + 8)) p i).natAbs) : Nat) : Int))), none]) rfl rfl rfl rfl ?_
      iterate 2 refine mj_T.pl rfl rfl rfl rfl ?_
      refine jT.lc 0 rfl rfl ?_
      refine mj_T.lif (a := (((Nat.gcd (lcw (wgt (X (o + 8)) p) i).natAbs (wgt (X (o + 8)) p i).natAbs) : Nat) : Int)) (b := ((0 : Nat) : Int)) rfl rfl ⟨by omega, by omega⟩ ⟨by omega, by omega⟩ (fun c4 => ?_) (fun c4 => ?_)
      · simp only [jc, Bool.not_eq_true', Bool.not_eq_false', decide_eq_true_eq, decide_eq_false_iff_not] at c4
        iterate 2 refine mj_T.pl rfl rfl rfl rfl ?_
        refine mj_T.ldiv rfl ⟨by omega, by omega⟩ ⟨by omega, by omega⟩ (by omega) ?_
        refine mj_T.lmul (a := (lcw (wgt (X (o + 8)) p) i)) (b := ((wgt (X (o + 8)) p i).tdiv (((Nat.gcd (lcw (wgt (X (o + 8)) p) i).natAbs (wgt (X (o + 8)) p i).natAbs) : Nat) : Int))) rfl ?_
        refine mj_T.pl (loc' := [some (.ref o), some (.long (jl ((lcw (wgt (X (o + 8)) p) i) * ((wgt (X (o + 8)) p i).tdiv (((Nat.gcd (lcw (wgt (X (o + 8)) p) i).natAbs (wgt (X (o + 8)) p i).natAbs) : Nat) : Int))))), none, some (.int (jn ((i : Nat) : Int))), some (.long (jl (wgt (X (o + 8)) p i))), none, some (.long (jl (((Nat.gcd (lcw (wgt (X (o + 8)) p) i).natAbs (wgt (X (o + 8)) p i).natAbs) : Nat) : Int))), none]) rfl rfl rfl rfl ?_
        refine mj_T.iinc rfl rfl ?_
        rw [show ((i : Nat) : Int) + 1 = ((i + 1 : Nat) : Int) by omega]
        refine mj_T.eq (loc2 := [some (.ref o), some (.long (jl ((lcw (wgt (X (o + 8)) p) i) * ((wgt (X (o + 8)) p i).tdiv (((Nat.gcd (lcw (wgt (X (o + 8)) p) i).natAbs (wgt (X (o + 8)) p i).natAbs) : Nat) : Int))))), none, some (.int (jn (((i + 1) : Nat) : Int))), some (.long (jl (wgt (X (o + 8)) p i))), none, some (.long (jl (((Nat.gcd (lcw (wgt (X (o + 8)) p) i).natAbs (wgt (X (o + 8)) p i).natAbs) : Nat) : Int))), none]) ?_ rfl rfl rfl rfl
        refine mj_T.pl rfl rfl rfl rfl ?_
        exact mB_common_loop m ko hp k (i + 1) (by omega) _ _
      · exfalso
        simp only [jc, Bool.not_eq_true', Bool.not_eq_false', decide_eq_true_eq, decide_eq_false_iff_not] at c4
        omega
theorem mB_common (m : jM g n V X h) (ko : cK o = 10) {p : Nat} (hp : PT X o p) : mj_Ok (D + 3) 8 [.ref o] h (fun z => z = (.inl (some (.long (jl (((lcw (wgt (X (o + 8)) p) p).natAbs : Nat) : Int)))), h)) := by
  refine mj_Ok.of (M := mj_m8) rfl rfl rfl ?_
  refine jT.lc 1 rfl rfl ?_
  refine mj_T.pl (loc' := [some (.ref o), some (.long (jl ((1 : Nat) : Int))), none, none, none, none, none, none]) rfl rfl rfl rfl ?_
  refine mj_T.pl rfl rfl rfl rfl ?_
  refine mj_T.pl (loc' := [some (.ref o), some (.long (jl ((1 : Nat) : Int))), none, some (.int (jn 0)), none, none, none, none]) rfl rfl rfl rfl ?_
  exact mB_common_loop m ko hp p 0 (by omega) _ _
theorem mB_basis_in (ko : cK o = 10) (kr : cK r = 2) {p i : Nat} (hp : PT X o p) (hi : i < p) {c : Nat} (hc : c < p) (hci : c ≠ i) (hro : o ≠ r) (hrp : o + 8 ≠ r) {Q : mj_R → Prop} (hend : ∀ (X2 : Nat → Nat → Int) (h2 : mj_H) (l4 : Option Value), jM g n V X2 h2 → (∀ j, j < 13 → X2 r j = bsf (X (o + 8)) i (c + 1) j) → (∀ c, c ≠ r → X2 c = X c) → mj_T (D + 1) mj_m9 71 [some (.ref o), some (.int (jn (i : Int))), some (.ref r), some (.int (jn (((c : Nat)) : Int))), l4] [] h2 Q) : ∀ k, k ≤ 13 → ∀ (X1 : Nat → Nat → Int) (h1 : mj_H), jM g n V X1 h1 → (∀ j, j < 13 → X1 r j = if k ≤ j then bsf (X (o + 8)) i (c + 1) j else bsf (X (o + 8)) i c j) → (∀ c, c ≠ r → X1 c = X c) → mj_T (D + 1) mj_m9 29 [some (.ref o), some (.int (jn (i : Int))), some (.ref r), some (.int (jn (((c : Nat)) : Int))), some (.int (jn ((((k : Nat)) : Int) - 1)))] [] h1 Q
  | 0, hk, X1, h1, m, e1, e2 => by
    refine mj_T.pl rfl rfl rfl rfl ?_
    refine mj_T.if0 (a := (((0 : Nat) : Int) - 1)) rfl ⟨by omega, by omega⟩ (fun c1 => ?_) (fun c1 => ?_)
    · simp only [jc, Bool.not_eq_true', Bool.not_eq_false', decide_eq_true_eq, decide_eq_false_iff_not] at c1
      exact hend _ _ _ m (fun j hj => (e1 j hj).trans (if_pos (by omega))) e2
    · exfalso
      simp only [jc, Bool.not_eq_true', Bool.not_eq_false', decide_eq_true_eq, decide_eq_false_iff_not] at c1
      omega
  | k + 1, hk, X1, h1, m, e1, e2 => by
    have hp6 := hp.2.1
    have hpc : -9 ≤ X1 (o + 8) c ∧ X1 (o + 8) c ≤ 9 := by
      rw [congrFun (e2 (o + 8) hrp) c]
      exact (hp.2.2.1 c (by omega)).1
    rw [show (((k + 1 : Nat)) : Int) - 1 = ((k : Nat) : Int) by omega]
    refine mj_T.pl rfl rfl rfl rfl ?_
    refine mj_T.if0 (a := ((k : Nat) : Int)) rfl ⟨by omega, by omega⟩ (fun c1 => ?_) (fun c1 => ?_)
    · exfalso
      simp only [jc, Bool.not_eq_true', Bool.not_eq_false', decide_eq_true_eq, decide_eq_false_iff_not] at c1
      omega
    · simp only [jc, Bool.not_eq_true', Bool.not_eq_false', decide_eq_true_eq, decide_eq_false_iff_not] at c1
      iterate 3 refine mj_T.pl rfl rfl rfl rfl ?_
      refine mj_T.if0 (a := ((k : Nat) : Int)) rfl ⟨by omega, by omega⟩ (fun c2 => ?_) (fun c2 => ?_)
      · simp only [jc, Bool.not_eq_true', Bool.not_eq_false', decide_eq_true_eq, decide_eq_false_iff_not] at c2
        refine jT.lc 0 rfl rfl ?_
        iterate 2 refine mj_T.pl rfl rfl rfl rfl ?_
        refine mj_T.call rfl rfl (Nat.le_of_ble_eq_true rfl) (Nat.le_of_ble_eq_true rfl) (mV_of m 10 ko (by decide) rfl (by decide) rfl _) rfl (mj_Ok.up (by omega) (mB_place (D := 0) (i := c) m ko (by omega))) (fun v g3 hq => ?_) (fun i g3 hq => ?_)
        rotate_left
        · cases hq
        cases hq
        refine mj_T.eq (pc2 := 57) (st2 := [.int (jn (X1 (o + 8) c)), .long (jl ((0 : Nat) : Int)), .int (jn ((k : Nat) : Int)), .ref r]) ?_ rfl rfl rfl rfl
        refine mj_T.i2l rfl ⟨by omega, by omega⟩ ?_
        iterate 2 refine mj_T.pl rfl rfl rfl rfl ?_
        refine mT_lald m kr rfl ⟨by omega, by omega⟩ ?_
        refine mj_T.eq (st2 := [.long (jl (X1 r k)), .long (jl (X1 (o + 8) c)), .long (jl ((0 : Nat) : Int)), .int (jn ((k : Nat) : Int)), .ref r]) ?_ rfl rfl rfl rfl
        refine mj_T.lmul (a := (X1 (o + 8) c)) (b := (X1 r k)) rfl ?_
        refine mj_T.lsub (a := ((0 : Nat) : Int)) (b := ((X1 (o + 8) c) * (X1 r k))) rfl ?_
        refine mT_last (v := (((0 : Nat) : Int) - ((X1 (o + 8) c) * (X1 r k)))) m kr rfl ⟨by omega, by omega⟩ (fun h4 m5 => ?_)
        refine mj_T.iinc rfl rfl ?_
        refine mj_T.eq (loc2 := [some (.ref o), some (.int (jn ((i : Nat) : Int))), some (.ref r), some (.int (jn ((c : Nat) : Int))), some (.int (jn (((k : Nat) : Int) + (-1))))]) ?_ rfl rfl rfl rfl
        refine mj_T.pl rfl rfl rfl rfl ?_
        rw [show ((k : Nat) : Int) + (-1) = ((k : Nat) : Int) - 1 by omega]
        refine mB_basis_in ko kr hp hi hc hci hro hrp hend k (by omega) (xup X1 r k (((0 : Nat) : Int) - ((X1 (o + 8) c) * (X1 r k)))) _ m5 (fun j hj => ?_) (fun c hcr => (xup_oth hcr).trans (e2 c hcr))
        by_cases q : j = k
        · subst q
          rw [xup_at, if_pos (Nat.le_refl _), show bsf (X (o + 8)) i (c + 1) j = (if j = 0 then 0 else bsf (X (o + 8)) i c (j - 1)) - X (o + 8) c * bsf (X (o + 8)) i c j from congrFun (if_neg hci) j, congrFun (e2 (o + 8) hrp) c]
          have y1 := (e1 j hj).trans (if_neg (by omega))
          rw [y1, if_pos (by omega)]
          omega
        · rw [xup_ne _ _ (Or.inr q), e1 j hj]
          by_cases y : k + 1 ≤ j
          · rw [if_pos y, if_pos (by omega)]
          · rw [if_neg y, if_neg (by omega)]
      · simp only [jc, Bool.not_eq_true', Bool.not_eq_false', decide_eq_true_eq, decide_eq_false_iff_not] at c2
        iterate 3 refine mj_T.pl rfl rfl rfl rfl ?_
        refine mj_T.isub (a := ((k : Nat) : Int)) (b := 1) rfl ?_
        refine mT_lald m kr rfl ⟨by omega, by omega⟩ ?_
        iterate 3 refine mj_T.pl rfl rfl rfl rfl ?_
        refine mj_T.call rfl rfl (Nat.le_of_ble_eq_true rfl) (Nat.le_of_ble_eq_true rfl) (mV_of m 10 ko (by decide) rfl (by decide) rfl _) rfl (mj_Ok.up (by omega) (mB_place (D := 0) (i := c) m ko (by omega))) (fun v g6 hq => ?_) (fun i g6 hq => ?_)
        rotate_left
        · cases hq
        cases hq
        refine mj_T.eq (pc2 := 57) (st2 := [.int (jn (X1 (o + 8) c)), .long (jl (X1 r (((((k : Nat) : Int) - 1) : Int).toNat))), .int (jn ((k : Nat) : Int)), .ref r]) ?_ rfl rfl rfl rfl
        refine mj_T.i2l rfl ⟨by omega, by omega⟩ ?_
        iterate 2 refine mj_T.pl rfl rfl rfl rfl ?_
        refine mT_lald m kr rfl ⟨by omega, by omega⟩ ?_
        refine mj_T.eq (st2 := [.long (jl (X1 r k)), .long (jl (X1 (o + 8) c)), .long (jl (X1 r (((((k : Nat) : Int) - 1) : Int).toNat))), .int (jn ((k : Nat) : Int)), .ref r]) ?_ rfl rfl rfl rfl
        refine mj_T.lmul (a := (X1 (o + 8) c)) (b := (X1 r k)) rfl ?_
        refine mj_T.lsub (a := (X1 r (((((k : Nat) : Int) - 1) : Int).toNat))) (b := ((X1 (o + 8) c) * (X1 r k))) rfl ?_
        refine mT_last (v := ((X1 r (((((k : Nat) : Int) - 1) : Int).toNat)) - ((X1 (o + 8) c) * (X1 r k)))) m kr rfl ⟨by omega, by omega⟩ (fun h7 m8 => ?_)
        refine mj_T.iinc rfl rfl ?_
        refine mj_T.eq (loc2 := [some (.ref o), some (.int (jn ((i : Nat) : Int))), some (.ref r), some (.int (jn ((c : Nat) : Int))), some (.int (jn (((k : Nat) : Int) + (-1))))]) ?_ rfl rfl rfl rfl
        refine mj_T.pl rfl rfl rfl rfl ?_
        rw [show ((k : Nat) : Int) + (-1) = ((k : Nat) : Int) - 1 by omega]
        refine mB_basis_in ko kr hp hi hc hci hro hrp hend k (by omega) (xup X1 r k ((X1 r (((((k : Nat) : Int) - 1) : Int).toNat)) - ((X1 (o + 8) c) * (X1 r k)))) _ m8 (fun j hj => ?_) (fun c hcr => (xup_oth hcr).trans (e2 c hcr))
        by_cases q : j = k
        · subst q
          rw [xup_at, if_pos (Nat.le_refl _), show bsf (X (o + 8)) i (c + 1) j = (if j = 0 then 0 else bsf (X (o + 8)) i c (j - 1)) - X (o + 8) c * bsf (X (o + 8)) i c j from congrFun (if_neg hci) j, congrFun (e2 (o + 8) hrp) c]
          have y1 := (e1 j hj).trans (if_neg (by omega))
          have y2 := (e1 (j - 1) (by omega)).trans (if_neg (by omega))
          rw [y1, if_neg (by omega), show (((j : Nat) : Int) - 1).toNat = j - 1 by omega, y2]
        · rw [xup_ne _ _ (Or.inr q), e1 j hj]
          by_cases y : k + 1 ≤ j
          · rw [if_pos y, if_pos (by omega)]
          · rw [if_neg y, if_neg (by omega)]
theorem mB_basis_out (ko : cK o = 10) (kr : cK r = 2) {p i : Nat} (hp : PT X o p) (hi : i < p) (hro : o ≠ r) (hrp : o + 8 ≠ r) : ∀ k c, c + k = p → ∀ (X1 : Nat → Nat → Int) (h1 : mj_H) (l4 : Option Value), jM g n V X1 h1 → (∀ j, j < 13 → X1 r j = bsf (X (o + 8)) i c j) → (∀ c, c ≠ r → X1 c = X c) → mj_T (D + 1) mj_m9 10 [some (.ref o), some (.int (jn (i : Int))), some (.ref r), some (.int (jn (((c : Nat)) : Int))), l4] [] h1 (fun z => ∃ (X2 : Nat → Nat → Int) (h2 : mj_H), jM g n V X2 h2 ∧ (∀ j, j < 13 → X2 r j = bsf (X (o + 8)) i p j) ∧ (∀ c, c ≠ r → X2 c = X c) ∧ z = (.inl none, h2))
  | 0, c, hc, X1, h1, l4, m, e1, e2 => by
    have hp6 := hp.2.1
    iterate 2 refine mj_T.pl rfl rfl rfl rfl ?_
    refine mT_get (v := .int (jn ((p : Nat) : Int))) m 10 ko (by decide) rfl (congrArg (fun z : Int => some (Value.int (jn z))) ((congrFun (e2 o hro) 3).trans hp.1)) ?_
    refine mj_T.icmp (a := ((c : Nat) : Int)) (b := ((p : Nat) : Int)) rfl ⟨by omega, by omega⟩ ⟨by omega, by omega⟩ (fun c1 => ?_) (fun c1 => ?_)
    · simp only [jc, Bool.not_eq_true', Bool.not_eq_false', decide_eq_true_eq, decide_eq_false_iff_not] at c1
      have hcp : c = p := by omega
      subst hcp
      exact mj_T.ret rfl rfl rfl ⟨_, _, m, e1, e2, rfl⟩
    · exfalso
      simp only [jc, Bool.not_eq_true', Bool.not_eq_false', decide_eq_true_eq, decide_eq_false_iff_not] at c1
      omega
  | k + 1, c, hc, X1, h1, l4, m, e1, e2 => by
    have hp6 := hp.2.1
    iterate 2 refine mj_T.pl rfl rfl rfl rfl ?_
    refine mT_get (v := .int (jn ((p : Nat) : Int))) m 10 ko (by decide) rfl (congrArg (fun z : Int => some (Value.int (jn z))) ((congrFun (e2 o hro) 3).trans hp.1)) ?_
    refine mj_T.icmp (a := ((c : Nat) : Int)) (b := ((p : Nat) : Int)) rfl ⟨by omega, by omega⟩ ⟨by omega, by omega⟩ (fun c1 => ?_) (fun c1 => ?_)
    · exfalso
      simp only [jc, Bool.not_eq_true', Bool.not_eq_false', decide_eq_true_eq, decide_eq_false_iff_not] at c1
      omega
    · simp only [jc, Bool.not_eq_true', Bool.not_eq_false', decide_eq_true_eq, decide_eq_false_iff_not] at c1
      iterate 2 refine mj_T.pl rfl rfl rfl rfl ?_
      refine mj_T.icmp (a := ((c : Nat) : Int)) (b := ((i : Nat) : Int)) rfl ⟨by omega, by omega⟩ ⟨by omega, by omega⟩ (fun c2 => ?_) (fun c2 => ?_)
      · simp only [jc, Bool.not_eq_true', Bool.not_eq_false', decide_eq_true_eq, decide_eq_false_iff_not] at c2
        refine mj_T.iinc rfl rfl ?_
        rw [show ((c : Nat) : Int) + 1 = ((c + 1 : Nat) : Int) by omega]
        refine mj_T.eq (loc2 := [some (.ref o), some (.int (jn ((i : Nat) : Int))), some (.ref r), some (.int (jn (((c + 1) : Nat) : Int))), l4]) ?_ rfl rfl rfl rfl
        refine mj_T.pl rfl rfl rfl rfl ?_
        exact mB_basis_out ko kr hp hi hro hrp k (c + 1) (by omega) _ _ _ m (fun j hj => (e1 j hj).trans (congrFun (if_pos (by omega)) j).symm) e2
      · simp only [jc, Bool.not_eq_true', Bool.not_eq_false', decide_eq_true_eq, decide_eq_false_iff_not] at c2
        refine mj_T.pl rfl rfl rfl rfl ?_
        refine mT_llen m kr rfl ?_
        refine mj_T.pl rfl rfl rfl rfl ?_
        refine mj_T.isub (a := ((13 : Nat) : Int)) (b := 1) rfl ?_
        refine mj_T.pl (loc' := [some (.ref o), some (.int (jn ((i : Nat) : Int))), some (.ref r), some (.int (jn ((c : Nat) : Int))), some (.int (jn (((13 : Nat) : Int) - 1)))]) rfl rfl rfl rfl ?_
        refine mB_basis_in ko kr hp hi (c := c) (by omega) (by omega) hro hrp (fun X2 h2 l4 m2 y1 y2 => ?_) 13 (by omega) _ _ m (fun j hj => (e1 j hj).trans (if_neg (by omega)).symm) e2
        refine mj_T.iinc rfl rfl ?_
        rw [show ((c : Nat) : Int) + 1 = ((c + 1 : Nat) : Int) by omega]
        refine mj_T.eq (loc2 := [some (.ref o), some (.int (jn ((i : Nat) : Int))), some (.ref r), some (.int (jn (((c + 1) : Nat) : Int))), l4]) ?_ rfl rfl rfl rfl
        refine mj_T.pl rfl rfl rfl rfl ?_
        exact mB_basis_out ko kr hp hi hro hrp k (c + 1) (by omega) _ _ _ m2 y1 y2
theorem mB_basis (m : jM g n V X h) (ko : cK o = 10) (kr : cK r = 2) {p i : Nat} (hp : PT X o p) (hi : i < p) (hro : o ≠ r) (hrp : o + 8 ≠ r) : mj_Ok (D + 2) 9 [.ref o, .int (jn (i : Int)), .ref r] h (fun z => ∃ (X2 : Nat → Nat → Int) (h2 : mj_H), jM g n V X2 h2 ∧ (∀ j, j < 13 → X2 r j = bsf (X (o + 8)) i p j) ∧ (∀ c, c ≠ r → X2 c = X c) ∧ z = (.inl none, h2)) := by
  refine mj_Ok.of (M := mj_m9) rfl rfl rfl ?_
  refine mj_T.pl rfl rfl rfl rfl ?_
  refine mj_T.call rfl rfl (Nat.le_of_ble_eq_true rfl) (Nat.le_of_ble_eq_true rfl) rfl rfl (mj_Ok.up (by omega) (mS_clear (D := 0) m kr)) (fun v g1 hq => ?_) (fun i g1 hq => ?_)
  rotate_left
  · obtain ⟨_, _, hq⟩ := hq; cases hq
  obtain ⟨_, m2, hq⟩ := hq
  cases hq
  refine mj_T.eq (pc2 := 4) (st2 := []) ?_ rfl rfl rfl rfl
  iterate 2 refine mj_T.pl rfl rfl rfl rfl ?_
  refine jT.lc 1 rfl rfl ?_
  refine mT_last (v := ((1 : Nat) : Int)) m2 kr rfl ⟨by omega, by omega⟩ (fun h3 m4 => ?_)
  refine mj_T.pl rfl rfl rfl rfl ?_
  refine mj_T.pl (loc' := [some (.ref o), some (.int (jn ((i : Nat) : Int))), some (.ref r), some (.int (jn 0)), none]) rfl rfl rfl rfl ?_
  refine mB_basis_out ko kr hp hi hro hrp p 0 (by omega) (xup (xfl X r (fun _ => 0) 13) r 0 ((1 : Nat) : Int)) _ _ m4 (fun j hj => ?_) (fun c hc => (xup_oth hc).trans (xfl_off _ _ _ hc))
  show _ = if j = 0 then 1 else 0
  by_cases q : j = 0
  · rw [q, xup_at, if_pos rfl]
    rfl
  · rw [xup_ne _ _ (Or.inr q), xfl_at _ _ _ hj, if_neg q]
end MBW
