/-! cut, where limbs that are 0 may lie on top. -/
theorem jw_cutS_loop {D n x f z : Nat} {g0 : Int32} {g : Nat → Int32} (hn : n < 2147483648) (hxz : jnl x ≤ z) (hf : 0 < f) (hf2 : f ≤ 1000000000) (hcap : z ≤ n) (hg : ∀ j, j < z → g j = jn (jlb x j)) {Q : mj_R → Prop}
    (hend : ∀ (gi : Nat → Int32) (l7 l8 : Option Value) (l6 : Int), (∀ j, j < z → gi j = jn (jlb (x / f) j)) → mj_T D mj_m97 97 [some (.ref 0), some (.long (jl f)), none, some (.long (jl (x % f : Nat))), none, some (.int (jn (jnl (x / f)))), some (.int (jn l6)), l7, l8] [] (jH1 n (z) g0 gi) Q) :
    ∀ (k : Nat) (v : Int) (gi : Nat → Int32) (l7 l8 : Option Value), v = (k : Int) - 1 → k ≤ z → (∀ j, k ≤ j → j < z → gi j = jn (jlb (x / f) j)) → (∀ j, j < k → gi j = g j) →
      mj_T D mj_m97 21 [some (.ref 0), some (.long (jl f)), none, some (.long (jl (x / jB ^ k % f : Nat))), none, some (.int (jn (jup (x / f) k))), some (.int (jn v)), l7, l8] [] (jH1 n (z) g0 gi) Q := by
  intro k
  have hzx : jnl (x / f) ≤ z := Nat.le_trans (jnl_mono (Nat.div_le_self _ _)) hxz
  induction k with
  | zero =>
    intro v gi l7 l8 hv hk hg1 hg2
    refine mj_T.pl rfl rfl rfl rfl ?_
    refine mj_T.if0 rfl ⟨by omega, by omega⟩ (fun hc23 => ?_) (fun hc23 => ?_)
    · rw [jup_zero, Nat.pow_zero, Nat.div_one]
      exact hend gi l7 l8 v (fun j hj => hg1 j (Nat.zero_le _) hj)
    · simp only [jc, decide_eq_false_iff_not] at hc23; omega
  | succ k ih =>
    intro v gi l7 l8 hv hk hg1 hg2
    have ev : v = k := by omega
    subst ev
    have hx1 := jlb_lt x k
    have hz1 := jlb_lt (x / f) k
    have hr := Nat.mod_lt (x / jB ^ (k + 1)) hf
    have hlim := jcut_limb (x := x) (f := f) (i := k) hf
    have hrest := jcut_rest (x := x) (f := f) (i := k) hf
    have hul := jup_le (x / f) (k + 1)
    refine mj_T.pl rfl rfl rfl rfl ?_
    refine mj_T.if0 rfl ⟨by omega, by omega⟩ (fun hc23 => ?_) (fun hc23 => ?_)
    · simp only [jc, decide_eq_true_eq] at hc23; omega
    · iterate 2 refine mj_T.pl rfl rfl rfl rfl ?_
      refine mj_T.lif (b := 0) rfl rfl ⟨by omega, by omega⟩ ⟨by omega, by omega⟩ (fun hc28 => ?_) (fun hc28 => ?_)
      · simp only [jc, decide_eq_true_eq] at hc28; omega
      · have t3 : ∀ (gi' : Nat → Int32) (l7 l8 : Option Value), gi' = upd gi k (jn (jlb (x / f) k)) → mj_T D mj_m97 89 [some (.ref 0), some (.long (jl f)), none, some (.long (jl (x / jB ^ k % f : Nat))), none, some (.int (jn (jup (x / f) (k + 1)))), some (.int (jn k)), l7, l8] [.int (jn (jup (x / f) k))] (jH1 n (z) g0 gi') Q := by
          intro gi' l7 l8 hgi
          subst hgi
          refine mj_T.pl rfl rfl rfl rfl ?_
          refine mj_T.iinc (a := k) rfl rfl ?_
          refine mj_T.pl rfl rfl rfl rfl ?_
          refine ih ((k : Int) + -1) (upd gi k (jn (jlb (x / f) k))) l7 l8 (by omega) (by omega) (fun j hj1 hj2 => ?_) (fun j hj => ?_)
          · unfold upd
            split
            · rename_i h; rw [h]
            · exact hg1 j (by omega) hj2
          · unfold upd
            rw [if_neg (by omega)]
            exact hg2 j (by omega)
        generalize hR : x / jB ^ (k + 1) % f = R at *
        have hlim : jlb (x / f) k = (R * 1000000000 + jlb x k) / f := hlim
        have hrest : x / jB ^ k % f = (R * 1000000000 + jlb x k) % f := hrest
        iterate 2 refine mj_T.pl rfl rfl rfl rfl ?_
        refine mj_T.lmul (b := 1000000000) rfl ?_
        iterate 3 refine mj_T.pl rfl rfl rfl rfl ?_
        refine mj_T.ialv rfl rfl ⟨by omega, by omega⟩ ⟨by omega, by omega⟩ ((hg2 k (by omega)).trans (hg k (by omega))) ?_
        refine mj_T.i2l rfl ⟨by omega, by omega⟩ ?_
        refine mj_T.ladd rfl ?_
        rw [show (R : Int) * 1000000000 + ((jlb x k : Nat) : Int) = ((R * 1000000000 + jlb x k : Nat) : Int) by rw [Int.natCast_add, Int.natCast_mul]; rfl]
        have hb2 : R * 1000000000 + jlb x k ≤ 1000000000000000000 := by omega
        iterate 6 refine mj_T.pl rfl rfl rfl rfl ?_
        refine mj_T.ldiv rfl ⟨by omega, by omega⟩ ⟨by omega, by omega⟩ (by omega) ?_
        rw [show ((R * 1000000000 + jlb x k : Nat) : Int).tdiv (f : Int) = ((jlb (x / f) k : Nat) : Int) by rw [hlim]; rfl]
        refine mj_T.l2i rfl ?_
        refine mj_T.iast rfl rfl ⟨by omega, by omega⟩ ⟨by omega, by omega⟩ ?_
        iterate 2 refine mj_T.pl rfl rfl rfl rfl ?_
        refine mj_T.lrem rfl ⟨by omega, by omega⟩ ⟨by omega, by omega⟩ (by omega) ?_
        rw [show ((R * 1000000000 + jlb x k : Nat) : Int).tmod (f : Int) = ((x / jB ^ k % f : Nat) : Int) by rw [hrest]; rfl]
        iterate 2 refine mj_T.pl rfl rfl rfl rfl ?_
        refine mj_T.if0 rfl ⟨by omega, by omega⟩ (fun hc67 => ?_) (fun hc67 => ?_)
        · simp only [jc, Bool.not_eq_true', decide_eq_false_iff_not] at hc67
          iterate 1 refine mj_T.pl rfl rfl rfl rfl ?_
          have e := jup_same (z := x / f) (k := k) (Or.inl (by omega))
          have t := t3 _ (some (.long (jl (R * 1000000000 + jlb x k : Nat)))) none rfl
          rw [e] at t
          exact t
        · simp only [jc, Bool.not_eq_false', decide_eq_true_eq] at hc67
          iterate 3 refine mj_T.pl rfl rfl rfl rfl ?_
          refine mj_T.ialv (z := (jlb (x / f) k : Nat)) rfl rfl ⟨by omega, by omega⟩ ⟨by omega, by omega⟩ (if_pos rfl) ?_
          refine mj_T.if0 rfl ⟨by omega, by omega⟩ (fun hc77 => ?_) (fun hc77 => ?_)
          · simp only [jc, decide_eq_true_eq] at hc77
            iterate 1 refine mj_T.pl rfl rfl rfl rfl ?_
            have e := jup_same (z := x / f) (k := k) (Or.inr (by omega))
            have t := t3 _ (some (.long (jl (R * 1000000000 + jlb x k : Nat)))) none rfl
            rw [e] at t
            exact t
          · simp only [jc, decide_eq_false_iff_not] at hc77
            iterate 2 refine mj_T.pl rfl rfl rfl rfl ?_
            refine mj_T.iadd (b := 1) rfl ?_
            refine mj_T.pl rfl rfl rfl rfl ?_
            have e := jup_new (z := x / f) (k := k) (by omega) (by omega)
            have t := t3 _ (some (.long (jl (R * 1000000000 + jlb x k : Nat)))) none rfl
            rw [e] at t
            exact t
theorem jw_cutS {D n x f z : Nat} {s : Int} {g : Nat → Int32} (hn : n < 2147483648) (hxz : jnl x ≤ z) (hf : 0 < f) (hf2 : f ≤ 1000000000) (hcap : z ≤ n) (hg : ∀ j, j < z → g j = jn (jlb x j)) :
    mj_Ok (D + 1) 97 [.ref 0, .long (jl f)] (jH1 n (z) (jn s) g) (fun r => ∃ g' : Nat → Int32, (∀ j, j < z → g' j = jn (jlb (x / f) j)) ∧ r = (.inl none, jH1 n (jnl (x / f)) (jn (if x / f = 0 then 0 else s)) g')) := by
  have hzx : jnl (x / f) ≤ z := Nat.le_trans (jnl_mono (Nat.div_le_self _ _)) hxz
  refine mj_Ok.of (M := mj_m97) rfl rfl rfl ?_
  iterate 8 refine mj_T.pl rfl rfl rfl rfl ?_
  refine mj_T.alen rfl rfl ?_
  refine mj_T.imin rfl rfl (Nat.le_of_ble_eq_true rfl) ⟨by omega, by omega⟩ ⟨by omega, by omega⟩ ?_
  rw [show min (z : Int) (n : Int) = (z : Nat) by omega]
  iterate 1 refine mj_T.pl rfl rfl rfl rfl ?_
  refine mj_T.isub (b := 1) rfl ?_
  iterate 1 refine mj_T.pl rfl rfl rfl rfl ?_
  refine mj_T.eq (jw_cutS_loop (x := x) (f := f) (g := g) hn hxz hf hf2 hcap hg (fun gi l7 l8 l6 hgi => ?_) (z) _ g none none rfl (Nat.le_refl _) (fun j hj1 hj2 => by omega) (fun j _ => rfl)) rfl ?_ rfl rfl
  · iterate 6 refine mj_T.pl rfl rfl rfl rfl ?_
    refine mj_T.if0 rfl ⟨by omega, by omega⟩ (fun hc108 => ?_) (fun hc108 => ?_)
    · simp only [jc, Bool.not_eq_true', decide_eq_false_iff_not] at hc108
      iterate 3 refine mj_T.pl rfl rfl rfl rfl ?_
      refine mj_T.ret rfl rfl rfl ⟨gi, hgi, ?_⟩
      rw [if_neg (fun h => hc108 (by rw [h]; exact congrArg Int.ofNat jnl_zero))]
      rfl
    · simp only [jc, Bool.not_eq_false', decide_eq_true_eq] at hc108
      have h0 : x / f = 0 := jnl_eq0.mp (by omega)
      iterate 3 refine mj_T.pl rfl rfl rfl rfl ?_
      refine mj_T.ret rfl rfl rfl ⟨gi, hgi, ?_⟩
      rw [if_pos h0]
      rfl
  · rw [jnl_le.mp hxz, Nat.zero_mod]
    rw [show jup (x / f) (z) = 0 by unfold jup; rw [if_neg (by omega)]]
    rfl
