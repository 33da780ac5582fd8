/-! Wide: cut. -/
theorem jcut_step (x f i : Nat) : x / jB ^ i = (x / jB ^ (i + 1) / f * jB) * f + (x / jB ^ (i + 1) % f * jB + jlb x i) := by
  conv => lhs; rw [jdiv x i, ← Nat.div_add_mod (x / jB ^ (i + 1)) f]
  rw [Nat.add_mul, Nat.add_assoc]
  congr 1
  simp only [Nat.mul_comm, Nat.mul_left_comm]
theorem jcut_limb {x f i : Nat} (hf : 0 < f) : jlb (x / f) i = (x / jB ^ (i + 1) % f * jB + jlb x i) / f := by
  have h1 : (x / jB ^ (i + 1) % f * jB + jlb x i) / f < jB := by
    rw [Nat.div_lt_iff_lt_mul hf]
    have h2 := Nat.mod_lt (x / jB ^ (i + 1)) hf
    have h3 : jlb x i < jB := jlb_lt x i
    exact Nat.lt_of_lt_of_le (Nat.add_lt_add_left h3 _) (by rw [Nat.mul_comm jB, ← Nat.succ_mul]; exact Nat.mul_le_mul_right _ h2)
  unfold jlb at h1 ⊢
  rw [Nat.div_div_eq_div_mul, Nat.mul_comm f, ← Nat.div_div_eq_div_mul]
  conv => lhs; rw [jcut_step x f i]
  rw [Nat.add_comm, Nat.add_mul_div_right _ _ hf, Nat.add_mul_mod_self_right]
  exact Nat.mod_eq_of_lt h1
theorem jcut_rest {x f i : Nat} (hf : 0 < f) : x / jB ^ i % f = (x / jB ^ (i + 1) % f * jB + jlb x i) % f := by
  conv => lhs; rw [jcut_step x f i]
  rw [Nat.add_comm, Nat.add_mul_mod_self_right]
/-- the limbs' number above k, if there is one -/
def jup (z k : Nat) : Nat := if k < jnl z then jnl z else 0
theorem jup_same {z k : Nat} (h : jup z (k + 1) ≠ 0 ∨ jlb z k = 0) : jup z k = jup z (k + 1) := by
  unfold jup at h ⊢
  by_cases h1 : k + 1 < jnl z
  · rw [if_pos h1, if_pos (by omega)]
  · rw [if_neg h1] at h ⊢
    rw [if_neg]
    intro h2
    rcases h with h | h
    · exact h rfl
    · exact jlb_top (x := z) (j := k) (by omega) h
theorem jup_new {z k : Nat} (h : jup z (k + 1) = 0) (hl : jlb z k ≠ 0) : jup z k = k + 1 := by
  unfold jup at h ⊢
  have h1 : ¬ k + 1 < jnl z := fun q => by rw [if_pos q] at h; omega
  have h2 : k < jnl z := Decidable.byContradiction fun q => hl (jlb_high (by omega))
  rw [if_pos h2]
  omega
theorem jup_zero (z : Nat) : jup z 0 = jnl z := by
  unfold jup
  split <;> omega
theorem jup_le (z k : Nat) : jup z k ≤ jnl z := by
  unfold jup
  split <;> omega
theorem jw_cut_loop {D n x f : Nat} {g0 : Int32} {g : Nat → Int32} (hn : n < 2147483648) (hf : 0 < f) (hf2 : f ≤ 1000000000) (hcap : jnl x ≤ n) (hg : ∀ j, j < jnl x → g j = jn (jlb x j)) {Q : mj_R → Prop}
    (hend : ∀ (gi : Nat → Int32) (l7 l8 : Option Value) (l6 : Int), (∀ j, j < jnl x → gi j = jn (jlb (x / f) j)) → mj_T D mj_m97 97 [some (.ref 0), some (.long (jl f)), none, some (.long (jl (x % f : Nat))), none, some (.int (jn (jnl (x / f)))), some (.int (jn l6)), l7, l8] [] (jH1 n (jnl x) g0 gi) Q) :
    ∀ (k : Nat) (v : Int) (gi : Nat → Int32) (l7 l8 : Option Value), v = (k : Int) - 1 → k ≤ jnl x → (∀ j, k ≤ j → j < jnl x → gi j = jn (jlb (x / f) j)) → (∀ j, j < k → gi j = g j) →
      mj_T D mj_m97 21 [some (.ref 0), some (.long (jl f)), none, some (.long (jl (x / jB ^ k % f : Nat))), none, some (.int (jn (jup (x / f) k))), some (.int (jn v)), l7, l8] [] (jH1 n (jnl x) g0 gi) Q := by
  intro k
  have hzx : jnl (x / f) ≤ jnl x := jnl_mono (Nat.div_le_self _ _)
  induction k with
  | zero =>
    intro v gi l7 l8 hv hk hg1 hg2
    refine mj_T.pl rfl rfl rfl rfl ?_
    refine mj_T.if0 rfl ⟨by omega, by omega⟩ (fun hc23 => ?_) (fun hc23 => ?_)
    · rw [jup_zero, Nat.pow_zero, Nat.div_one]
      exact hend gi l7 l8 v (fun j hj => hg1 j (Nat.zero_le _) hj)
    · simp only [jc, decide_eq_false_iff_not] at hc23; omega
  | succ k ih =>
    intro v gi l7 l8 hv hk hg1 hg2
    have ev : v = k := by omega
    subst ev
    have hx1 := jlb_lt x k
    have hz1 := jlb_lt (x / f) k
    have hr := Nat.mod_lt (x / jB ^ (k + 1)) hf
    have hlim := jcut_limb (x := x) (f := f) (i := k) hf
    have hrest := jcut_rest (x := x) (f := f) (i := k) hf
    have hul := jup_le (x / f) (k + 1)
    refine mj_T.pl rfl rfl rfl rfl ?_
    refine mj_T.if0 rfl ⟨by omega, by omega⟩ (fun hc23 => ?_) (fun hc23 => ?_)
    · simp only [jc, decide_eq_true_eq] at hc23; omega
    · iterate 2 refine mj_T.pl rfl rfl rfl rfl ?_
      refine mj_T.lif (b := 0) rfl rfl ⟨by omega, by omega⟩ ⟨by omega, by omega⟩ (fun hc28 => ?_) (fun hc28 => ?_)
      · simp only [jc, decide_eq_true_eq] at hc28; omega
      · have t3 : ∀ (gi' : Nat → Int32) (l7 l8 : Option Value), gi' = upd gi k (jn (jlb (x / f) k)) → mj_T D mj_m97 89 [some (.ref 0), some (.long (jl f)), none, some (.long (jl (x / jB ^ k % f : Nat))), none, some (.int (jn (jup (x / f) (k + 1)))), some (.int (jn k)), l7, l8] [.int (jn (jup (x / f) k))] (jH1 n (jnl x) g0 gi') Q := by
          intro gi' l7 l8 hgi
          subst hgi
          refine mj_T.pl rfl rfl rfl rfl ?_
          refine mj_T.iinc (a := k) rfl rfl ?_
          refine mj_T.pl rfl rfl rfl rfl ?_
          refine ih ((k : Int) + -1) (upd gi k (jn (jlb (x / f) k))) l7 l8 (by omega) (by omega) (fun j hj1 hj2 => ?_) (fun j hj => ?_)
          · unfold upd
            split
            · rename_i h; rw [h]
            · exact hg1 j (by omega) hj2
          · unfold upd
            rw [if_neg (by omega)]
            exact hg2 j (by omega)
        generalize hR : x / jB ^ (k + 1) % f = R at *
        have hlim : jlb (x / f) k = (R * 1000000000 + jlb x k) / f := hlim
        have hrest : x / jB ^ k % f = (R * 1000000000 + jlb x k) % f := hrest
        iterate 2 refine mj_T.pl rfl rfl rfl rfl ?_
        refine mj_T.lmul (b := 1000000000) rfl ?_
        iterate 3 refine mj_T.pl rfl rfl rfl rfl ?_
        refine mj_T.ialv rfl rfl ⟨by omega, by omega⟩ ⟨by omega, by omega⟩ ((hg2 k (by omega)).trans (hg k (by omega))) ?_
        refine mj_T.i2l rfl ⟨by omega, by omega⟩ ?_
        refine mj_T.ladd rfl ?_
        rw [show (R : Int) * 1000000000 + ((jlb x k : Nat) : Int) = ((R * 1000000000 + jlb x k : Nat) : Int) by rw [Int.natCast_add, Int.natCast_mul]; rfl]
        have hb2 : R * 1000000000 + jlb x k ≤ 1000000000000000000 := by omega
        iterate 6 refine mj_T.pl rfl rfl rfl rfl ?_
        refine mj_T.ldiv rfl ⟨by omega, by omega⟩ ⟨by omega, by omega⟩ (by omega) ?_
        rw [show ((R * 1000000000 + jlb x k : Nat) : Int).tdiv (f : Int) = ((jlb (x / f) k : Nat) : Int) by rw [hlim]; rfl]
        refine mj_T.l2i rfl ?_
        refine mj_T.iast rfl rfl ⟨by omega, by omega⟩ ⟨by omega, by omega⟩ ?_
        iterate 2 refine mj_T.pl rfl rfl rfl rfl ?_
        refine mj_T.lrem rfl ⟨by omega, by omega⟩ ⟨by omega, by omega⟩ (by omega) ?_
        rw [show ((R * 1000000000 + jlb x k : Nat) : Int).tmod (f : Int) = ((x / jB ^ k % f : Nat) : Int) by rw [hrest]; rfl]
        iterate 2 refine mj_T.pl rfl rfl rfl rfl ?_
        refine mj_T.if0 rfl ⟨by omega, by omega⟩ (fun hc67 => ?_) (fun hc67 => ?_)
        · simp only [jc, Bool.not_eq_true', decide_eq_false_iff_not] at hc67
          iterate 1 refine mj_T.pl rfl rfl rfl rfl ?_
          have e := jup_same (z := x / f) (k := k) (Or.inl (by omega))
          have t := t3 _ (some (.long (jl (R * 1000000000 + jlb x k : Nat)))) none rfl
          rw [e] at t
          exact t
        · simp only [jc, Bool.not_eq_false', decide_eq_true_eq] at hc67
          iterate 3 refine mj_T.pl rfl rfl rfl rfl ?_
          refine mj_T.ialv (z := (jlb (x / f) k : Nat)) rfl rfl ⟨by omega, by omega⟩ ⟨by omega, by omega⟩ (if_pos rfl) ?_
          refine mj_T.if0 rfl ⟨by omega, by omega⟩ (fun hc77 => ?_) (fun hc77 => ?_)
          · simp only [jc, decide_eq_true_eq] at hc77
            iterate 1 refine mj_T.pl rfl rfl rfl rfl ?_
            have e := jup_same (z := x / f) (k := k) (Or.inr (by omega))
            have t := t3 _ (some (.long (jl (R * 1000000000 + jlb x k : Nat)))) none rfl
            rw [e] at t
            exact t
          · simp only [jc, decide_eq_false_iff_not] at hc77
            iterate 2 refine mj_T.pl rfl rfl rfl rfl ?_
            refine mj_T.iadd (b := 1) rfl ?_
            refine mj_T.pl rfl rfl rfl rfl ?_
            have e := jup_new (z := x / f) (k := k) (by omega) (by omega)
            have t := t3 _ (some (.long (jl (R * 1000000000 + jlb x k : Nat)))) none rfl
            rw [e] at t
            exact t
theorem jw_cut {D n x f : Nat} {s : Int} {g : Nat → Int32} (hn : n < 2147483648) (hf : 0 < f) (hf2 : f ≤ 1000000000) (hcap : jnl x ≤ n) (hg : ∀ j, j < jnl x → g j = jn (jlb x j)) :
    mj_Ok (D + 1) 97 [.ref 0, .long (jl f)] (jH1 n (jnl x) (jn s) g) (fun r => ∃ g' : Nat → Int32, (∀ j, j < jnl x → g' j = jn (jlb (x / f) j)) ∧ r = (.inl none, jH1 n (jnl (x / f)) (jn (if x / f = 0 then 0 else s)) g')) := by
  have hzx : jnl (x / f) ≤ jnl x := jnl_mono (Nat.div_le_self _ _)
  refine mj_Ok.of (M := mj_m97) rfl rfl rfl ?_
  iterate 8 refine mj_T.pl rfl rfl rfl rfl ?_
  refine mj_T.alen rfl rfl ?_
  refine mj_T.imin rfl rfl (Nat.le_of_ble_eq_true rfl) ⟨by omega, by omega⟩ ⟨by omega, by omega⟩ ?_
  rw [show min (jnl x : Int) (n : Int) = (jnl x : Nat) by omega]
  iterate 1 refine mj_T.pl rfl rfl rfl rfl ?_
  refine mj_T.isub (b := 1) rfl ?_
  iterate 1 refine mj_T.pl rfl rfl rfl rfl ?_
  refine mj_T.eq (jw_cut_loop (x := x) (f := f) (g := g) hn hf hf2 hcap hg (fun gi l7 l8 l6 hgi => ?_) (jnl x) _ g none none rfl (Nat.le_refl _) (fun j hj1 hj2 => by omega) (fun j _ => rfl)) rfl ?_ rfl rfl
  · iterate 6 refine mj_T.pl rfl rfl rfl rfl ?_
    refine mj_T.if0 rfl ⟨by omega, by omega⟩ (fun hc108 => ?_) (fun hc108 => ?_)
    · simp only [jc, Bool.not_eq_true', decide_eq_false_iff_not] at hc108
      iterate 3 refine mj_T.pl rfl rfl rfl rfl ?_
      refine mj_T.ret rfl rfl rfl ⟨gi, hgi, ?_⟩
      rw [if_neg (fun h => hc108 (by rw [h]; exact congrArg Int.ofNat jnl_zero))]
      rfl
    · simp only [jc, Bool.not_eq_false', decide_eq_true_eq] at hc108
      have h0 : x / f = 0 := jnl_eq0.mp (by omega)
      iterate 3 refine mj_T.pl rfl rfl rfl rfl ?_
      refine mj_T.ret rfl rfl rfl ⟨gi, hgi, ?_⟩
      rw [if_pos h0]
      rfl
  · rw [jnl_le.mp (Nat.le_refl (jnl x)), Nat.zero_mod]
    rw [show jup (x / f) (jnl x) = 0 by unfold jup; rw [if_neg (by omega)]]
    rfl
