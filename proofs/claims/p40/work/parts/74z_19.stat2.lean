/-! Common divisors, contents, degrees of rows, exactly. -/
theorem loc171 {p q a b a' b' : Int} (ha : a = a') (hb : b = b') : [some (Value.long (jl p)), none, some (.long (jl q)), none, some (.long (jl a)), none, some (.long (jl b)), none, some (.int (jn 0)), none, none] = [some (Value.long (jl p)), none, some (.long (jl q)), none, some (.long (jl a')), none, some (.long (jl b')), none, some (.int (jn 0)), none, none] := by
  subst ha
  subst hb
  rfl
theorem two126 {a b : Nat} (ha : a < 9223372036854775808) (hb : b < 9223372036854775808) : a * b < 2 ^ 126 := by
  have h1 : a * b ≤ 9223372036854775807 * 9223372036854775807 := Nat.mul_le_mul (by omega) (by omega)
  have h2 : 9223372036854775807 * 9223372036854775807 < 2 ^ 126 := by decide +kernel
  omega
/-- the greatest number that divides the first ones -/
def cgd (f : Nat → Int) : Nat → Nat
  | 0 => 0
  | k + 1 => Nat.gcd (cgd f k) (f k).natAbs
theorem cgd_dvd (f : Nat → Int) : ∀ k i, i < k → cgd f k ∣ (f i).natAbs
  | 0, i, h => absurd h (by omega)
  | k + 1, i, h => by
    show Nat.gcd (cgd f k) (f k).natAbs ∣ _
    by_cases c : i = k
    · rw [c]
      exact Nat.gcd_dvd_right _ _
    · exact Nat.dvd_trans (Nat.gcd_dvd_left _ _) (cgd_dvd f k i (by omega))
theorem cgd_max (f : Nat → Int) (d : Nat) : ∀ k, (∀ i, i < k → d ∣ (f i).natAbs) → d ∣ cgd f k
  | 0, _ => Nat.dvd_zero d
  | k + 1, h => Nat.dvd_gcd (cgd_max f d k (fun i hi => h i (by omega))) (h k (by omega))
theorem cgd_bd {f : Nat → Int} {M : Nat} : ∀ k, (∀ i, i < k → (f i).natAbs ≤ M) → cgd f k ≤ M
  | 0, _ => Nat.zero_le _
  | k + 1, h => by
    show Nat.gcd (cgd f k) (f k).natAbs ≤ M
    by_cases c : (f k).natAbs = 0
    · rw [c, Nat.gcd_zero_right]
      exact cgd_bd k (fun i hi => h i (by omega))
    · exact Nat.le_trans (Nat.le_of_dvd (by omega) (Nat.gcd_dvd_right _ _)) (h k (by omega))
theorem cgd_0 {f : Nat → Int} {k : Nat} (h : cgd f k = 0) : ∀ i, i < k → f i = 0 := fun i hi => by
  have h1 := cgd_dvd f k i hi
  rw [h] at h1
  have := Nat.eq_zero_of_zero_dvd h1
  omega
/-- with the sign of the leading coefficient -/
def sgc (f : Nat → Int) : Int := if 0 < fdg f 13 ∧ f (fdg f 13 - 1) < 0 then -(cgd f 13 : Int) else (cgd f 13 : Int)
theorem fdg_flat {f : Nat → Int} {a b : Nat} (h : a ≤ b) (hz : ∀ i, a ≤ i → i < b → f i = 0) : fdg f b = fdg f a := by
  induction b with
  | zero => rw [show a = 0 by omega]
  | succ b ih =>
    by_cases c : a = b + 1
    · rw [c]
    · rw [fdg_succ, if_pos (hz b (by omega) (by omega))]
      exact ih (by omega) (fun i h1 h2 => hz i h1 (by omega))
section MSU
variable {g h : mj_H} {n D r : Nat} {V : Nat → Int} {X : Nat → Nat → Int}
theorem mS_common {p q : Int} (hp : p.natAbs < 9223372036854775808) (hq : q.natAbs < 9223372036854775808) : mj_Ok (D + 1) 171 [.long (jl p), .long (jl q)] h (fun z => z = (.inl (some (.long (jl (Nat.gcd p.natAbs q.natAbs : Nat)))), h)) := by
  refine mj_Ok.of (M := mj_m171) rfl rfl rfl ?_
  have fin : mj_T D mj_m171 31 [some (.long (jl p)), none, some (.long (jl q)), none, some (.long (jl ((p.natAbs : Nat) : Int))), none, some (.long (jl ((q.natAbs : Nat) : Int))), none, some (.int (jn 0)), none, none] [] h (fun z => z = (.inl (some (.long (jl (Nat.gcd p.natAbs q.natAbs : Nat)))), h)) := by
    rcases Nat.lt_or_ge p.natAbs q.natAbs with hlt | hge
    · show mj_T D mj_m171 31 [some (.long (jl p)), none, some (.long (jl q)), none, some (.long (jl ((p.natAbs : Nat) : Int))), none, some (.long (jl ((q.natAbs : Nat) : Int))), none, some (.int (jn ((0 : Nat) : Int))), none, none] [] h _
      iterate 2 refine mj_T.pl rfl rfl rfl rfl ?_
      refine mj_T.icmp (a := ((0 : Nat) : Int)) (b := 130) rfl ⟨by omega, by omega⟩ ⟨by omega, by omega⟩ (fun c41 => ?_) (fun c41 => ?_)
      · exfalso
        simp [jc] at c41
      · simp only [jc, Bool.not_eq_true', Bool.not_eq_false', decide_eq_true_eq, decide_eq_false_iff_not] at c41
        refine mj_T.pl rfl rfl rfl rfl ?_
        refine jT.lc 0 rfl rfl ?_
        refine mj_T.lif (a := ((q.natAbs : Nat) : Int)) (b := ((0 : Nat) : Int)) rfl rfl ⟨by omega, by omega⟩ jR_0 (fun c42 => ?_) (fun c42 => ?_)
        · exfalso
          simp only [jc, Bool.not_eq_true', Bool.not_eq_false', decide_eq_true_eq, decide_eq_false_iff_not] at c42
          omega
        · simp only [jc, Bool.not_eq_true', Bool.not_eq_false', decide_eq_true_eq, decide_eq_false_iff_not] at c42
          iterate 2 refine mj_T.pl rfl rfl rfl rfl ?_
          refine mj_T.lrem (a := ((p.natAbs : Nat) : Int)) (b := ((q.natAbs : Nat) : Int)) rfl ⟨by omega, by omega⟩ ⟨by omega, by omega⟩ (by omega) ?_
          rw [show (((p.natAbs : Nat) : Int)).tmod ((q.natAbs : Nat) : Int) = ((p.natAbs : Nat) : Int) from Int.tmod_eq_of_lt (by omega) (by omega)]
          refine mj_T.pl (loc' := [some (.long (jl p)), none, some (.long (jl q)), none, some (.long (jl ((p.natAbs : Nat) : Int))), none, some (.long (jl ((q.natAbs : Nat) : Int))), none, some (.int (jn ((0 : Nat) : Int))), some (.long (jl ((p.natAbs : Nat) : Int))), none]) rfl rfl rfl rfl ?_
          refine mj_T.pl rfl rfl rfl rfl ?_
          refine mj_T.pl (loc' := [some (.long (jl p)), none, some (.long (jl q)), none, some (.long (jl ((q.natAbs : Nat) : Int))), none, some (.long (jl ((q.natAbs : Nat) : Int))), none, some (.int (jn ((0 : Nat) : Int))), some (.long (jl ((p.natAbs : Nat) : Int))), none]) rfl rfl rfl rfl ?_
          refine mj_T.pl rfl rfl rfl rfl ?_
          refine mj_T.pl (loc' := [some (.long (jl p)), none, some (.long (jl q)), none, some (.long (jl ((q.natAbs : Nat) : Int))), none, some (.long (jl ((p.natAbs : Nat) : Int))), none, some (.int (jn ((0 : Nat) : Int))), some (.long (jl ((p.natAbs : Nat) : Int))), none]) rfl rfl rfl rfl ?_
          refine mj_T.iinc rfl rfl ?_
          rw [show ((0 : Nat) : Int) + 1 = ((0 + 1 : Nat) : Int) by omega]
          refine mj_T.eq (loc2 := [some (.long (jl p)), none, some (.long (jl q)), none, some (.long (jl ((q.natAbs : Nat) : Int))), none, some (.long (jl ((p.natAbs : Nat) : Int))), none, some (.int (jn (((0 + 1) : Nat) : Int))), some (.long (jl ((p.natAbs : Nat) : Int))), none]) ?_ rfl rfl rfl rfl
          refine mj_T.pl rfl rfl rfl rfl ?_
          exact mS_cm_loop (Q := fun z => z = (.inl (some (.long (jl (Nat.gcd p.natAbs q.natAbs : Nat)))), h)) (gg := Nat.gcd p.natAbs q.natAbs) rfl 126 q.natAbs p.natAbs 1 _ _ (Nat.gcd_comm _ _) (by omega) (by omega) (by omega) (two126 (by omega) (by omega)) (by omega)
    · exact mS_cm_loop (Q := fun z => z = (.inl (some (.long (jl (Nat.gcd p.natAbs q.natAbs : Nat)))), h)) (gg := Nat.gcd p.natAbs q.natAbs) rfl 126 p.natAbs q.natAbs 0 _ _ rfl (by omega) (by omega) hge (two126 (by omega) (by omega)) (by omega)
  refine mj_T.pl rfl rfl rfl rfl ?_
  refine jT.lc 0 rfl rfl ?_
  refine mj_T.lif (a := p) (b := ((0 : Nat) : Int)) rfl rfl ⟨by omega, by omega⟩ jR_0 (fun c1 => ?_) (fun c1 => ?_)
  · simp only [jc, Bool.not_eq_true', Bool.not_eq_false', decide_eq_true_eq, decide_eq_false_iff_not] at c1
    refine mj_T.pl rfl rfl rfl rfl ?_
    refine mj_T.pl (loc' := [some (.long (jl p)), none, some (.long (jl q)), none, some (.long (jl p)), none, none, none, none, none, none]) rfl rfl rfl rfl ?_
    refine mj_T.pl rfl rfl rfl rfl ?_
    refine jT.lc 0 rfl rfl ?_
    refine mj_T.lif (a := q) (b := ((0 : Nat) : Int)) rfl rfl ⟨by omega, by omega⟩ jR_0 (fun c2 => ?_) (fun c2 => ?_)
    · simp only [jc, Bool.not_eq_true', Bool.not_eq_false', decide_eq_true_eq, decide_eq_false_iff_not] at c2
      refine mj_T.pl rfl rfl rfl rfl ?_
      refine mj_T.pl (loc' := [some (.long (jl p)), none, some (.long (jl q)), none, some (.long (jl p)), none, some (.long (jl q)), none, none, none, none]) rfl rfl rfl rfl ?_
      refine mj_T.pl rfl rfl rfl rfl ?_
      refine mj_T.pl (loc' := [some (.long (jl p)), none, some (.long (jl q)), none, some (.long (jl p)), none, some (.long (jl q)), none, some (.int (jn 0)), none, none]) rfl rfl rfl rfl ?_
      exact mj_T.eq fin rfl (loc171 (by omega) (by omega)) rfl rfl
    · simp only [jc, Bool.not_eq_true', Bool.not_eq_false', decide_eq_true_eq, decide_eq_false_iff_not] at c2
      refine mj_T.pl rfl rfl rfl rfl ?_
      refine mj_T.lneg rfl ?_
      refine mj_T.pl rfl rfl rfl rfl ?_
      refine mj_T.pl (loc' := [some (.long (jl p)), none, some (.long (jl q)), none, some (.long (jl p)), none, some (.long (jl (-q))), none, none, none, none]) rfl rfl rfl rfl ?_
      refine mj_T.pl rfl rfl rfl rfl ?_
      refine mj_T.pl (loc' := [some (.long (jl p)), none, some (.long (jl q)), none, some (.long (jl p)), none, some (.long (jl (-q))), none, some (.int (jn 0)), none, none]) rfl rfl rfl rfl ?_
      exact mj_T.eq fin rfl (loc171 (by omega) (by omega)) rfl rfl
  · simp only [jc, Bool.not_eq_true', Bool.not_eq_false', decide_eq_true_eq, decide_eq_false_iff_not] at c1
    refine mj_T.pl rfl rfl rfl rfl ?_
    refine mj_T.lneg rfl ?_
    refine mj_T.pl rfl rfl rfl rfl ?_
    refine mj_T.pl (loc' := [some (.long (jl p)), none, some (.long (jl q)), none, some (.long (jl (-p))), none, none, none, none, none, none]) rfl rfl rfl rfl ?_
    refine mj_T.pl rfl rfl rfl rfl ?_
    refine jT.lc 0 rfl rfl ?_
    refine mj_T.lif (a := q) (b := ((0 : Nat) : Int)) rfl rfl ⟨by omega, by omega⟩ jR_0 (fun c3 => ?_) (fun c3 => ?_)
    · simp only [jc, Bool.not_eq_true', Bool.not_eq_false', decide_eq_true_eq, decide_eq_false_iff_not] at c3
      refine mj_T.pl rfl rfl rfl rfl ?_
      refine mj_T.pl (loc' := [some (.long (jl p)), none, some (.long (jl q)), none, some (.long (jl (-p))), none, some (.long (jl q)), none, none, none, none]) rfl rfl rfl rfl ?_
      refine mj_T.pl rfl rfl rfl rfl ?_
      refine mj_T.pl (loc' := [some (.long (jl p)), none, some (.long (jl q)), none, some (.long (jl (-p))), none, some (.long (jl q)), none, some (.int (jn 0)), none, none]) rfl rfl rfl rfl ?_
      exact mj_T.eq fin rfl (loc171 (by omega) (by omega)) rfl rfl
    · simp only [jc, Bool.not_eq_true', Bool.not_eq_false', decide_eq_true_eq, decide_eq_false_iff_not] at c3
      refine mj_T.pl rfl rfl rfl rfl ?_
      refine mj_T.lneg rfl ?_
      refine mj_T.pl rfl rfl rfl rfl ?_
      refine mj_T.pl (loc' := [some (.long (jl p)), none, some (.long (jl q)), none, some (.long (jl (-p))), none, some (.long (jl (-q))), none, none, none, none]) rfl rfl rfl rfl ?_
      refine mj_T.pl rfl rfl rfl rfl ?_
      refine mj_T.pl (loc' := [some (.long (jl p)), none, some (.long (jl q)), none, some (.long (jl (-p))), none, some (.long (jl (-q))), none, some (.int (jn 0)), none, none]) rfl rfl rfl rfl ?_
      exact mj_T.eq fin rfl (loc171 (by omega) (by omega)) rfl rfl
theorem mS_cont_loop (m : jM g n V X h) (kr : cK r = 2) (hr : sml (X r)) {Q : mj_R → Prop} (hend : Q (.inl (some (.long (jl (cgd (X r) 13 : Nat)))), h)) : ∀ k i, i + k = 13 → mj_T (D + 1) mj_m169 4 [some (.ref r), some (.long (jl ((cgd (X r) i : Nat) : Int))), none, some (.int (jn (i : Int)))] [] h Q
  | 0, i, hi => by
    iterate 2 refine mj_T.pl rfl rfl rfl rfl ?_
    refine mT_llen m kr rfl ?_
    refine mj_T.icmp (a := ((i : Nat) : Int)) (b := ((13 : Nat) : Int)) rfl ⟨by omega, by omega⟩ ⟨by omega, by omega⟩ (fun c1 => ?_) (fun c1 => ?_)
    · simp only [jc, Bool.not_eq_true', Bool.not_eq_false', decide_eq_true_eq, decide_eq_false_iff_not] at c1
      refine mj_T.pl rfl rfl rfl rfl ?_
      refine mj_T.ret rfl rfl rfl ?_
      rw [show i = 13 by omega]
      exact hend
    · exfalso
      simp only [jc, Bool.not_eq_true', Bool.not_eq_false', decide_eq_true_eq, decide_eq_false_iff_not] at c1
      omega
  | k + 1, i, hi => by
    have hx := hr i (by omega)
    have hc := cgd_bd (f := X r) (M := 999999999999999999) i (fun j hj => hr j (by omega))
    iterate 2 refine mj_T.pl rfl rfl rfl rfl ?_
    refine mT_llen m kr rfl ?_
    refine mj_T.icmp (a := ((i : Nat) : Int)) (b := ((13 : Nat) : Int)) rfl ⟨by omega, by omega⟩ ⟨by omega, by omega⟩ (fun c1 => ?_) (fun c1 => ?_)
    · exfalso
      simp only [jc, Bool.not_eq_true', Bool.not_eq_false', decide_eq_true_eq, decide_eq_false_iff_not] at c1
      omega
    · simp only [jc, Bool.not_eq_true', Bool.not_eq_false', decide_eq_true_eq, decide_eq_false_iff_not] at c1
      iterate 3 refine mj_T.pl rfl rfl rfl rfl ?_
      refine mT_lald m kr rfl ⟨by omega, by omega⟩ ?_
      refine mj_T.eq (st2 := [.long (jl (X r i)), .long (jl ((cgd (X r) i : Nat) : Int))]) ?_ rfl rfl rfl rfl
      refine mj_T.call rfl rfl (Nat.le_of_ble_eq_true rfl) (Nat.le_of_ble_eq_true rfl) rfl rfl (mj_Ok.up (by omega) (mS_common (D := 0) (p := ((cgd (X r) i : Nat) : Int)) (q := (X r i)) (by omega) (by omega))) (fun v g2 hq => ?_) (fun i g2 hq => ?_)
      rotate_left
      · cases hq
      cases hq
      refine mj_T.eq (pc2 := 17) (st2 := [.long (jl ((Nat.gcd (((cgd (X r) i : Nat) : Int)).natAbs ((X r i)).natAbs : Nat) : Int))]) ?_ rfl rfl rfl rfl
      refine mj_T.pl (loc' := [some (.ref r), some (.long (jl ((Nat.gcd (((cgd (X r) i : Nat) : Int)).natAbs ((X r i)).natAbs : Nat) : Int))), none, some (.int (jn ((i : Nat) : Int)))]) rfl rfl rfl rfl ?_
      refine mj_T.iinc rfl rfl ?_
      rw [show ((i : Nat) : Int) + 1 = ((i + 1 : Nat) : Int) by omega]
      refine mj_T.eq (loc2 := [some (.ref r), some (.long (jl ((Nat.gcd (((cgd (X r) i : Nat) : Int)).natAbs ((X r i)).natAbs : Nat) : Int))), none, some (.int (jn (((i + 1) : Nat) : Int)))]) ?_ rfl rfl rfl rfl
      refine mj_T.pl rfl rfl rfl rfl ?_
      exact mS_cont_loop m kr hr hend k (i + 1) (by omega)
theorem mS_cont (m : jM g n V X h) (kr : cK r = 2) (hr : sml (X r)) : mj_Ok (D + 2) 169 [.ref r] h (fun z => z = (.inl (some (.long (jl (cgd (X r) 13 : Nat)))), h)) := by
  refine mj_Ok.of (M := mj_m169) rfl rfl rfl ?_
  refine jT.lc 0 rfl rfl ?_
  refine mj_T.pl (loc' := [some (.ref r), some (.long (jl ((0 : Nat) : Int))), none, none]) rfl rfl rfl rfl ?_
  refine mj_T.pl rfl rfl rfl rfl ?_
  refine mj_T.pl (loc' := [some (.ref r), some (.long (jl ((0 : Nat) : Int))), none, some (.int (jn 0))]) rfl rfl rfl rfl ?_
  exact mS_cont_loop (Q := fun z => z = (.inl (some (.long (jl (cgd (X r) 13 : Nat)))), h)) m kr hr rfl 13 0 (by omega)
theorem mS_deg_loop (m : jM g n V X h) (kr : cK r = 2) (hr : sml (X r)) {Q : mj_R → Prop} (hend : Q (.inl (some (.int (jn ((fdg (X r) 13 : Int) - 1)))), h)) : ∀ k : Nat, k ≤ 13 → fdg (X r) 13 = fdg (X r) k → mj_T D mj_m162 5 [some (.ref r), some (.int (jn ((k : Int) - 1)))] [] h Q
  | 0, hl, hk => by
    refine mj_T.pl rfl rfl rfl rfl ?_
    refine mj_T.if0 (a := (((0 : Nat) : Int) - 1)) rfl ⟨by omega, by omega⟩ (fun c1 => ?_) (fun c1 => ?_)
    · simp only [jc, Bool.not_eq_true', Bool.not_eq_false', decide_eq_true_eq, decide_eq_false_iff_not] at c1
      refine mj_T.pl rfl rfl rfl rfl ?_
      refine mj_T.ret rfl rfl rfl ?_
      rw [hk] at hend
      exact hend
    · exfalso
      simp only [jc, Bool.not_eq_true', Bool.not_eq_false', decide_eq_true_eq, decide_eq_false_iff_not] at c1
      omega
  | k + 1, hl, hk => by
    have hx := hr k (by omega)
    rw [show ((k + 1 : Nat) : Int) - 1 = (k : Int) by omega]
    refine mj_T.pl rfl rfl rfl rfl ?_
    refine mj_T.if0 (a := ((k : Nat) : Int)) rfl ⟨by omega, by omega⟩ (fun c1 => ?_) (fun c1 => ?_)
    · exfalso
      simp only [jc, Bool.not_eq_true', Bool.not_eq_false', decide_eq_true_eq, decide_eq_false_iff_not] at c1
      omega
    · simp only [jc, Bool.not_eq_true', Bool.not_eq_false', decide_eq_true_eq, decide_eq_false_iff_not] at c1
      iterate 2 refine mj_T.pl rfl rfl rfl rfl ?_
      refine mT_lald m kr rfl ⟨by omega, by omega⟩ ?_
      refine mj_T.eq (st2 := [.long (jl (X r k))]) ?_ rfl rfl rfl rfl
      refine jT.lc 0 rfl rfl ?_
      refine mj_T.lif (a := (X r k)) (b := ((0 : Nat) : Int)) rfl rfl ⟨by omega, by omega⟩ jR_0 (fun c2 => ?_) (fun c2 => ?_)
      · simp only [jc, Bool.not_eq_true', Bool.not_eq_false', decide_eq_true_eq, decide_eq_false_iff_not] at c2
        refine mj_T.iinc rfl rfl ?_
        refine mj_T.eq (loc2 := [some (.ref r), some (.int (jn (((k : Nat) : Int) + (-1))))]) ?_ rfl rfl rfl rfl
        refine mj_T.pl rfl rfl rfl rfl ?_
        rw [show (((k : Nat) : Int) + (-1)) = (k : Int) - 1 by omega]
        exact mS_deg_loop m kr hr hend k (by omega) (by rw [hk, fdg_succ, if_pos (by omega)])
      · simp only [jc, Bool.not_eq_true', Bool.not_eq_false', decide_eq_true_eq, decide_eq_false_iff_not] at c2
        refine mj_T.pl rfl rfl rfl rfl ?_
        refine mj_T.ret rfl rfl rfl ?_
        rw [hk, fdg_succ, if_neg (by omega), show ((k + 1 : Nat) : Int) - 1 = (k : Int) by omega] at hend
        exact hend
theorem mS_deg (m : jM g n V X h) (kr : cK r = 2) (hr : sml (X r)) : mj_Ok (D + 1) 162 [.ref r] h (fun z => z = (.inl (some (.int (jn ((fdg (X r) 13 : Int) - 1)))), h)) := by
  refine mj_Ok.of (M := mj_m162) rfl rfl rfl ?_
  refine mj_T.pl rfl rfl rfl rfl ?_
  refine mT_llen m kr rfl ?_
  refine mj_T.pl rfl rfl rfl rfl ?_
  refine mj_T.isub (a := ((13 : Nat) : Int)) (b := 1) rfl ?_
  refine mj_T.pl (loc' := [some (.ref r), some (.int (jn (((13 : Nat) : Int) - 1)))]) rfl rfl rfl rfl ?_
  exact mS_deg_loop (Q := fun z => z = (.inl (some (.int (jn ((fdg (X r) 13 : Int) - 1)))), h)) m kr hr rfl 13 (Nat.le_refl 13) rfl
theorem mS_scont (m : jM g n V X h) (kr : cK r = 2) (hr : sml (X r)) : mj_Ok (D + 3) 170 [.ref r] h (fun z => z = (.inl (some (.long (jl (sgc (X r))))), h)) := by
  have hd := fdg_le (X r) 13
  refine mj_Ok.of (M := mj_m170) rfl rfl rfl ?_
  refine mj_T.pl rfl rfl rfl rfl ?_
  refine mj_T.call rfl rfl (Nat.le_of_ble_eq_true rfl) (Nat.le_of_ble_eq_true rfl) rfl rfl (mj_Ok.up (by omega) (mS_deg (D := 0) m kr hr)) (fun v g1 hq => ?_) (fun i g1 hq => ?_)
  rotate_left
  · cases hq
  cases hq
  refine mj_T.eq (pc2 := 4) (st2 := [.int (jn ((fdg (X r) 13 : Int) - 1))]) ?_ rfl rfl rfl rfl
  refine mj_T.pl (loc' := [some (.ref r), some (.int (jn ((fdg (X r) 13 : Int) - 1))), none, none]) rfl rfl rfl rfl ?_
  refine mj_T.pl rfl rfl rfl rfl ?_
  refine mj_T.call rfl rfl (Nat.le_of_ble_eq_true rfl) (Nat.le_of_ble_eq_true rfl) rfl rfl (mj_Ok.up (by omega) (mS_cont (D := 0) m kr hr)) (fun v g2 hq => ?_) (fun i g2 hq => ?_)
  rotate_left
  · cases hq
  cases hq
  refine mj_T.eq (pc2 := 9) (st2 := [.long (jl ((cgd (X r) 13 : Nat) : Int))]) ?_ rfl rfl rfl rfl
  refine mj_T.pl (loc' := [some (.ref r), some (.int (jn ((fdg (X r) 13 : Int) - 1))), some (.long (jl ((cgd (X r) 13 : Nat) : Int))), none]) rfl rfl rfl rfl ?_
  refine mj_T.pl rfl rfl rfl rfl ?_
  refine mj_T.if0 (a := ((fdg (X r) 13 : Int) - 1)) rfl ⟨by omega, by omega⟩ (fun c3 => ?_) (fun c3 => ?_)
  · simp only [jc, Bool.not_eq_true', Bool.not_eq_false', decide_eq_true_eq, decide_eq_false_iff_not] at c3
    refine mj_T.pl rfl rfl rfl rfl ?_
    refine mj_T.ret rfl rfl rfl ?_
    show _ = _
    unfold sgc
    rw [if_neg (by first | omega | (rw [ed] at c4; omega))]
  · simp only [jc, Bool.not_eq_true', Bool.not_eq_false', decide_eq_true_eq, decide_eq_false_iff_not] at c3
    have ed : ((fdg (X r) 13 : Int) - 1).toNat = fdg (X r) 13 - 1 := by omega
    have hx := hr (fdg (X r) 13 - 1) (by omega)
    rw [← ed] at hx
    iterate 2 refine mj_T.pl rfl rfl rfl rfl ?_
    refine mT_lald m kr rfl ⟨by omega, by omega⟩ ?_
    refine jT.lc 0 rfl rfl ?_
    refine mj_T.lif (a := (X r ((((fdg (X r) 13 : Int) - 1) : Int).toNat))) (b := ((0 : Nat) : Int)) rfl rfl ⟨by omega, by omega⟩ jR_0 (fun c4 => ?_) (fun c4 => ?_)
    · simp only [jc, Bool.not_eq_true', Bool.not_eq_false', decide_eq_true_eq, decide_eq_false_iff_not] at c4
      refine mj_T.pl rfl rfl rfl rfl ?_
      refine mj_T.ret rfl rfl rfl ?_
      show _ = _
      unfold sgc
      rw [if_neg (by first | omega | (rw [ed] at c4; omega))]
    · simp only [jc, Bool.not_eq_true', Bool.not_eq_false', decide_eq_true_eq, decide_eq_false_iff_not] at c4
      refine mj_T.pl rfl rfl rfl rfl ?_
      refine mj_T.lneg rfl ?_
      refine mj_T.pl rfl rfl rfl rfl ?_
      refine mj_T.ret rfl rfl rfl ?_
      show _ = _
      unfold sgc
      rw [if_pos ⟨by omega, by rw [ed] at c4; omega⟩]
end MSU
