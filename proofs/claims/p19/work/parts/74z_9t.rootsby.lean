/-! rootsBy, rootBy: answers on both sides. -/
theorem A_areSame.b {N : Nat → Int} {a b z : Int} (p : A_areSame N a b 0 z) : z = 0 ∨ z = 1 := by
  rcases p with ⟨_, e⟩ | ⟨_, _, ⟨e, _⟩ | ⟨e, _⟩⟩
  · exact absurd (show (0 : Int) = 1 from e) (by decide)
  · exact Or.inr e
  · exact Or.inl e
/-- Horner's rule by p, m coefficients to come -/
def hrv (f : Nat → Int) (x p : Int) : Nat → Int → Int
  | 0, v => v
  | m + 1, v => hrv f x p m ((v * x + f m % p) % p)
theorem hrv_cg {f f' : Nat → Int} {x p : Int} : ∀ m v, (∀ j, j < m → f' j = f j) → hrv f' x p m v = hrv f x p m v
  | 0, _, _ => rfl
  | m + 1, v, h => by
    unfold hrv
    rw [h m (by omega)]
    exact hrv_cg m _ (fun j hj => h j (by omega))
/-- how many of the first are roots by p -/
def rbc (f : Nat → Int) (p : Int) : Nat → Nat
  | 0 => 0
  | k + 1 => if hrv f (k : Int) p 13 0 = 0 then rbc f p k + 1 else rbc f p k
theorem rbc_s {f : Nat → Int} {p : Int} {k : Nat} (h : hrv f (k : Int) p 13 0 = 0) : rbc f p (k + 1) = rbc f p k + 1 := if_pos h
theorem rbc_z {f : Nat → Int} {p : Int} {k : Nat} (h : hrv f (k : Int) p 13 0 ≠ 0) : rbc f p (k + 1) = rbc f p k := if_neg h
theorem rbc_le (f : Nat → Int) (p : Int) : ∀ k, rbc f p k ≤ k
  | 0 => Nat.le_refl 0
  | k + 1 => by
    have := rbc_le f p k
    by_cases q : hrv f (k : Int) p 13 0 = 0
    · rw [rbc_s q]
      omega
    · rw [rbc_z q]
      omega
theorem rbc_cg {f f' : Nat → Int} {p : Int} (h : ∀ j, j < 13 → f' j = f j) : ∀ k, rbc f' p k = rbc f p k
  | 0 => rfl
  | k + 1 => by
    unfold rbc
    rw [hrv_cg 13 0 h, rbc_cg h k]
def rtF (f : Nat → Int) (p z : Int) : Prop := ∃ x : Nat, z = (x : Int) ∧ (x : Int) < p ∧ hrv f (x : Int) p 13 0 = 0 ∧ ∀ y : Nat, y < x → hrv f (y : Int) p 13 0 ≠ 0
theorem rtF.one {f : Nat → Int} {p : Int} (z1 z2 : Int) (a : rtF f p z1) (b : rtF f p z2) : z1 = z2 := by
  obtain ⟨x1, a1, a2, a3, a4⟩ := a
  obtain ⟨x2, b1, b2, b3, b4⟩ := b
  rcases Nat.lt_trichotomy x1 x2 with c | c | c
  · exact absurd a3 (b4 x1 c)
  · omega
  · exact absurd b3 (a4 x2 c)
abbrev A_rootsBy (N : Nat → Int) (a p : Int) : Int → Int → Prop := an [(0 ≤ a ∧ a ≤ 5, 1), (prm p, 2)] (fun z => z = ((rbc (rwN N a) p p.toNat : Nat) : Int))
abbrev A_rootBy (N : Nat → Int) (a p : Int) : Int → Int → Prop := an [(0 ≤ a ∧ a ≤ 5, 1), (prm p, 2), (∃ x : Nat, (x : Int) < p ∧ hrv (rwN N a) (x : Int) p 13 0 = 0, 3)] (rtF (rwN N a) p)
section ARB
variable {N : Nat → Int} {c1 z1 c2 z2 : Int}
theorem A_rootsBy.ag {a p : Int} (x : A_rootsBy N a p c1 z1) (y : A_rootsBy N a p c2 z2) : c1 = c2 ∧ (c1 = 0 → z1 = z2) := an.ag (fun _ _ a b => a.trans b.symm) (by simp) x y
theorem A_rootBy.ag {a p : Int} (x : A_rootBy N a p c1 z1) (y : A_rootBy N a p c2 z2) : c1 = c2 ∧ (c1 = 0 → z1 = z2) := an.ag rtF.one (by simp) x y
end ARB
section MVB
variable {g h : mj_H} {n D u r : Nat} {V : Nat → Int} {X : Nat → Nat → Int} {N : Nat → Int} {H : Nat → Nat → Int}
theorem mS_by_loop (hm : jM g n V X h) (kr : cK r = 2) (hr : sml (X r)) {x p c : Int} (hx : 0 ≤ x ∧ x < p) (hp : 2 ≤ p ∧ p ≤ 97) {Q : mj_R → Prop} (hend : Q (.inl (some (.int (jn c))), h)) : ∀ (m : Nat) (v : Int), m ≤ 13 → 0 ≤ v → v < p → hrv (X r) x p m v = c → mj_T (D + 1) mj_m173 8 [some (.ref r), some (.int (jn x)), some (.int (jn p)), some (.int (jn v)), some (.int (jn ((m : Int) - 1)))] [] h Q
  | 0, v, _, v0, v1, hh => by
    refine mj_T.pl rfl rfl rfl rfl ?_
    refine mj_T.if0 (a := (((0 : Nat) : Int) - 1)) rfl ⟨by decide, by decide⟩ (fun c1 => ?_) (fun c1 => ?_)
    · simp only [jc, Bool.not_eq_true', Bool.not_eq_false', decide_eq_true_eq, decide_eq_false_iff_not] at c1
      refine mj_T.pl rfl rfl rfl rfl ?_
      have hh : v = c := hh
      subst hh
      exact mj_T.ret rfl rfl rfl hend
    · exfalso
      simp [jc] at c1
  | m + 1, v, hm13, v0, v1, hh => by
    have h1 := hr m (by omega)
    have hb : 0 ≤ v * x ∧ v * x ≤ 97 * 97 := ⟨Int.mul_nonneg v0 hx.1, Int.mul_le_mul (by omega) (by omega) (by omega) (by decide)⟩
    rw [show ((m + 1 : Nat) : Int) - 1 = (m : Int) by omega]
    refine mj_T.pl rfl rfl rfl rfl ?_
    refine mj_T.if0 (a := ((m : Nat) : Int)) rfl ⟨by omega, by omega⟩ (fun c1 => ?_) (fun c1 => ?_)
    · exfalso
      simp only [jc, Bool.not_eq_true', Bool.not_eq_false', decide_eq_true_eq, decide_eq_false_iff_not] at c1
      omega
    · simp only [jc, Bool.not_eq_true', Bool.not_eq_false', decide_eq_true_eq, decide_eq_false_iff_not] at c1
      refine mj_T.pl rfl rfl rfl rfl ?_
      refine mj_T.i2l rfl ⟨by omega, by omega⟩ ?_
      refine mj_T.pl rfl rfl rfl rfl ?_
      refine mj_T.i2l rfl ⟨by omega, by omega⟩ ?_
      refine mj_T.lmul (a := v) (b := x) rfl ?_
      iterate 2 refine mj_T.pl rfl rfl rfl rfl ?_
      refine mT_lald hm kr rfl ⟨by omega, by omega⟩ ?_
      refine mj_T.eq (st2 := [.long (jl (X r m)), .long (jl (v * x))]) ?_ rfl rfl rfl rfl
      refine mj_T.pl rfl rfl rfl rfl ?_
      refine mj_T.call rfl rfl (Nat.le_of_ble_eq_true rfl) (Nat.le_of_ble_eq_true rfl) rfl rfl (mj_Ok.up (by omega) (mS_res (D := 0) (v := (X r m)) (p := p) ⟨by omega, by omega⟩ (by omega) (by omega))) (fun v g2 hq => ?_) (fun i g2 hq => ?_)
      rotate_left
      · cases hq
      cases hq
      have q23 := Int.emod_nonneg (X r m) (show p ≠ 0 by omega)
      have s23 := Int.emod_lt_of_pos (X r m) (show (0 : Int) < p by omega)
      refine mj_T.eq (pc2 := 26) (st2 := [.int (jn ((X r m) % p)), .long (jl (v * x))]) ?_ rfl rfl rfl rfl
      refine mj_T.i2l rfl ⟨by omega, by omega⟩ ?_
      refine mj_T.ladd (a := (v * x)) (b := ((X r m) % p)) rfl ?_
      refine mj_T.pl rfl rfl rfl rfl ?_
      have hb2 : 0 ≤ v * x ∧ v * x ≤ 97 * 97 := hb
      refine mj_T.call rfl rfl (Nat.le_of_ble_eq_true rfl) (Nat.le_of_ble_eq_true rfl) rfl rfl (mj_Ok.up (by omega) (mS_res (D := 0) (v := ((v * x) + ((X r m) % p))) (p := p) ⟨by omega, by omega⟩ (by omega) (by omega))) (fun v g3 hq => ?_) (fun i g3 hq => ?_)
      rotate_left
      · cases hq
      cases hq
      have q29 := Int.emod_nonneg ((v * x) + ((X r m) % p)) (show p ≠ 0 by omega)
      have s29 := Int.emod_lt_of_pos ((v * x) + ((X r m) % p)) (show (0 : Int) < p by omega)
      refine mj_T.eq (pc2 := 32) (st2 := [.int (jn (((v * x) + ((X r m) % p)) % p))]) ?_ rfl rfl rfl rfl
      refine mj_T.pl (loc' := [some (.ref r), some (.int (jn x)), some (.int (jn p)), some (.int (jn (((v * x) + ((X r m) % p)) % p))), some (.int (jn ((m : Nat) : Int)))]) rfl rfl rfl rfl ?_
      refine mj_T.iinc rfl rfl ?_
      refine mj_T.eq (loc2 := [some (.ref r), some (.int (jn x)), some (.int (jn p)), some (.int (jn (((v * x) + ((X r m) % p)) % p))), some (.int (jn (((m : Nat) : Int) + (-1))))]) ?_ rfl rfl rfl rfl
      refine mj_T.pl rfl rfl rfl rfl ?_
      refine mj_T.eq (mS_by_loop hm kr hr hx hp hend m _ (by omega) q29 s29 hh) rfl ?_ rfl rfl
      rw [show (((m : Nat) : Int) + (-1)) = (m : Int) - 1 by omega]
theorem mS_by (hm : jM g n V X h) (kr : cK r = 2) (hr : sml (X r)) {x p : Int} (hx : 0 ≤ x ∧ x < p) (hp : 2 ≤ p ∧ p ≤ 97) : mj_Ok (D + 2) 173 [.ref r, .int (jn x), .int (jn p)] h (fun z => z = (.inl (some (.int (jn (hrv (X r) x p 13 0)))), h)) := by
  refine mj_Ok.of (M := mj_m173) rfl rfl rfl ?_
  iterate 3 refine mj_T.pl rfl rfl rfl rfl ?_
  refine mT_llen hm kr rfl ?_
  refine mj_T.pl rfl rfl rfl rfl ?_
  refine mj_T.isub (a := ((13 : Nat) : Int)) (b := 1) rfl ?_
  refine mj_T.pl (loc' := [some (.ref r), some (.int (jn x)), some (.int (jn p)), some (.int (jn 0)), some (.int (jn (((13 : Nat) : Int) - 1)))]) rfl rfl rfl rfl ?_
  exact mS_by_loop (Q := fun z => z = (.inl (some (.int (jn (hrv (X r) x p 13 0)))), h)) hm kr hr hx hp rfl 13 0 (by omega) (by decide) (by omega) rfl
theorem hrv_bd (f : Nat → Int) {x p : Int} (hp : 2 ≤ p) : ∀ m v, 0 ≤ v → v < p → 0 ≤ hrv f x p m v ∧ hrv f x p m v < p
  | 0, v, h0, h1 => ⟨h0, h1⟩
  | m + 1, v, _, _ => hrv_bd f hp m _ (Int.emod_nonneg _ (by omega)) (Int.emod_lt_of_pos _ (by omega))
theorem mS_rsb_loop (m : jM g n V X h) (kr : cK r = 2) (hr : sml (X r)) {a p : Int} (hp : 2 ≤ p ∧ p ≤ 97) {Q : mj_R → Prop} (hend : Q (.inl (some (.int (jn ((rbc (X r) p p.toNat : Nat) : Int)))), h)) : ∀ d k : Nat, (k : Int) + d = p → mj_T (D + 2) mj_m138 16 [some (.ref 1), some (.int (jn a)), some (.int (jn p)), some (.ref r), some (.int (jn ((rbc (X r) p k : Nat) : Int))), some (.int (jn (k : Int)))] [] h Q
  | 0, k, hk => by
    iterate 2 refine mj_T.pl rfl rfl rfl rfl ?_
    refine mj_T.icmp (a := ((k : Nat) : Int)) (b := p) rfl ⟨by omega, by omega⟩ ⟨by omega, by omega⟩ (fun c1 => ?_) (fun c1 => ?_)
    · simp only [jc, Bool.not_eq_true', Bool.not_eq_false', decide_eq_true_eq, decide_eq_false_iff_not] at c1
      refine mj_T.pl rfl rfl rfl rfl ?_
      obtain rfl : k = p.toNat := by omega
      exact mj_T.ret rfl rfl rfl hend
    · exfalso
      simp only [jc, Bool.not_eq_true', Bool.not_eq_false', decide_eq_true_eq, decide_eq_false_iff_not] at c1
      omega
  | d + 1, k, hk => by
    iterate 2 refine mj_T.pl rfl rfl rfl rfl ?_
    refine mj_T.icmp (a := ((k : Nat) : Int)) (b := p) rfl ⟨by omega, by omega⟩ ⟨by omega, by omega⟩ (fun c1 => ?_) (fun c1 => ?_)
    · exfalso
      simp only [jc, Bool.not_eq_true', Bool.not_eq_false', decide_eq_true_eq, decide_eq_false_iff_not] at c1
      omega
    · simp only [jc, Bool.not_eq_true', Bool.not_eq_false', decide_eq_true_eq, decide_eq_false_iff_not] at c1
      iterate 3 refine mj_T.pl rfl rfl rfl rfl ?_
      refine mj_T.call rfl rfl (Nat.le_of_ble_eq_true rfl) (Nat.le_of_ble_eq_true rfl) rfl rfl (mj_Ok.up (by omega) (mS_by (D := 0) (x := ((k : Nat) : Int)) (p := p) m kr hr ⟨by omega, by omega⟩ ⟨by omega, by omega⟩)) (fun v g2 hq => ?_) (fun i g2 hq => ?_)
      rotate_left
      · cases hq
      cases hq
      have hbd := hrv_bd (X r) (x := ((k : Nat) : Int)) (p := p) (by omega) 13 0 (by decide) (by omega)
      refine mj_T.eq (pc2 := 29) (st2 := [.int (jn (hrv (X r) ((k : Nat) : Int) p 13 0))]) ?_ rfl rfl rfl rfl
      refine mj_T.if0 (a := (hrv (X r) ((k : Nat) : Int) p 13 0)) rfl ⟨by omega, by omega⟩ (fun c3 => ?_) (fun c3 => ?_)
      · simp only [jc, Bool.not_eq_true', Bool.not_eq_false', decide_eq_true_eq, decide_eq_false_iff_not] at c3
        refine mj_T.iinc rfl rfl ?_
        rw [show ((k : Nat) : Int) + 1 = ((k + 1 : Nat) : Int) by omega]
        refine mj_T.eq (loc2 := [some (.ref 1), some (.int (jn a)), some (.int (jn p)), some (.ref r), some (.int (jn ((rbc (X r) p k : Nat) : Int))), some (.int (jn (((k + 1) : Nat) : Int)))]) ?_ rfl rfl rfl rfl
        refine mj_T.pl rfl rfl rfl rfl ?_
        have e := rbc_z (f := X r) (p := p) (k := k) (by omega)
        rw [← e]
        exact mS_rsb_loop m kr hr hp hend d (k + 1) (by omega)
      · simp only [jc, Bool.not_eq_true', Bool.not_eq_false', decide_eq_true_eq, decide_eq_false_iff_not] at c3
        refine mj_T.iinc rfl rfl ?_
        rw [show ((rbc (X r) p k : Nat) : Int) + 1 = ((rbc (X r) p k + 1 : Nat) : Int) by omega]
        refine mj_T.eq (loc2 := [some (.ref 1), some (.int (jn a)), some (.int (jn p)), some (.ref r), some (.int (jn (((rbc (X r) p k + 1) : Nat) : Int))), some (.int (jn ((k : Nat) : Int)))]) ?_ rfl rfl rfl rfl
        refine mj_T.iinc rfl rfl ?_
        rw [show ((k : Nat) : Int) + 1 = ((k + 1 : Nat) : Int) by omega]
        refine mj_T.eq (loc2 := [some (.ref 1), some (.int (jn a)), some (.int (jn p)), some (.ref r), some (.int (jn (((rbc (X r) p k + 1) : Nat) : Int))), some (.int (jn (((k + 1) : Nat) : Int)))]) ?_ rfl rfl rfl rfl
        refine mj_T.pl rfl rfl rfl rfl ?_
        have e := rbc_s (f := X r) (p := p) (k := k) (by omega)
        rw [← e]
        exact mS_rsb_loop m kr hr hp hend d (k + 1) (by omega)
theorem mS_rtb_loop (m : jM g n V X h) (kr : cK r = 2) (hr : sml (X r)) {a p : Int} (hp : 2 ≤ p ∧ p ≤ 97) {Q : mj_R → Prop} (hret : ∀ k : Nat, (k : Int) < p → hrv (X r) (k : Int) p 13 0 = 0 → (∀ y : Nat, y < k → hrv (X r) (y : Int) p 13 0 ≠ 0) → Q (.inl (some (.int (jn (k : Int)))), h)) (hthr : (∀ y : Nat, (y : Int) < p → hrv (X r) (y : Int) p 13 0 ≠ 0) → ∀ loc, mj_T (D + 2) mj_m139 38 loc [] h Q) : ∀ d k : Nat, (k : Int) + d = p → (∀ y : Nat, y < k → hrv (X r) (y : Int) p 13 0 ≠ 0) → mj_T (D + 2) mj_m139 13 [some (.ref 1), some (.int (jn a)), some (.int (jn p)), some (.ref r), some (.int (jn (k : Int)))] [] h Q
  | 0, k, hk, hn => by
    iterate 2 refine mj_T.pl rfl rfl rfl rfl ?_
    refine mj_T.icmp (a := ((k : Nat) : Int)) (b := p) rfl ⟨by omega, by omega⟩ ⟨by omega, by omega⟩ (fun c1 => ?_) (fun c1 => ?_)
    · simp only [jc, Bool.not_eq_true', Bool.not_eq_false', decide_eq_true_eq, decide_eq_false_iff_not] at c1
      exact hthr (fun y hy => hn y (by omega)) _
    · exfalso
      simp only [jc, Bool.not_eq_true', Bool.not_eq_false', decide_eq_true_eq, decide_eq_false_iff_not] at c1
      omega
  | d + 1, k, hk, hn => by
    iterate 2 refine mj_T.pl rfl rfl rfl rfl ?_
    refine mj_T.icmp (a := ((k : Nat) : Int)) (b := p) rfl ⟨by omega, by omega⟩ ⟨by omega, by omega⟩ (fun c1 => ?_) (fun c1 => ?_)
    · exfalso
      simp only [jc, Bool.not_eq_true', Bool.not_eq_false', decide_eq_true_eq, decide_eq_false_iff_not] at c1
      omega
    · simp only [jc, Bool.not_eq_true', Bool.not_eq_false', decide_eq_true_eq, decide_eq_false_iff_not] at c1
      iterate 3 refine mj_T.pl rfl rfl rfl rfl ?_
      refine mj_T.call rfl rfl (Nat.le_of_ble_eq_true rfl) (Nat.le_of_ble_eq_true rfl) rfl rfl (mj_Ok.up (by omega) (mS_by (D := 0) (x := ((k : Nat) : Int)) (p := p) m kr hr ⟨by omega, by omega⟩ ⟨by omega, by omega⟩)) (fun v g2 hq => ?_) (fun i g2 hq => ?_)
      rotate_left
      · cases hq
      cases hq
      have hbd := hrv_bd (X r) (x := ((k : Nat) : Int)) (p := p) (by omega) 13 0 (by decide) (by omega)
      refine mj_T.eq (pc2 := 26) (st2 := [.int (jn (hrv (X r) ((k : Nat) : Int) p 13 0))]) ?_ rfl rfl rfl rfl
      refine mj_T.if0 (a := (hrv (X r) ((k : Nat) : Int) p 13 0)) rfl ⟨by omega, by omega⟩ (fun c3 => ?_) (fun c3 => ?_)
      · simp only [jc, Bool.not_eq_true', Bool.not_eq_false', decide_eq_true_eq, decide_eq_false_iff_not] at c3
        refine mj_T.iinc rfl rfl ?_
        rw [show ((k : Nat) : Int) + 1 = ((k + 1 : Nat) : Int) by omega]
        refine mj_T.eq (loc2 := [some (.ref 1), some (.int (jn a)), some (.int (jn p)), some (.ref r), some (.int (jn (((k + 1) : Nat) : Int)))]) ?_ rfl rfl rfl rfl
        refine mj_T.pl rfl rfl rfl rfl ?_
        exact mS_rtb_loop m kr hr hp hret hthr d (k + 1) (by omega) (fun y hy => by
          by_cases e : y = k
          · rw [e]
            omega
          · exact hn y (by omega))
      · simp only [jc, Bool.not_eq_true', Bool.not_eq_false', decide_eq_true_eq, decide_eq_false_iff_not] at c3
        refine mj_T.pl rfl rfl rfl rfl ?_
        exact mj_T.ret rfl rfl rfl (hret k (by omega) (by omega) hn)
theorem cv_138 (A : AS N u H) (s : cC N u H h) {a : Int} (ra : -2147483648 ≤ a ∧ a ≤ 2147483647) {p : Int} (rp : -2147483648 ≤ p ∧ p ≤ 2147483647) : mj_Ok 59 138 [.ref 1, .int (jn a), .int (jn p)] h (cA (fun k => if k = 0 then 1 else 2) (A_rootsBy N a p)) := by
  obtain ⟨V, X, m, b, d, c, jx⟩ := cS.nr A s
  have jx : rjR X := jx
  refine mj_Ok.of (M := mj_m138) rfl rfl rfl ?_
  iterate 2 refine mj_T.pl rfl rfl rfl rfl ?_
  refine mj_T.call rfl rfl (Nat.le_of_ble_eq_true rfl) (Nat.le_of_ble_eq_true rfl) (mV_of m 19 cq_d1 (by decide) rfl (by decide) rfl _) rfl (mj_Ok.up (by omega) (mC_rowOf (D := 0) m (i := a) (by omega))) (fun v g1 hq => ?_) (fun i g1 hq => ?_)
  rotate_left
  · rcases hq with ⟨_, hq⟩ | ⟨hn, hq⟩
    · cases hq
    · cases hq
      exact Or.inl ⟨rfl, fun z => an.n hn⟩
  rcases hq with ⟨ka, hq⟩ | ⟨_, hq⟩
  rotate_left
  · cases hq
  cases hq
  refine mj_T.eq (pc2 := 5) (st2 := [.ref (4 + a.toNat)]) ?_ rfl rfl rfl rfl
  refine mj_T.pl (loc' := [some (.ref 1), some (.int (jn a)), some (.int (jn p)), some (.ref (4 + a.toNat)), none, none]) rfl rfl rfl rfl ?_
  refine mj_T.pl rfl rfl rfl rfl ?_
  refine mj_T.call rfl rfl (Nat.le_of_ble_eq_true rfl) (Nat.le_of_ble_eq_true rfl) rfl rfl (mj_Ok.up (by omega) (mC_prime (D := 0) (p := p) (by omega))) (fun v g2 hq => ?_) (fun i g2 hq => ?_)
  rotate_left
  · rcases hq with ⟨_, hq⟩ | ⟨hn, hq⟩
    · cases hq
    · cases hq
      exact Or.inl ⟨rfl, fun z => an.y ka (an.n hn)⟩
  rcases hq with ⟨kp, hq⟩ | ⟨_, hq⟩
  rotate_left
  · cases hq
  cases hq
  refine mj_T.eq (pc2 := 10) (st2 := []) ?_ rfl rfl rfl rfl
  refine mj_T.pl rfl rfl rfl rfl ?_
  refine mj_T.pl (loc' := [some (.ref 1), some (.int (jn a)), some (.int (jn p)), some (.ref (4 + a.toNat)), some (.int (jn 0)), none]) rfl rfl rfl rfl ?_
  refine mj_T.pl rfl rfl rfl rfl ?_
  refine mj_T.pl (loc' := [some (.ref 1), some (.int (jn a)), some (.int (jn p)), some (.ref (4 + a.toNat)), some (.int (jn 0)), some (.int (jn 0))]) rfl rfl rfl rfl ?_
  obtain ⟨q, rfl⟩ := Int.eq_ofNat_of_zero_le (show 0 ≤ p by have := kp.1.1; omega)
  have hq := rbc_le (rwN N a) ((q : Nat) : Int) q
  refine mS_rsb_loop (D := 56) (Q := cA (fun k => if k = 0 then 1 else 2) (A_rootsBy N a ((q : Nat) : Int))) m (mK_rt a.toNat (by omega)) (c.sm A.1 ka) kp.1 ?_ q 0 (by omega)
  refine ⟨_, ⟨?_, ?_⟩, rfl, an.y ka (an.y kp (an.e (congrArg (fun x : Nat => (x : Int)) (rbc_cg (c.rw ka) _))))⟩
  · omega
  · have := kp.1.2
    rw [rbc_cg (c.rw ka), Int.toNat_natCast]
    omega
theorem cv_139 (A : AS N u H) (s : cC N u H h) {a : Int} (ra : -2147483648 ≤ a ∧ a ≤ 2147483647) {p : Int} (rp : -2147483648 ≤ p ∧ p ≤ 2147483647) : mj_Ok 59 139 [.ref 1, .int (jn a), .int (jn p)] h (cA (fun k => if k = 0 then 1 else if k = 2 then 2 else 3) (A_rootBy N a p)) := by
  obtain ⟨V, X, m, b, d, c, jx⟩ := cS.nr A s
  have jx : rjR X := jx
  refine mj_Ok.of (M := mj_m139) rfl rfl rfl ?_
  iterate 2 refine mj_T.pl rfl rfl rfl rfl ?_
  refine mj_T.call rfl rfl (Nat.le_of_ble_eq_true rfl) (Nat.le_of_ble_eq_true rfl) (mV_of m 19 cq_d1 (by decide) rfl (by decide) rfl _) rfl (mj_Ok.up (by omega) (mC_rowOf (D := 0) m (i := a) (by omega))) (fun v g1 hq => ?_) (fun i g1 hq => ?_)
  rotate_left
  · rcases hq with ⟨_, hq⟩ | ⟨hn, hq⟩
    · cases hq
    · cases hq
      exact Or.inl ⟨rfl, fun z => an.n hn⟩
  rcases hq with ⟨ka, hq⟩ | ⟨_, hq⟩
  rotate_left
  · cases hq
  cases hq
  refine mj_T.eq (pc2 := 5) (st2 := [.ref (4 + a.toNat)]) ?_ rfl rfl rfl rfl
  refine mj_T.pl (loc' := [some (.ref 1), some (.int (jn a)), some (.int (jn p)), some (.ref (4 + a.toNat)), none]) rfl rfl rfl rfl ?_
  refine mj_T.pl rfl rfl rfl rfl ?_
  refine mj_T.call rfl rfl (Nat.le_of_ble_eq_true rfl) (Nat.le_of_ble_eq_true rfl) rfl rfl (mj_Ok.up (by omega) (mC_prime (D := 0) (p := p) (by omega))) (fun v g2 hq => ?_) (fun i g2 hq => ?_)
  rotate_left
  · rcases hq with ⟨_, hq⟩ | ⟨hn, hq⟩
    · cases hq
    · cases hq
      exact Or.inl ⟨rfl, fun z => an.y ka (an.n hn)⟩
  rcases hq with ⟨kp, hq⟩ | ⟨_, hq⟩
  rotate_left
  · cases hq
  cases hq
  refine mj_T.eq (pc2 := 10) (st2 := []) ?_ rfl rfl rfl rfl
  refine mj_T.pl rfl rfl rfl rfl ?_
  refine mj_T.pl (loc' := [some (.ref 1), some (.int (jn a)), some (.int (jn p)), some (.ref (4 + a.toNat)), some (.int (jn 0))]) rfl rfl rfl rfl ?_
  obtain ⟨q, rfl⟩ := Int.eq_ofNat_of_zero_le (show 0 ≤ p by have := kp.1.1; omega)
  have hq2 := kp.1.2
  refine mS_rtb_loop (D := 56) (Q := cA (fun k => if k = 0 then 1 else if k = 2 then 2 else 3) (A_rootBy N a ((q : Nat) : Int))) m (mK_rt a.toNat (by omega)) (c.sm A.1 ka) kp.1 (fun k h1 h2 h3 => ?_) (fun hn loc => ?_) q 0 (by omega) (fun y hy => absurd hy (by omega))
  · have h2 := (hrv_cg (x := (k : Int)) (p := ((q : Nat) : Int)) 13 0 (c.rw ka)).symm.trans h2
    exact ⟨_, ⟨by omega, by omega⟩, rfl, an.y ka (an.y kp (an.y ⟨k, h1, h2⟩ (an.e ⟨k, rfl, h1, h2, fun y hy e => h3 y hy ((hrv_cg 13 0 (c.rw ka)).trans e)⟩)))⟩
  · exact mj_T.throws rfl rfl rfl (Nat.le_of_ble_eq_true rfl) (fun z => an.y ka (an.y kp (an.n (fun q => by
      obtain ⟨y, y1, y2⟩ := q
      exact hn y y1 ((hrv_cg 13 0 (c.rw ka)).trans y2)))))
end MVB
section RBT
variable {h : mj_H} {T : Nat → Int}
theorem ra_rb_loop {S N B X V : Nat → Int} {r x z : Nat} (hr : r ≤ 5) (hx : x < z) (hz : 2 ≤ z) (hz2 : z ≤ 97) (hN : ∀ j, j < 78 → jR (N j)) (hs : rS S N B T X V h) {Q : mj_R → Prop} {c : Int} (q0 : c ≠ 0 → Q (.inl (some (.int (jn 0))), h)) (q1 : c = 0 → Q (.inl (some (.int (jn 1))), h)) :
    ∀ (m : Nat) (v : Int), m ≤ 13 → 0 ≤ v → v < z → hrv (fun e => N (r * 13 + e)) (x : Int) (z : Int) m v = c → mj_T 38 mj_m280 7 [some (.ref 0), some (.int (jn (r : Int))), some (.int (jn (x : Int))), some (.int (jn (z : Int))), some (.long (jl v)), none, some (.int (jn ((m : Int) - 1)))] [] h Q := by
  intro m
  induction m with
  | zero =>
    intro v hm v0 v1 hh
    refine mj_T.pl rfl rfl rfl rfl ?_
    refine mj_T.if0 (a := ((0 : Nat) : Int) - 1) rfl ⟨by decide, by decide⟩ (fun hc => ?_) (fun hc => ?_)
    · iterate 2 refine mj_T.pl rfl rfl rfl rfl ?_
      refine mj_T.lif (a := v) (b := 0) rfl rfl ⟨by omega, by omega⟩ ⟨by decide, by decide⟩ (fun hc2 => ?_) (fun hc2 => ?_)
      · refine mj_T.pl rfl rfl rfl rfl ?_
        have hh : v = c := hh
        exact mj_T.ret rfl rfl rfl (q0 (by simp only [jc, Bool.not_eq_true', Bool.not_eq_false', decide_eq_true_eq, decide_eq_false_iff_not] at hc2; omega))
      · iterate 2 refine mj_T.pl rfl rfl rfl rfl ?_
        have hh : v = c := hh
        exact mj_T.ret rfl rfl rfl (q1 (by simp only [jc, Bool.not_eq_true', Bool.not_eq_false', decide_eq_true_eq, decide_eq_false_iff_not] at hc2; omega))
    · simp [jc] at hc
  | succ m ih =>
    intro v hm v0 v1 hh
    refine mj_T.pl rfl rfl rfl rfl ?_
    refine mj_T.if0 (a := ((m + 1 : Nat) : Int) - 1) rfl ⟨by omega, by omega⟩ (fun hc => ?_) (fun hc => ?_)
    · simp only [jc, decide_eq_true_eq] at hc
      omega
    rw [show ((m + 1 : Nat) : Int) - 1 = (m : Int) by omega]
    iterate 2 refine mj_T.pl rfl rfl rfl rfl ?_
    refine mj_T.i2l rfl ⟨by omega, by omega⟩ ?_
    refine mj_T.lmul rfl ?_
    iterate 4 refine mj_T.pl rfl rfl rfl rfl ?_
    refine mj_T.call (ins := .invokevirtual 243) rfl rfl (Nat.le_of_ble_eq_true rfl) (Nat.le_of_ble_eq_true rfl) (by simp [mj_recv, rS_f hs]) rfl (mj_Ok.up (by decide) (rx_rest (D := 0) (r := r) (e := m) (x := z) hr (by omega) hz hz2 (hN _ (by omega)) hs)) (fun v' h' hq' => ?_) (fun i h' hq' => by cases hq')
    cases hq'
    have w0 := Int.emod_nonneg (N (r * 13 + m)) (show (z : Int) ≠ 0 by omega)
    have w1 := Int.emod_lt_of_pos (N (r * 13 + m)) (show (0 : Int) < (z : Int) by omega)
    have hb : 0 ≤ v * (x : Int) ∧ v * (x : Int) ≤ 97 * 97 := ⟨Int.mul_nonneg v0 (by omega), Int.mul_le_mul (by omega) (by omega) (by omega) (by decide)⟩
    refine mj_T.ladd rfl ?_
    refine mj_T.pl rfl rfl rfl rfl ?_
    refine mj_T.i2l rfl ⟨by omega, by omega⟩ ?_
    have t1 := Int.tmod_lt_of_pos (v * (x : Int) + N (r * 13 + m) % (z : Int)) (show (0 : Int) < (z : Int) by omega)
    have t2 := Int.tmod_nonneg (z : Int) (show 0 ≤ v * (x : Int) + N (r * 13 + m) % (z : Int) by omega)
    refine mj_T.lrem (a := v * (x : Int) + N (r * 13 + m) % (z : Int)) (b := (z : Int)) rfl ⟨by omega, by omega⟩ ⟨by omega, by omega⟩ (by omega) ?_
    refine mj_T.pl rfl rfl rfl rfl ?_
    refine mj_T.iinc (a := (m : Int)) rfl rfl ?_
    refine mj_T.pl rfl rfl rfl rfl ?_
    exact ih _ (by omega) t2 t1 (by rw [← hh]; show hrv _ _ _ m _ = hrv _ _ _ m _; rw [Int.tmod_eq_emod_of_nonneg (by omega)])
theorem ra_isRootBy {S N B X V : Nat → Int} {r x z : Nat} (hr : r ≤ 5) (hx : x < z) (hz : 2 ≤ z) (hz2 : z ≤ 97) (hN : ∀ j, j < 78 → jR (N j)) (hs : rS S N B T X V h) : mj_Ok 39 280 [.ref 0, .int (jn (r : Int)), .int (jn (x : Int)), .int (jn (z : Int))] h (fun q => (hrv (fun e => N (r * 13 + e)) (x : Int) (z : Int) 13 0 ≠ 0 ∧ q = (.inl (some (.int (jn 0))), h)) ∨ (hrv (fun e => N (r * 13 + e)) (x : Int) (z : Int) 13 0 = 0 ∧ q = (.inl (some (.int (jn 1))), h))) := by
  refine mj_Ok.of (M := mj_m280) rfl rfl rfl ?_
  iterate 4 refine mj_T.pl rfl rfl rfl rfl ?_
  exact ra_rb_loop hr hx hz hz2 hN hs (fun e => Or.inl ⟨e, rfl⟩) (fun e => Or.inr ⟨e, rfl⟩) 13 0 (by omega) (by decide) (by omega) rfl
end RBT
section RBU
variable {h : mj_H} {tm er : Int} {T : Nat → Int} {N0 : Nat → Int} {u0 : Nat} {H : Nat → Nat → Int}
theorem ra_rsb_loop {S N B X V : Nat → Int} {r z : Nat} (hr : r ≤ 5) (hz : 2 ≤ z) (hz2 : z ≤ 97) (hs : rS S N B T X V h) (K : jKx N0 u0 H tm er S N B T) (e3s : S 3 = 0) {A : Int → Int → Prop} (hA : A 0 ((rbc (fun e => N (r * 13 + e)) (z : Int) z : Nat) : Int)) :
    ∀ (m k c : Nat), k + m = z → c ≤ k → c = rbc (fun e => N (r * 13 + e)) (z : Int) k → mj_T 39 mj_m281 36 [some (.ref 0), some (.int (jn (r : Int))), some (.int (jn (z : Int))), some (.int (jn (c : Int))), some (.int (jn (k : Int)))] [] h (rIa A N0 u0 H tm er T) := by
  intro m
  induction m with
  | zero =>
    intro k c hk hc hcr
    iterate 2 refine mj_T.pl rfl rfl rfl rfl ?_
    refine mj_T.icmp (a := (k : Int)) (b := (z : Int)) rfl ⟨by omega, by omega⟩ ⟨by omega, by omega⟩ (fun hc2 => ?_) (fun hc2 => ?_)
    · refine mj_T.pl rfl rfl rfl rfl ?_
      obtain rfl : k = z := by omega
      exact mj_T.ret rfl rfl rfl ⟨0, (c : Int), h, by rw [hcr]; exact hA, ⟨by omega, by omega⟩, rfl, ⟨_, _, _, _, _, hs, K, e3s⟩⟩
    · simp only [jc, decide_eq_false_iff_not] at hc2
      omega
  | succ m ih =>
    intro k c hk hc hcr
    iterate 2 refine mj_T.pl rfl rfl rfl rfl ?_
    refine mj_T.icmp (a := (k : Int)) (b := (z : Int)) rfl ⟨by omega, by omega⟩ ⟨by omega, by omega⟩ (fun hc2 => ?_) (fun hc2 => ?_)
    · simp only [jc, decide_eq_true_eq] at hc2
      omega
    iterate 5 refine mj_T.pl rfl rfl rfl rfl ?_
    refine mj_T.call (ins := .invokevirtual 341) rfl rfl (Nat.le_of_ble_eq_true rfl) (Nat.le_of_ble_eq_true rfl) (by simp [mj_recv, rS_f hs]) rfl (mj_Ok.up (by decide) (ra_isRootBy (r := r) (x := k) (z := z) hr (by omega) hz hz2 K.nR hs)) (fun v' h' hq' => ?_) (fun i h' hq' => by rcases hq' with ⟨_, h⟩ | ⟨_, h⟩ <;> cases h)
    rcases hq' with ⟨hh, hq'⟩ | ⟨hh, hq'⟩
    · cases hq'
      refine mj_T.if0 (a := 0) rfl ⟨by decide, by decide⟩ (fun hc => ?_) (fun hc => ?_)
      rotate_left
      · simp [jc] at hc
      refine mj_T.pl rfl rfl rfl rfl ?_
      refine mj_T.iadd (a := (c : Int)) (b := 0) rfl ?_
      rw [show (c : Int) + 0 = ((c + 0 : Nat) : Int) by omega]
      refine mj_T.pl rfl rfl rfl rfl ?_
      refine mj_T.iinc (a := (k : Int)) rfl rfl ?_
      refine mj_T.pl rfl rfl rfl rfl ?_
      exact ih (k + 1) (c + 0) (by omega) (by omega) (by rw [rbc_z hh]; omega)
    · cases hq'
      refine mj_T.if0 (a := 1) rfl ⟨by decide, by decide⟩ (fun hc => ?_) (fun hc => ?_)
      · simp [jc] at hc
      iterate 2 refine mj_T.pl rfl rfl rfl rfl ?_
      refine mj_T.iadd (a := (c : Int)) (b := 1) rfl ?_
      rw [show (c : Int) + 1 = ((c + 1 : Nat) : Int) by omega]
      refine mj_T.pl rfl rfl rfl rfl ?_
      refine mj_T.iinc (a := (k : Int)) rfl rfl ?_
      refine mj_T.pl rfl rfl rfl rfl ?_
      exact ih (k + 1) (c + 1) (by omega) (by omega) (by rw [rbc_s hh]; omega)
theorem ra_rootsBy {x y : Int} (hx : jr x) (hy : jr y) (hI : jIx N0 u0 H tm er T h) : mj_Ok 40 281 [.ref 0, .int (jn x), .int (jn y)] h (rIa (A_rootsBy N0 x y) N0 u0 H tm er T) := by
  refine mj_Ok.of (M := mj_m281) rfl rfl rfl ?_
  obtain ⟨S, N, B, X, V, hs, K⟩ := hI
  iterate 2 refine mj_T.pl rfl rfl rfl rfl ?_
  refine rT_put (v := 0) hs rfl rfl (by decide) rfl (fun g10 hs10 => ?_)
  have K10 := K.put (k := 3) (v := 0) ⟨by decide, by decide⟩ (by decide) (by decide) (by decide) (by decide) (by decide)
  have e10 : jvu S 3 0 3 = 0 := jvu_at S 3 0
  generalize jvu S 3 0 = S10 at hs10 K10 e10
  refine mj_T.pl rfl rfl rfl rfl ?_
  refine mj_T.call (ins := .invokestatic 181) rfl rfl (Nat.le_of_ble_eq_true rfl) (Nat.le_of_ble_eq_true rfl) rfl rfl (mj_Ok.up (by decide) (rp_isRegister (D := 0) hx)) (fun v' h' hq' => ?_) (fun i h' hq' => by rcases hq' with ⟨_, _, h⟩ | ⟨_, h⟩ <;> cases h)
  rcases hq' with ⟨x1, x2, hq'⟩ | ⟨cn, hq'⟩
  case' inr =>
    cases hq'
    refine mj_T.if0 (a := 0) rfl ⟨by decide, by decide⟩ (fun hc => ?_) (fun hc => ?_)
    · simp [jc] at hc
    iterate 2 refine mj_T.pl rfl rfl rfl rfl ?_
    refine mj_T.call (ins := .invokevirtual 198) rfl rfl (Nat.le_of_ble_eq_true rfl) (Nat.le_of_ble_eq_true rfl) (by simp [mj_recv, rS_f hs10]) rfl (mj_Ok.up (by decide) (rp_fails (D := 0) (c := 1) hs10)) (fun v' g11 hq' => ?_) (fun i h' hq' => by obtain ⟨_, _, h⟩ := hq'; cases h)
    obtain ⟨_, hs11, hq'⟩ := hq'
    cases hq'
    exact mj_T.ret rfl rfl rfl ⟨1, 0, g11, an.n (by omega), ⟨by decide, by decide⟩, rfl, ⟨_, N, B, X, V, hs11, K10.put ⟨by decide, by decide⟩ (by decide) (by decide) (by decide) (by decide) (by decide), jvu_at _ _ _⟩⟩
  cases hq'
  refine mj_T.if0 (a := 1) rfl ⟨by decide, by decide⟩ (fun hc => ?_) (fun hc => ?_)
  rotate_left
  · simp [jc] at hc
  obtain ⟨x, rfl⟩ := Int.eq_ofNat_of_zero_le x1
  refine mj_T.pl rfl rfl rfl rfl ?_
  refine mj_T.call (ins := .invokestatic 240) rfl rfl (Nat.le_of_ble_eq_true rfl) (Nat.le_of_ble_eq_true rfl) rfl rfl (mj_Ok.up (by decide) (rx_isPrime hy)) (fun v' h' hq' => ?_) (fun i h' hq' => by rcases hq' with ⟨_, h⟩ | ⟨_, h⟩ <;> cases h)
  rcases hq' with ⟨hpr, hq'⟩ | ⟨cn, hq'⟩
  case' inr =>
    cases hq'
    refine mj_T.if0 (a := 0) rfl ⟨by decide, by decide⟩ (fun hc => ?_) (fun hc => ?_)
    · simp [jc] at hc
    iterate 2 refine mj_T.pl rfl rfl rfl rfl ?_
    refine mj_T.call (ins := .invokevirtual 198) rfl rfl (Nat.le_of_ble_eq_true rfl) (Nat.le_of_ble_eq_true rfl) (by simp [mj_recv, rS_f hs10]) rfl (mj_Ok.up (by decide) (rp_fails (D := 0) (c := 2) hs10)) (fun v' g12 hq' => ?_) (fun i h' hq' => by obtain ⟨_, _, h⟩ := hq'; cases h)
    obtain ⟨_, hs12, hq'⟩ := hq'
    cases hq'
    exact mj_T.ret rfl rfl rfl ⟨2, 0, g12, an.y ⟨by omega, by omega⟩ (an.n cn), ⟨by decide, by decide⟩, rfl, ⟨_, N, B, X, V, hs12, K10.put ⟨by decide, by decide⟩ (by decide) (by decide) (by decide) (by decide) (by decide), jvu_at _ _ _⟩⟩
  cases hq'
  refine mj_T.if0 (a := 1) rfl ⟨by decide, by decide⟩ (fun hc => ?_) (fun hc => ?_)
  rotate_left
  · simp [jc] at hc
  have y1 := hpr.1.1
  have y2 := hpr.1.2
  obtain ⟨y, rfl⟩ := Int.eq_ofNat_of_zero_le (show 0 ≤ y by omega)
  iterate 4 refine mj_T.pl rfl rfl rfl rfl ?_
  exact ra_rsb_loop (by omega) (by omega) (by omega) hs10 K10 e10 (an.y ⟨by omega, by omega⟩ (an.y hpr (an.e (by rw [Int.toNat_natCast, rbc_cg (fun j hj => rwN_at K10.2.1 (r := x) (by omega) hj)])))) y 0 0 (by omega) (by decide) rfl
theorem ra_rtb_loop {S N B X V : Nat → Int} {r z : Nat} (hr : r ≤ 5) (hz : 2 ≤ z) (hz2 : z ≤ 97) (hs : rS S N B T X V h) (K : jKx N0 u0 H tm er S N B T) (e3s : S 3 = 0) {A : Int → Int → Prop} (hA : ∀ k : Nat, k < z → hrv (fun e => N (r * 13 + e)) (k : Int) (z : Int) 13 0 = 0 → (∀ y : Nat, y < k → hrv (fun e => N (r * 13 + e)) (y : Int) (z : Int) 13 0 ≠ 0) → A 0 (k : Int)) (hB : (∀ y : Nat, y < z → hrv (fun e => N (r * 13 + e)) (y : Int) (z : Int) 13 0 ≠ 0) → A 3 0) :
    ∀ (m k : Nat), k + m = z → (∀ y : Nat, y < k → hrv (fun e => N (r * 13 + e)) (y : Int) (z : Int) 13 0 ≠ 0) → mj_T 39 mj_m282 33 [some (.ref 0), some (.int (jn (r : Int))), some (.int (jn (z : Int))), some (.int (jn (k : Int)))] [] h (rIa A N0 u0 H tm er T) := by
  intro m
  induction m with
  | zero =>
    intro k hk hn
    iterate 2 refine mj_T.pl rfl rfl rfl rfl ?_
    refine mj_T.icmp (a := (k : Int)) (b := (z : Int)) rfl ⟨by omega, by omega⟩ ⟨by omega, by omega⟩ (fun hc2 => ?_) (fun hc2 => ?_)
    rotate_left
    · simp only [jc, decide_eq_false_iff_not] at hc2
      omega
    iterate 2 refine mj_T.pl rfl rfl rfl rfl ?_
    refine mj_T.call (ins := .invokevirtual 198) rfl rfl (Nat.le_of_ble_eq_true rfl) (Nat.le_of_ble_eq_true rfl) (by simp [mj_recv, rS_f hs]) rfl (mj_Ok.up (by decide) (rp_fails (D := 0) (c := 3) hs)) (fun v' g13 hq' => ?_) (fun i h' hq' => by obtain ⟨_, _, h⟩ := hq'; cases h)
    obtain ⟨_, hs13, hq'⟩ := hq'
    cases hq'
    exact mj_T.ret rfl rfl rfl ⟨3, 0, g13, hB (fun y hy => hn y (by omega)), ⟨by decide, by decide⟩, rfl, ⟨_, N, B, X, V, hs13, K.put ⟨by decide, by decide⟩ (by decide) (by decide) (by decide) (by decide) (by decide), jvu_at _ _ _⟩⟩
  | succ m ih =>
    intro k hk hn
    iterate 2 refine mj_T.pl rfl rfl rfl rfl ?_
    refine mj_T.icmp (a := (k : Int)) (b := (z : Int)) rfl ⟨by omega, by omega⟩ ⟨by omega, by omega⟩ (fun hc2 => ?_) (fun hc2 => ?_)
    · simp only [jc, decide_eq_true_eq] at hc2
      omega
    iterate 4 refine mj_T.pl rfl rfl rfl rfl ?_
    refine mj_T.call (ins := .invokevirtual 341) rfl rfl (Nat.le_of_ble_eq_true rfl) (Nat.le_of_ble_eq_true rfl) (by simp [mj_recv, rS_f hs]) rfl (mj_Ok.up (by decide) (ra_isRootBy (r := r) (x := k) (z := z) hr (by omega) hz hz2 K.nR hs)) (fun v' h' hq' => ?_) (fun i h' hq' => by rcases hq' with ⟨_, h⟩ | ⟨_, h⟩ <;> cases h)
    rcases hq' with ⟨hh, hq'⟩ | ⟨hh, hq'⟩
    · cases hq'
      refine mj_T.if0 (a := 0) rfl ⟨by decide, by decide⟩ (fun hc => ?_) (fun hc => ?_)
      rotate_left
      · simp [jc] at hc
      refine mj_T.iinc (a := (k : Int)) rfl rfl ?_
      refine mj_T.pl rfl rfl rfl rfl ?_
      exact ih (k + 1) (by omega) (fun y hy => by
        by_cases e : y = k
        · rw [e]
          exact hh
        · exact hn y (by omega))
    · cases hq'
      refine mj_T.if0 (a := 1) rfl ⟨by decide, by decide⟩ (fun hc => ?_) (fun hc => ?_)
      · simp [jc] at hc
      refine mj_T.pl rfl rfl rfl rfl ?_
      exact mj_T.ret rfl rfl rfl ⟨0, (k : Int), h, hA k (by omega) hh hn, ⟨by omega, by omega⟩, rfl, ⟨_, _, _, _, _, hs, K, e3s⟩⟩
theorem ra_rootBy {x y : Int} (hx : jr x) (hy : jr y) (hI : jIx N0 u0 H tm er T h) : mj_Ok 40 282 [.ref 0, .int (jn x), .int (jn y)] h (rIa (A_rootBy N0 x y) N0 u0 H tm er T) := by
  refine mj_Ok.of (M := mj_m282) rfl rfl rfl ?_
  obtain ⟨S, N, B, X, V, hs, K⟩ := hI
  iterate 2 refine mj_T.pl rfl rfl rfl rfl ?_
  refine rT_put (v := 0) hs rfl rfl (by decide) rfl (fun g14 hs14 => ?_)
  have K14 := K.put (k := 3) (v := 0) ⟨by decide, by decide⟩ (by decide) (by decide) (by decide) (by decide) (by decide)
  have e14 : jvu S 3 0 3 = 0 := jvu_at S 3 0
  generalize jvu S 3 0 = S14 at hs14 K14 e14
  refine mj_T.pl rfl rfl rfl rfl ?_
  refine mj_T.call (ins := .invokestatic 181) rfl rfl (Nat.le_of_ble_eq_true rfl) (Nat.le_of_ble_eq_true rfl) rfl rfl (mj_Ok.up (by decide) (rp_isRegister (D := 0) hx)) (fun v' h' hq' => ?_) (fun i h' hq' => by rcases hq' with ⟨_, _, h⟩ | ⟨_, h⟩ <;> cases h)
  rcases hq' with ⟨x1, x2, hq'⟩ | ⟨cn, hq'⟩
  case' inr =>
    cases hq'
    refine mj_T.if0 (a := 0) rfl ⟨by decide, by decide⟩ (fun hc => ?_) (fun hc => ?_)
    · simp [jc] at hc
    iterate 2 refine mj_T.pl rfl rfl rfl rfl ?_
    refine mj_T.call (ins := .invokevirtual 198) rfl rfl (Nat.le_of_ble_eq_true rfl) (Nat.le_of_ble_eq_true rfl) (by simp [mj_recv, rS_f hs14]) rfl (mj_Ok.up (by decide) (rp_fails (D := 0) (c := 1) hs14)) (fun v' g15 hq' => ?_) (fun i h' hq' => by obtain ⟨_, _, h⟩ := hq'; cases h)
    obtain ⟨_, hs15, hq'⟩ := hq'
    cases hq'
    exact mj_T.ret rfl rfl rfl ⟨1, 0, g15, an.n (by omega), ⟨by decide, by decide⟩, rfl, ⟨_, N, B, X, V, hs15, K14.put ⟨by decide, by decide⟩ (by decide) (by decide) (by decide) (by decide) (by decide), jvu_at _ _ _⟩⟩
  cases hq'
  refine mj_T.if0 (a := 1) rfl ⟨by decide, by decide⟩ (fun hc => ?_) (fun hc => ?_)
  rotate_left
  · simp [jc] at hc
  obtain ⟨x, rfl⟩ := Int.eq_ofNat_of_zero_le x1
  refine mj_T.pl rfl rfl rfl rfl ?_
  refine mj_T.call (ins := .invokestatic 240) rfl rfl (Nat.le_of_ble_eq_true rfl) (Nat.le_of_ble_eq_true rfl) rfl rfl (mj_Ok.up (by decide) (rx_isPrime hy)) (fun v' h' hq' => ?_) (fun i h' hq' => by rcases hq' with ⟨_, h⟩ | ⟨_, h⟩ <;> cases h)
  rcases hq' with ⟨hpr, hq'⟩ | ⟨cn, hq'⟩
  case' inr =>
    cases hq'
    refine mj_T.if0 (a := 0) rfl ⟨by decide, by decide⟩ (fun hc => ?_) (fun hc => ?_)
    · simp [jc] at hc
    iterate 2 refine mj_T.pl rfl rfl rfl rfl ?_
    refine mj_T.call (ins := .invokevirtual 198) rfl rfl (Nat.le_of_ble_eq_true rfl) (Nat.le_of_ble_eq_true rfl) (by simp [mj_recv, rS_f hs14]) rfl (mj_Ok.up (by decide) (rp_fails (D := 0) (c := 2) hs14)) (fun v' g16 hq' => ?_) (fun i h' hq' => by obtain ⟨_, _, h⟩ := hq'; cases h)
    obtain ⟨_, hs16, hq'⟩ := hq'
    cases hq'
    exact mj_T.ret rfl rfl rfl ⟨2, 0, g16, an.y ⟨by omega, by omega⟩ (an.n cn), ⟨by decide, by decide⟩, rfl, ⟨_, N, B, X, V, hs16, K14.put ⟨by decide, by decide⟩ (by decide) (by decide) (by decide) (by decide) (by decide), jvu_at _ _ _⟩⟩
  cases hq'
  refine mj_T.if0 (a := 1) rfl ⟨by decide, by decide⟩ (fun hc => ?_) (fun hc => ?_)
  rotate_left
  · simp [jc] at hc
  have y1 := hpr.1.1
  have y2 := hpr.1.2
  obtain ⟨y, rfl⟩ := Int.eq_ofNat_of_zero_le (show 0 ≤ y by omega)
  iterate 2 refine mj_T.pl rfl rfl rfl rfl ?_
  have hc9 : ∀ k : Nat, hrv (fun e => N (x * 13 + e)) (k : Int) (y : Int) 13 0 = hrv (rwN N0 (x : Int)) (k : Int) (y : Int) 13 0 := fun k => hrv_cg 13 0 (fun j hj => rwN_at K14.2.1 (r := x) (by omega) hj)
  exact ra_rtb_loop (by omega) (by omega) (by omega) hs14 K14 e14 (fun k h1 h2 h3 => an.y ⟨by omega, by omega⟩ (an.y hpr (an.y ⟨k, by omega, (hc9 k).symm.trans h2⟩ (an.e ⟨k, rfl, by omega, (hc9 k).symm.trans h2, fun w hw e => h3 w hw ((hc9 w).trans e)⟩)))) (fun hn => an.y ⟨by omega, by omega⟩ (an.y hpr (an.n (fun q => by
    obtain ⟨w, w1, w2⟩ := q
    exact hn w (by omega) ((hc9 w).trans w2))))) y 0 (by omega) (fun w hw => absurd hw (by omega))
end RBU
section RBG
variable {h : mj_H} {u : Nat} {N : Nat → Int} {H : Nat → Nat → Int} {tm er : Int} {T : Nat → Int}
theorem ga_rootsBy {x : Int} (jx : jr x) {y : Int} (jy : jr y) (I : jIx N u H tm er T h) : mj_Ok 60 281 [.ref 0, .int (jn x), .int (jn y)] h (rZa (sameQ N u H) (A_rootsBy N x y) tm er T) := (mj_Ok.up (by decide) (ra_rootsBy jx jy I)).to (fun r k => k.za)
theorem ga_rootBy {x : Int} (jx : jr x) {y : Int} (jy : jr y) (I : jIx N u H tm er T h) : mj_Ok 60 282 [.ref 0, .int (jn x), .int (jn y)] h (rZa (sameQ N u H) (A_rootBy N x y) tm er T) := (mj_Ok.up (by decide) (ra_rootBy jx jy I)).to (fun r k => k.za)
end RBG
