/-! The class loosely: roots. -/
section MLU
variable {g h : mj_H} {n D pc nm f r4 r5 : Nat} {V : Nat → Int} {X : Nat → Nat → Int} {M : mj_M} {loc : mj_L} {st : List Value} {Q : mj_R → Prop}
theorem jM.setOL (m : jM g n V X h) {a i k : Nat} {v : Int} (ka : cK a = k) (hk : 7 < k ∧ k ≠ 18 ∧ k ≠ 12) (he : jMf (xup X a i v) k a = (jMf X k a).set i (.long (jl v))) : jM g n V (xup X a i v) (h.set a (.inr (jkc k, (jMf X k a).set i (.long (jl v))))) := by
  have hl := (List.getElem?_eq_some_iff.mp (m.O k ka hk)).1
  refine m.up (fun x => x = a) (by rw [List.length_set]) (fun x hx => by subst hx; omega) (fun p hp => List.getElem?_set_ne (fun e => hp e.symm)) (fun _ _ => rfl) (fun x hx => funext fun j => xup_ne _ _ (Or.inl hx)) (fun x hx => ?_) (fun x hx => ?_)
  · have := mK_w hx
    constructor
    · intro e
      subst e
      omega
    · intro e
      rw [e] at this
      omega
  · subst hx
    unfold jMk
    rw [ka, if_neg (by omega), if_neg (by omega), if_neg (by omega), if_neg (by omega), if_neg (by omega), if_neg (by omega), if_neg (by omega), he, List.getElem?_set_self hl]
theorem mT_putL (m : jM g n V X h) {a : Nat} (k : Nat) {v : Int} (ka : cK a = k) (hk : 7 < k ∧ k ≠ 18 ∧ k ≠ 12) {r3 : Nat} (hc : M.2.2.2.2.1 pc = some (.putfield nm, jkc k, f, r3, r4, r5)) (he : jMf (xup X a f v) k a = (jMf X k a).set f (.long (jl v))) (hl : f < (jMf X k a).length) (hv : mj_fit r3 (.long (jl v)) = true) (q : ∀ h', jM g n V (xup X a f v) h' → mj_T D M (pc + 3) loc st h' Q) : mj_T D M pc loc (.long (jl v) :: .ref a :: st) h Q := mj_T.pfl hc (m.O k ka hk) hl hv (q _ (m.setOL ka hk he))
theorem mZ_37' (m : jM g n V X h) {p : Nat} (kp : cK p = 13) (dg : -1 ≤ X p 2 ∧ X p 2 < cL (p + 3)) : mj_Ok (D + 2) 37 [.ref p] h (fun r => ∃ a, (frW a ∨ a = p + 1) ∧ r = (.inl (some (.ref a)), h)) := by
  have hb := (mK_p kp).2.2.1
  by_cases c : 0 ≤ X p 2
  · exact (mP_lead (D := D) m kp (e := (X p 2).toNat) (by omega) (by omega)).to fun r hr => ⟨_, Or.inl (fr_part kp (by omega)), hr⟩
  · refine mj_Ok.of (M := mj_m37) rfl rfl rfl ?_
    iterate 2 refine mj_T.pl rfl rfl rfl rfl ?_
    refine mT_get m 13 kp (by decide) rfl rfl ?_
    refine mj_T.call rfl rfl (Nat.le_of_ble_eq_true rfl) (Nat.le_of_ble_eq_true rfl) (mV_of m 13 kp (by decide) rfl (by decide) rfl _) rfl (mj_Ok.up (by omega) (mP_atB (D := 0) m kp (e := X p 2) ⟨by omega, by omega⟩ (Or.inl (by omega)))) (fun v g1 hq => ?_) (fun i g1 hq => ?_)
    rotate_left
    · cases hq
    cases hq
    refine mj_T.eq (pc2 := 8) (st2 := [.ref (p + 1)]) ?_ rfl rfl rfl rfl
    exact mj_T.ret rfl rfl rfl ⟨_, Or.inr rfl, rfl⟩
theorem mF_87x (M : jM g n V X h) (b : by0 V) {c a p : Nat} (fc : frW c) (kp : cK p = 13) (fa : frW a ∨ a = p + 1) : mj_Ok (D + 1) 87 [.ref c, .ref a] h (fun r => ∃ V2 h2, jM g n V2 X h2 ∧ by0 V2 ∧ r = (.inl none, h2)) := by
  rcases fa with fa | e
  · exact mF_87 M b fc fa
  · subst e
    exact (mW_set M fc.1 (mK_p kp).1 (fun e => fc.2 (e ▸ by0_m kp)) (by rw [b.p kp]; exact Nat.le_trans (Nat.le_of_eq jnl_zero) (Nat.zero_le _))).to fun r hr => by
      obtain ⟨h2, m2, e⟩ := hr
      exact ⟨_, h2, m2, b.jvu fc.2, e⟩
theorem mZ_63_t {V1 : Nat → Int} {X1 : Nat → Nat → Int} {h1 : mj_H} (m : jM g n V1 X1 h1) (b : by0 V1) (fx : FX X X1) (dg : DG X1) : mj_T (D + 6) mj_m63 21 [some (.ref 444)] [] h1 (fun z => ∃ (V2 : Nat → Int) (X2 : Nat → Nat → Int) (c : Int) (h2 : mj_H), jM g n V2 X2 h2 ∧ by0 V2 ∧ FX X X2 ∧ DG X2 ∧ (-2147483648 ≤ c ∧ c ≤ 2147483647) ∧ z = (.inl (some (.int (jn c))), h2)) := by
  iterate 2 refine mj_T.pl rfl rfl rfl rfl ?_
  refine mT_get m 15 cq_d444 (by decide) rfl rfl ?_
  refine mj_T.pl rfl rfl rfl rfl ?_
  refine mj_T.call rfl rfl (Nat.le_of_ble_eq_true rfl) (Nat.le_of_ble_eq_true rfl) (mV_of m 16 cq_d172 (by decide) rfl (by decide) rfl _) rfl (mj_Ok.up (by omega) (mZ_77 (D := 0) m dg (by omega))) (fun v g1 hq => ?_) (fun i g1 hq => ?_)
  rotate_left
  · obtain ⟨_, _, hq⟩ := hq; cases hq
  obtain ⟨z2, rz2, hq⟩ := hq
  cases hq
  refine mj_T.eq (pc2 := 30) (st2 := [.int (jn z2), .ref 444]) ?_ rfl rfl rfl rfl
  refine mT_put (v := z2) m 15 cq_d444 (by decide) rfl (by simp [jMf, xup]) (by simp [jMf]) rfl (fun h3 m4 => ?_)
  iterate 2 refine mj_T.pl rfl rfl rfl rfl ?_
  refine mT_get m4 15 cq_d444 (by decide) rfl rfl ?_
  refine jT.anyI (fun z5 rz5 => ?_)
  refine mj_T.pl rfl rfl rfl rfl ?_
  refine mT_get m4 15 cq_d444 (by decide) rfl rfl ?_
  refine mj_T.pl rfl rfl rfl rfl ?_
  refine mj_T.call rfl rfl (Nat.le_of_ble_eq_true rfl) (Nat.le_of_ble_eq_true rfl) (mV_of m4 16 cq_d172 (by decide) rfl (by decide) rfl _) rfl (mj_Ok.up (by omega) (mZ_77 (D := 0) m4 (dg.oth (by decide +kernel)) (by omega))) (fun v g6 hq => ?_) (fun i g6 hq => ?_)
  rotate_left
  · obtain ⟨_, _, hq⟩ := hq; cases hq
  obtain ⟨z7, rz7, hq⟩ := hq
  cases hq
  refine mj_T.eq (pc2 := 46) (st2 := [.int (jn z7), .int (jn z5), .ref 444]) ?_ rfl rfl rfl rfl
  refine mj_T.isub (a := z5) (b := z7) rfl ?_
  refine jT.anyI (fun z8 rz8 => ?_)
  refine mT_put (v := z8) m4 15 cq_d444 (by decide) rfl (by simp [jMf, xup]) (by simp [jMf]) rfl (fun h9 m10 => ?_)
  refine mj_T.pl rfl rfl rfl rfl ?_
  refine mT_get m10 15 cq_d444 (by decide) rfl rfl ?_
  refine jT.anyI (fun z11 rz11 => ?_)
  exact mj_T.ret rfl rfl rfl ⟨V1, _, _, _, m10, b, ((fx.tr (FX.up (Or.inr (Or.inl cq_d444)))).tr (FX.up (Or.inr (Or.inl cq_d444)))), ((dg.oth (by decide +kernel)).oth (by decide +kernel)), ⟨by omega, by omega⟩, rfl⟩
theorem mZ_63 (m : jM g n V X h) (b : by0 V) (dg : DG X) : mj_Ok (D + 7) 63 [.ref 444] h (fun z => ∃ (V2 : Nat → Int) (X2 : Nat → Nat → Int) (c : Int) (h2 : mj_H), jM g n V2 X2 h2 ∧ by0 V2 ∧ FX X X2 ∧ DG X2 ∧ (-2147483648 ≤ c ∧ c ≤ 2147483647) ∧ z = (.inl (some (.int (jn c))), h2)) := by
  refine mj_Ok.of (M := mj_m63) rfl rfl rfl ?_
  refine mj_T.pl rfl rfl rfl rfl ?_
  refine mT_get m 15 cq_d444 (by decide) rfl rfl ?_
  refine jT.anyI (fun z1 rz1 => ?_)
  refine mj_T.if0 (a := z1) rfl ⟨by omega, by omega⟩ (fun c2 => ?_) (fun c2 => ?_)
  · simp only [jc, Bool.not_eq_true', Bool.not_eq_false', decide_eq_true_eq, decide_eq_false_iff_not] at c2
    exact mZ_63_t m b (FX.rf X) dg
  · simp only [jc, Bool.not_eq_true', Bool.not_eq_false', decide_eq_true_eq, decide_eq_false_iff_not] at c2
    refine mj_T.pl rfl rfl rfl rfl ?_
    refine mT_get m 15 cq_d444 (by decide) rfl rfl ?_
    have p180 : cL (180 + 3) = 13 := (mK_r.2.2.2.2.2.1 0 (by decide)).2
    have e180 := dg 180 cq_d180
    refine mj_T.call rfl rfl (Nat.le_of_ble_eq_true rfl) (Nat.le_of_ble_eq_true rfl) (mV_of m 16 cq_d172 (by decide) rfl (by decide) rfl _) rfl (mj_Ok.up (by omega) (mZ_69 (D := 0) m b rfl (by omega))) (fun v g3 hq => ?_) (fun i g3 hq => ?_)
    rotate_left
    · obtain ⟨_, _, _, _, _, _, hq⟩ := hq; cases hq
    obtain ⟨V5, d2, _, m4, b6, hd2, hq⟩ := hq
    cases hq
    refine mj_T.eq (pc2 := 14) (st2 := []) ?_ rfl rfl rfl rfl
    refine mj_T.pl rfl rfl rfl rfl ?_
    refine mT_get m4 15 cq_d444 (by decide) rfl rfl ?_
    refine mj_T.call rfl rfl (Nat.le_of_ble_eq_true rfl) (Nat.le_of_ble_eq_true rfl) (mV_of m4 16 cq_d172 (by decide) rfl (by decide) rfl _) rfl (mj_Ok.up (by omega) (mZ_70 (D := 0) m4 b6 (dg.deg hd2))) (fun v g7 hq => ?_) (fun i g7 hq => ?_)
    rotate_left
    · obtain ⟨_, _, _, _, _, _, _, hq⟩ := hq; cases hq
    obtain ⟨V8, X11, _, m9, b10, f12, dg13, hq⟩ := hq
    cases hq
    refine mj_T.eq (pc2 := 21) (st2 := []) ?_ rfl rfl rfl rfl
    exact mZ_63_t m9 b10 (((FX.rf X).tr (FX.up (Or.inl cq_d210))).tr f12) dg13
theorem mZ_64_b {y : Int} (hy : jR y) : ∀ (k i : Nat), 200 = i + k → ∀ (V1 : Nat → Int) (X1 : Nat → Nat → Int) (h1 : mj_H), jM g n V1 X1 h1 → by0 V1 → FX X X1 → DG X1 → mj_T (D + 4) mj_m64 97 [some (.ref 444), some (.long (jl y)), none, some (.ref 180), some (.int (jn (i : Int)))] [] h1 (fun z => ∃ (V2 : Nat → Int) (X2 : Nat → Nat → Int) (h2 : mj_H), jM g n V2 X2 h2 ∧ by0 V2 ∧ FX X X2 ∧ DG X2 ∧ z = (.inl none, h2))
  | 0, i, hi, V1, X1, h1, m, b, fx, dg => by
    iterate 2 refine mj_T.pl rfl rfl rfl rfl ?_
    refine mj_T.icmp (a := ((i : Nat) : Int)) (b := 200) rfl ⟨by omega, by omega⟩ ⟨by omega, by omega⟩ (fun c1 => ?_) (fun c1 => ?_)
    · simp only [jc, Bool.not_eq_true', Bool.not_eq_false', decide_eq_true_eq, decide_eq_false_iff_not] at c1
      refine mj_T.pl rfl rfl rfl rfl ?_
      refine mT_get m 15 cq_d444 (by decide) rfl rfl ?_
      refine mj_T.pl rfl rfl rfl rfl ?_
      refine mj_T.call rfl rfl (Nat.le_of_ble_eq_true rfl) (Nat.le_of_ble_eq_true rfl) (mV_of m 16 cq_d172 (by decide) rfl (by decide) rfl _) rfl (mj_Ok.up (by omega) (mZ_74 (D := 0) m b dg hy)) (fun v g2 hq => ?_) (fun i g2 hq => ?_)
      rotate_left
      · obtain ⟨_, _, _, _, hq⟩ := hq; cases hq
      obtain ⟨V3, _, m4, b5, hq⟩ := hq
      cases hq
      refine mj_T.eq (pc2 := 179) (st2 := []) ?_ rfl rfl rfl rfl
      exact mj_T.ret rfl rfl rfl ⟨V3, _, _, m4, b5, fx, dg, rfl⟩
    · exfalso
      simp only [jc, Bool.not_eq_true', Bool.not_eq_false', decide_eq_true_eq, decide_eq_false_iff_not] at c1
      omega
  | k + 1, i, hi, V1, X1, h1, m, b, fx, dg => by
    iterate 2 refine mj_T.pl rfl rfl rfl rfl ?_
    refine mj_T.icmp (a := ((i : Nat) : Int)) (b := 200) rfl ⟨by omega, by omega⟩ ⟨by omega, by omega⟩ (fun c1 => ?_) (fun c1 => ?_)
    · simp only [jc, Bool.not_eq_true', Bool.not_eq_false', decide_eq_true_eq, decide_eq_false_iff_not] at c1
      refine mj_T.pl rfl rfl rfl rfl ?_
      refine mT_get m 15 cq_d444 (by decide) rfl rfl ?_
      refine mj_T.pl rfl rfl rfl rfl ?_
      refine mj_T.call rfl rfl (Nat.le_of_ble_eq_true rfl) (Nat.le_of_ble_eq_true rfl) (mV_of m 16 cq_d172 (by decide) rfl (by decide) rfl _) rfl (mj_Ok.up (by omega) (mZ_74 (D := 0) m b dg hy)) (fun v g2 hq => ?_) (fun i g2 hq => ?_)
      rotate_left
      · obtain ⟨_, _, _, _, hq⟩ := hq; cases hq
      obtain ⟨V3, _, m4, b5, hq⟩ := hq
      cases hq
      refine mj_T.eq (pc2 := 179) (st2 := []) ?_ rfl rfl rfl rfl
      exact mj_T.ret rfl rfl rfl ⟨V3, _, _, m4, b5, fx, dg, rfl⟩
    · simp only [jc, Bool.not_eq_true', Bool.not_eq_false', decide_eq_true_eq, decide_eq_false_iff_not] at c1
      refine mj_T.pl rfl rfl rfl rfl ?_
      refine mT_get m 15 cq_d444 (by decide) rfl rfl ?_
      refine mj_T.pl rfl rfl rfl rfl ?_
      refine mT_get m 15 cq_d444 (by decide) rfl rfl ?_
      refine mj_T.call rfl rfl (Nat.le_of_ble_eq_true rfl) (Nat.le_of_ble_eq_true rfl) (mV_of m 18 cq_d445 (by decide) rfl (by decide) rfl _) rfl (mj_Ok.up (by omega) (mF_87 (D := 0) m b fr_d445 fr_d451)) (fun v g6 hq => ?_) (fun i g6 hq => ?_)
      rotate_left
      · obtain ⟨_, _, _, _, hq⟩ := hq; cases hq
      obtain ⟨V7, _, m8, b9, hq⟩ := hq
      cases hq
      refine mj_T.eq (pc2 := 116) (st2 := []) ?_ rfl rfl rfl rfl
      refine mj_T.pl rfl rfl rfl rfl ?_
      refine mT_get m8 15 cq_d444 (by decide) rfl rfl ?_
      refine mj_T.pl rfl rfl rfl rfl ?_
      refine mT_get m8 15 cq_d444 (by decide) rfl rfl ?_
      refine mj_T.pl rfl rfl rfl rfl ?_
      refine mj_T.call rfl rfl (Nat.le_of_ble_eq_true rfl) (Nat.le_of_ble_eq_true rfl) (mV_of m8 18 cq_d445 (by decide) rfl (by decide) rfl _) rfl (mj_Ok.up (by omega) (mF_91 (D := 0) m8 b9 fr_d445 fr_d449 (by omega))) (fun v g10 hq => ?_) (fun i g10 hq => ?_)
      rotate_left
      · obtain ⟨_, _, _, _, hq⟩ := hq; cases hq
      obtain ⟨V11, _, m12, b13, hq⟩ := hq
      cases hq
      refine mj_T.eq (pc2 := 128) (st2 := []) ?_ rfl rfl rfl rfl
      refine mj_T.pl rfl rfl rfl rfl ?_
      refine mT_get m12 15 cq_d444 (by decide) rfl rfl ?_
      refine mZ_sg m12 cq_d445 rfl (fun z14 rz14 => ?_)
      refine mj_T.if0 (a := z14) rfl ⟨by omega, by omega⟩ (fun c15 => ?_) (fun c15 => ?_)
      · simp only [jc, Bool.not_eq_true', Bool.not_eq_false', decide_eq_true_eq, decide_eq_false_iff_not] at c15
        refine mj_T.pl rfl rfl rfl rfl ?_
        refine mT_get m12 15 cq_d444 (by decide) rfl rfl ?_
        refine mj_T.pl rfl rfl rfl rfl ?_
        refine mT_get m12 15 cq_d444 (by decide) rfl rfl ?_
        refine mj_T.pl rfl rfl rfl rfl ?_
        refine mj_T.call rfl rfl (Nat.le_of_ble_eq_true rfl) (Nat.le_of_ble_eq_true rfl) (mV_of m12 18 cq_d449 (by decide) rfl (by decide) rfl _) rfl (mj_Ok.up (by omega) (mF_91 (D := 0) m12 b13 fr_d449 fr_d449 (by omega))) (fun v g16 hq => ?_) (fun i g16 hq => ?_)
        rotate_left
        · obtain ⟨_, _, _, _, hq⟩ := hq; cases hq
        obtain ⟨V17, _, m18, b19, hq⟩ := hq
        cases hq
        refine mj_T.eq (pc2 := 153) (st2 := []) ?_ rfl rfl rfl rfl
        refine mj_T.pl rfl rfl rfl rfl ?_
        refine mT_get m18 15 cq_d444 (by decide) rfl rfl ?_
        refine mj_T.pl rfl rfl rfl rfl ?_
        refine mT_get m18 15 cq_d444 (by decide) rfl rfl ?_
        refine mj_T.pl rfl rfl rfl rfl ?_
        refine mj_T.call rfl rfl (Nat.le_of_ble_eq_true rfl) (Nat.le_of_ble_eq_true rfl) (mV_of m18 18 cq_d447 (by decide) rfl (by decide) rfl _) rfl (mj_Ok.up (by omega) (mF_91 (D := 0) m18 b19 fr_d447 fr_d447 (by omega))) (fun v g20 hq => ?_) (fun i g20 hq => ?_)
        rotate_left
        · obtain ⟨_, _, _, _, hq⟩ := hq; cases hq
        obtain ⟨V21, _, m22, b23, hq⟩ := hq
        cases hq
        refine mj_T.eq (pc2 := 165) (st2 := []) ?_ rfl rfl rfl rfl
        refine mj_T.iinc rfl rfl ?_
        rw [show ((i : Nat) : Int) + 1 = ((i + 1 : Nat) : Int) by omega]
        refine mj_T.eq (loc2 := [some (.ref 444), some (.long (jl y)), none, some (.ref 180), some (.int (jn (((i + 1) : Nat) : Int)))]) ?_ rfl rfl rfl rfl
        refine mj_T.pl rfl rfl rfl rfl ?_
        exact mZ_64_b hy k (i + 1) (by omega) _ _ _ m22 b23 fx dg
      · simp only [jc, Bool.not_eq_true', Bool.not_eq_false', decide_eq_true_eq, decide_eq_false_iff_not] at c15
        iterate 2 refine mj_T.pl rfl rfl rfl rfl ?_
        refine mT_get m12 15 cq_d444 (by decide) rfl rfl ?_
        refine mj_T.pl rfl rfl rfl rfl ?_
        refine mj_T.call rfl rfl (Nat.le_of_ble_eq_true rfl) (Nat.le_of_ble_eq_true rfl) (mV_of m12 16 cq_d172 (by decide) rfl (by decide) rfl _) rfl (mj_Ok.up (by omega) (mZ_74 (D := 0) m12 b13 dg hy)) (fun v g24 hq => ?_) (fun i g24 hq => ?_)
        rotate_left
        · obtain ⟨_, _, _, _, hq⟩ := hq; cases hq
        obtain ⟨V25, _, m26, b27, hq⟩ := hq
        cases hq
        refine mj_T.eq (pc2 := 179) (st2 := []) ?_ rfl rfl rfl rfl
        exact mj_T.ret rfl rfl rfl ⟨V25, _, _, m26, b27, fx, dg, rfl⟩
theorem mZ_64_a {y : Int} (hy : jR y) : ∀ (k i : Nat), 14 = i + k → ∀ (V1 : Nat → Int) (X1 : Nat → Nat → Int) (h1 : mj_H), jM g n V1 X1 h1 → by0 V1 → FX X X1 → DG X1 → mj_T (D + 4) mj_m64 26 [some (.ref 444), some (.long (jl y)), none, some (.ref 180), some (.int (jn (i : Int)))] [] h1 (fun z => ∃ (V2 : Nat → Int) (X2 : Nat → Nat → Int) (h2 : mj_H), jM g n V2 X2 h2 ∧ by0 V2 ∧ FX X X2 ∧ DG X2 ∧ z = (.inl none, h2))
  | 0, i, hi, V1, X1, h1, m, b, fx, dg => by
    have p180 : cL (180 + 3) = 13 := (mK_r.2.2.2.2.2.1 0 (by decide)).2
    have e180 := dg 180 cq_d180
    iterate 2 refine mj_T.pl rfl rfl rfl rfl ?_
    refine mT_get m 13 cq_d180 (by decide) rfl rfl ?_
    refine mj_T.icmp (a := ((i : Nat) : Int)) (b := (X1 180 2)) rfl ⟨by omega, by omega⟩ ⟨by omega, by omega⟩ (fun c1 => ?_) (fun c1 => ?_)
    · simp only [jc, Bool.not_eq_true', Bool.not_eq_false', decide_eq_true_eq, decide_eq_false_iff_not] at c1
      refine mj_T.pl rfl rfl rfl rfl ?_
      refine mT_get m 15 cq_d444 (by decide) rfl rfl ?_
      refine mj_T.pl rfl rfl rfl rfl ?_
      refine mT_get m 15 cq_d444 (by decide) rfl rfl ?_
      refine mj_T.pl rfl rfl rfl rfl ?_
      refine mj_T.call rfl rfl (Nat.le_of_ble_eq_true rfl) (Nat.le_of_ble_eq_true rfl) (mV_of m 11 cq_d19 (by decide) rfl (by decide) rfl _) rfl (mj_Ok.up (by omega) (mZ_24 (D := 0) m b fr_d451 hy)) (fun v g22 hq => ?_) (fun i g22 hq => ?_)
      rotate_left
      · obtain ⟨_, _, _, _, hq⟩ := hq; cases hq
      obtain ⟨V23, _, m24, b25, hq⟩ := hq
      cases hq
      refine mj_T.eq (pc2 := 75) (st2 := []) ?_ rfl rfl rfl rfl
      refine mj_T.pl rfl rfl rfl rfl ?_
      refine mT_get m24 15 cq_d444 (by decide) rfl rfl ?_
      refine jT.lc 1 rfl rfl ?_
      refine mj_T.call rfl rfl (Nat.le_of_ble_eq_true rfl) (Nat.le_of_ble_eq_true rfl) (mV_of m24 18 cq_d447 (by decide) rfl (by decide) rfl _) rfl (mj_Ok.up (by omega) (mF_86 (D := 0) m24 b25 fr_d447 ⟨by decide, by decide⟩)) (fun v g26 hq => ?_) (fun i g26 hq => ?_)
      rotate_left
      · obtain ⟨_, _, _, _, hq⟩ := hq; cases hq
      obtain ⟨V27, _, m28, b29, hq⟩ := hq
      cases hq
      refine mj_T.eq (pc2 := 83) (st2 := []) ?_ rfl rfl rfl rfl
      refine mj_T.pl rfl rfl rfl rfl ?_
      refine mT_get m28 15 cq_d444 (by decide) rfl rfl ?_
      refine mj_T.pl rfl rfl rfl rfl ?_
      refine mj_T.call rfl rfl (Nat.le_of_ble_eq_true rfl) (Nat.le_of_ble_eq_true rfl) (mV_of m28 13 cq_d180 (by decide) rfl (by decide) rfl _) rfl (mj_Ok.up (by omega) (mZ_37' (D := 0) m28 cq_d180 (dg _ cq_d180))) (fun v g30 hq => ?_) (fun i g30 hq => ?_)
      rotate_left
      · obtain ⟨_, _, hq⟩ := hq; cases hq
      obtain ⟨a31, ka31, hq⟩ := hq
      cases hq
      have ca31 : cK a31 = 18 := ka31.elim (fun q => q.1) (fun q => by rw [q]; exact (mK_p cq_d180).1)
      refine mj_T.eq (pc2 := 91) (st2 := [.ref a31, .ref 449]) ?_ rfl rfl rfl rfl
      refine mj_T.call rfl rfl (Nat.le_of_ble_eq_true rfl) (Nat.le_of_ble_eq_true rfl) (mV_of m28 18 cq_d449 (by decide) rfl (by decide) rfl _) rfl (mj_Ok.up (by omega) (mF_87x (D := 0) m28 b29 fr_d449 cq_d180 ka31)) (fun v g32 hq => ?_) (fun i g32 hq => ?_)
      rotate_left
      · obtain ⟨_, _, _, _, hq⟩ := hq; cases hq
      obtain ⟨V33, _, m34, b35, hq⟩ := hq
      cases hq
      refine mj_T.eq (pc2 := 94) (st2 := []) ?_ rfl rfl rfl rfl
      refine mj_T.pl rfl rfl rfl rfl ?_
      refine mj_T.pl (loc' := [some (.ref 444), some (.long (jl y)), none, some (.ref 180), some (.int (jn 0))]) rfl rfl rfl rfl ?_
      exact mZ_64_b hy 200 0 (by omega) _ _ _ m34 b35 fx dg
    · exfalso
      simp only [jc, Bool.not_eq_true', Bool.not_eq_false', decide_eq_true_eq, decide_eq_false_iff_not] at c1
      omega
  | k + 1, i, hi, V1, X1, h1, m, b, fx, dg => by
    have p180 : cL (180 + 3) = 13 := (mK_r.2.2.2.2.2.1 0 (by decide)).2
    have e180 := dg 180 cq_d180
    iterate 2 refine mj_T.pl rfl rfl rfl rfl ?_
    refine mT_get m 13 cq_d180 (by decide) rfl rfl ?_
    refine mj_T.icmp (a := ((i : Nat) : Int)) (b := (X1 180 2)) rfl ⟨by omega, by omega⟩ ⟨by omega, by omega⟩ (fun c1 => ?_) (fun c1 => ?_)
    · simp only [jc, Bool.not_eq_true', Bool.not_eq_false', decide_eq_true_eq, decide_eq_false_iff_not] at c1
      refine mj_T.pl rfl rfl rfl rfl ?_
      refine mT_get m 15 cq_d444 (by decide) rfl rfl ?_
      refine mj_T.pl rfl rfl rfl rfl ?_
      refine mT_get m 15 cq_d444 (by decide) rfl rfl ?_
      refine mj_T.pl rfl rfl rfl rfl ?_
      refine mj_T.call rfl rfl (Nat.le_of_ble_eq_true rfl) (Nat.le_of_ble_eq_true rfl) (mV_of m 11 cq_d19 (by decide) rfl (by decide) rfl _) rfl (mj_Ok.up (by omega) (mZ_24 (D := 0) m b fr_d451 hy)) (fun v g22 hq => ?_) (fun i g22 hq => ?_)
      rotate_left
      · obtain ⟨_, _, _, _, hq⟩ := hq; cases hq
      obtain ⟨V23, _, m24, b25, hq⟩ := hq
      cases hq
      refine mj_T.eq (pc2 := 75) (st2 := []) ?_ rfl rfl rfl rfl
      refine mj_T.pl rfl rfl rfl rfl ?_
      refine mT_get m24 15 cq_d444 (by decide) rfl rfl ?_
      refine jT.lc 1 rfl rfl ?_
      refine mj_T.call rfl rfl (Nat.le_of_ble_eq_true rfl) (Nat.le_of_ble_eq_true rfl) (mV_of m24 18 cq_d447 (by decide) rfl (by decide) rfl _) rfl (mj_Ok.up (by omega) (mF_86 (D := 0) m24 b25 fr_d447 ⟨by decide, by decide⟩)) (fun v g26 hq => ?_) (fun i g26 hq => ?_)
      rotate_left
      · obtain ⟨_, _, _, _, hq⟩ := hq; cases hq
      obtain ⟨V27, _, m28, b29, hq⟩ := hq
      cases hq
      refine mj_T.eq (pc2 := 83) (st2 := []) ?_ rfl rfl rfl rfl
      refine mj_T.pl rfl rfl rfl rfl ?_
      refine mT_get m28 15 cq_d444 (by decide) rfl rfl ?_
      refine mj_T.pl rfl rfl rfl rfl ?_
      refine mj_T.call rfl rfl (Nat.le_of_ble_eq_true rfl) (Nat.le_of_ble_eq_true rfl) (mV_of m28 13 cq_d180 (by decide) rfl (by decide) rfl _) rfl (mj_Ok.up (by omega) (mZ_37' (D := 0) m28 cq_d180 (dg _ cq_d180))) (fun v g30 hq => ?_) (fun i g30 hq => ?_)
      rotate_left
      · obtain ⟨_, _, hq⟩ := hq; cases hq
      obtain ⟨a31, ka31, hq⟩ := hq
      cases hq
      have ca31 : cK a31 = 18 := ka31.elim (fun q => q.1) (fun q => by rw [q]; exact (mK_p cq_d180).1)
      refine mj_T.eq (pc2 := 91) (st2 := [.ref a31, .ref 449]) ?_ rfl rfl rfl rfl
      refine mj_T.call rfl rfl (Nat.le_of_ble_eq_true rfl) (Nat.le_of_ble_eq_true rfl) (mV_of m28 18 cq_d449 (by decide) rfl (by decide) rfl _) rfl (mj_Ok.up (by omega) (mF_87x (D := 0) m28 b29 fr_d449 cq_d180 ka31)) (fun v g32 hq => ?_) (fun i g32 hq => ?_)
      rotate_left
      · obtain ⟨_, _, _, _, hq⟩ := hq; cases hq
      obtain ⟨V33, _, m34, b35, hq⟩ := hq
      cases hq
      refine mj_T.eq (pc2 := 94) (st2 := []) ?_ rfl rfl rfl rfl
      refine mj_T.pl rfl rfl rfl rfl ?_
      refine mj_T.pl (loc' := [some (.ref 444), some (.long (jl y)), none, some (.ref 180), some (.int (jn 0))]) rfl rfl rfl rfl ?_
      exact mZ_64_b hy 200 0 (by omega) _ _ _ m34 b35 fx dg
    · simp only [jc, Bool.not_eq_true', Bool.not_eq_false', decide_eq_true_eq, decide_eq_false_iff_not] at c1
      refine mj_T.pl rfl rfl rfl rfl ?_
      refine mT_get m 15 cq_d444 (by decide) rfl rfl ?_
      iterate 2 refine mj_T.pl rfl rfl rfl rfl ?_
      refine mj_T.call rfl rfl (Nat.le_of_ble_eq_true rfl) (Nat.le_of_ble_eq_true rfl) (mV_of m 13 cq_d180 (by decide) rfl (by decide) rfl _) rfl (mj_Ok.up (by omega) (mP_at (D := 0) m cq_d180 (e := i) (by omega))) (fun v g2 hq => ?_) (fun i g2 hq => ?_)
      rotate_left
      · cases hq
      cases hq
      refine mj_T.eq (pc2 := 45) (st2 := [.ref (180 + 4 + 2 * i), .ref 451]) ?_ rfl rfl rfl rfl
      iterate 2 refine mj_T.pl rfl rfl rfl rfl ?_
      refine mj_T.call rfl rfl (Nat.le_of_ble_eq_true rfl) (Nat.le_of_ble_eq_true rfl) (mV_of m 13 cq_d180 (by decide) rfl (by decide) rfl _) rfl (mj_Ok.up (by omega) (mP_at (D := 0) m cq_d180 (e := i) (by omega))) (fun v g3 hq => ?_) (fun i g3 hq => ?_)
      rotate_left
      · cases hq
      cases hq
      refine mj_T.eq (pc2 := 51) (st2 := [.ref (180 + 4 + 2 * i), .ref (180 + 4 + 2 * i), .ref 451]) ?_ rfl rfl rfl rfl
      refine mZ_sg m ((mK_p cq_d180).2.2.2 i (by omega)) rfl (fun z4 rz4 => ?_)
      refine mj_T.call rfl rfl (Nat.le_of_ble_eq_true rfl) (Nat.le_of_ble_eq_true rfl) (mV_of m 18 cq_d451 (by decide) rfl (by decide) rfl _) rfl (mj_Ok.up (by omega) (mF_91 (D := 0) m b fr_d451 (fr_part cq_d180 (by omega)) (by omega))) (fun v g5 hq => ?_) (fun i g5 hq => ?_)
      rotate_left
      · obtain ⟨_, _, _, _, hq⟩ := hq; cases hq
      obtain ⟨V6, _, m7, b8, hq⟩ := hq
      cases hq
      refine mj_T.eq (pc2 := 57) (st2 := []) ?_ rfl rfl rfl rfl
      refine mj_T.iinc rfl rfl ?_
      rw [show ((i : Nat) : Int) + 1 = ((i + 1 : Nat) : Int) by omega]
      refine mj_T.eq (loc2 := [some (.ref 444), some (.long (jl y)), none, some (.ref 180), some (.int (jn (((i + 1) : Nat) : Int)))]) ?_ rfl rfl rfl rfl
      refine mj_T.pl rfl rfl rfl rfl ?_
      exact mZ_64_a hy k (i + 1) (by omega) _ _ _ m7 b8 fx dg
theorem mZ_64 (m : jM g n V X h) (b : by0 V) (dg : DG X) {y : Int} (hy : jR y) : mj_Ok (D + 5) 64 [.ref 444, .long (jl y)] h (fun z => ∃ (V2 : Nat → Int) (X2 : Nat → Nat → Int) (h2 : mj_H), jM g n V2 X2 h2 ∧ by0 V2 ∧ FX X X2 ∧ DG X2 ∧ z = (.inl none, h2)) := by
  have hL : cL 173 = 14 := mK_r.2.2.2.1
  refine mj_Ok.of (M := mj_m64) rfl rfl rfl ?_
  iterate 2 refine mj_T.pl rfl rfl rfl rfl ?_
  refine mT_putL (v := y) m 15 cq_d444 (by decide) rfl (by simp [jMf, xup]) (by simp [jMf]) rfl (fun h1 m2 => ?_)
  refine mj_T.pl rfl rfl rfl rfl ?_
  refine mT_get m2 15 cq_d444 (by decide) rfl rfl ?_
  refine mT_get m2 16 cq_d172 (by decide) rfl rfl ?_
  refine mj_T.pl rfl rfl rfl rfl ?_
  refine mT_aald m2 5 cq_d173 (by decide) rfl rfl (by omega) ⟨by omega, by omega⟩ ?_
  refine mj_T.eq (st2 := [.ref 180]) ?_ rfl rfl rfl rfl
  refine mj_T.pl (loc' := [some (.ref 444), some (.long (jl y)), none, some (.ref 180), none]) rfl rfl rfl rfl ?_
  refine mj_T.pl rfl rfl rfl rfl ?_
  refine mT_get m2 15 cq_d444 (by decide) rfl rfl ?_
  refine jT.lc 0 rfl rfl ?_
  refine mj_T.call rfl rfl (Nat.le_of_ble_eq_true rfl) (Nat.le_of_ble_eq_true rfl) (mV_of m2 18 cq_d451 (by decide) rfl (by decide) rfl _) rfl (mj_Ok.up (by omega) (mF_86 (D := 0) m2 b fr_d451 ⟨by decide, by decide⟩)) (fun v g3 hq => ?_) (fun i g3 hq => ?_)
  rotate_left
  · obtain ⟨_, _, _, _, hq⟩ := hq; cases hq
  obtain ⟨V4, _, m5, b6, hq⟩ := hq
  cases hq
  refine mj_T.eq (pc2 := 23) (st2 := []) ?_ rfl rfl rfl rfl
  refine mj_T.pl rfl rfl rfl rfl ?_
  refine mj_T.pl (loc' := [some (.ref 444), some (.long (jl y)), none, some (.ref 180), some (.int (jn 0))]) rfl rfl rfl rfl ?_
  exact mZ_64_a hy 14 0 (by omega) _ _ _ m5 b6 ((FX.rf X).tr (FX.up (Or.inr (Or.inl cq_d444)))) (dg.oth (by decide +kernel))
theorem mZ_65_e {r s : Int} (hr : (-2147483648 ≤ r ∧ r ≤ 2147483647)) (hs : (-2147483648 ≤ s ∧ s ≤ 2147483647)) {a c : Int} (ha : (-2147483648 ≤ a ∧ a ≤ 2147483647)) (hc : (-2147483648 ≤ c ∧ c ≤ 2147483647)) {l6 l7 : Option Value} {V1 : Nat → Int} {X1 : Nat → Nat → Int} {h1 : mj_H} (m : jM g n V1 X1 h1) (b : by0 V1) (fx : FX X X1) (dg : DG X1) : mj_T (D + 5) mj_m65 210 [some (.ref 444), some (.int (jn r)), some (.ref 180), some (.int (jn a)), some (.int (jn c)), some (.int (jn s)), l6, l7] [] h1 (fun z => ∃ (V2 : Nat → Int) (X2 : Nat → Nat → Int) (h2 : mj_H), jM g n V2 X2 h2 ∧ by0 V2 ∧ FX X X2 ∧ DG X2 ∧ z = (.inl none, h2)) := by
  refine mj_T.pl rfl rfl rfl rfl ?_
  refine mT_get m 15 cq_d444 (by decide) rfl rfl ?_
  refine mj_T.pl rfl rfl rfl rfl ?_
  refine mT_get m 15 cq_d444 (by decide) rfl rfl ?_
  refine mj_T.call rfl rfl (Nat.le_of_ble_eq_true rfl) (Nat.le_of_ble_eq_true rfl) (mV_of m 18 cq_d451 (by decide) rfl (by decide) rfl _) rfl (mj_Ok.up (by omega) (mF_87 (D := 0) m b fr_d451 fr_d445)) (fun v g1 hq => ?_) (fun i g1 hq => ?_)
  rotate_left
  · obtain ⟨_, _, _, _, hq⟩ := hq; cases hq
  obtain ⟨V2, _, m3, b4, hq⟩ := hq
  cases hq
  refine mj_T.eq (pc2 := 221) (st2 := []) ?_ rfl rfl rfl rfl
  refine mj_T.pl rfl rfl rfl rfl ?_
  refine mT_get m3 15 cq_d444 (by decide) rfl rfl ?_
  refine mj_T.pl rfl rfl rfl rfl ?_
  refine mT_get m3 15 cq_d444 (by decide) rfl rfl ?_
  refine mj_T.pl rfl rfl rfl rfl ?_
  refine mj_T.call rfl rfl (Nat.le_of_ble_eq_true rfl) (Nat.le_of_ble_eq_true rfl) (mV_of m3 18 cq_d451 (by decide) rfl (by decide) rfl _) rfl (mj_Ok.up (by omega) (mF_91 (D := 0) m3 b4 fr_d451 fr_d453 (by omega))) (fun v g5 hq => ?_) (fun i g5 hq => ?_)
  rotate_left
  · obtain ⟨_, _, _, _, hq⟩ := hq; cases hq
  obtain ⟨V6, _, m7, b8, hq⟩ := hq
  cases hq
  refine mj_T.eq (pc2 := 233) (st2 := []) ?_ rfl rfl rfl rfl
  iterate 4 refine mj_T.pl rfl rfl rfl rfl ?_
  refine mj_T.iadd (a := r) (b := 1) rfl ?_
  refine jT.anyI (fun z9 rz9 => ?_)
  refine mj_T.icmp (a := c) (b := z9) rfl ⟨by omega, by omega⟩ ⟨by omega, by omega⟩ (fun c10 => ?_) (fun c10 => ?_)
  · simp only [jc, Bool.not_eq_true', Bool.not_eq_false', decide_eq_true_eq, decide_eq_false_iff_not] at c10
    refine mj_T.pl rfl rfl rfl rfl ?_
    refine mT_put (v := 0) m7 15 cq_d444 (by decide) rfl (by simp [jMf, xup]) (by simp [jMf]) rfl (fun h11 m12 => ?_)
    refine mj_T.pl rfl rfl rfl rfl ?_
    refine mT_get m12 15 cq_d444 (by decide) rfl rfl ?_
    refine jT.anyI (fun z13 rz13 => ?_)
    refine mj_T.if0 (a := z13) rfl ⟨by omega, by omega⟩ (fun c14 => ?_) (fun c14 => ?_)
    · simp only [jc, Bool.not_eq_true', Bool.not_eq_false', decide_eq_true_eq, decide_eq_false_iff_not] at c14
      exact mj_T.ret rfl rfl rfl ⟨V6, _, _, m12, b8, (fx.tr (FX.up (Or.inr (Or.inl cq_d444)))), (dg.oth (by decide +kernel)), rfl⟩
    · simp only [jc, Bool.not_eq_true', Bool.not_eq_false', decide_eq_true_eq, decide_eq_false_iff_not] at c14
      refine mj_T.pl rfl rfl rfl rfl ?_
      refine mT_get m12 15 cq_d444 (by decide) rfl rfl ?_
      refine mj_T.pl rfl rfl rfl rfl ?_
      refine mT_get m12 15 cq_d444 (by decide) rfl rfl ?_
      refine mj_T.call rfl rfl (Nat.le_of_ble_eq_true rfl) (Nat.le_of_ble_eq_true rfl) (mV_of m12 18 cq_d445 (by decide) rfl (by decide) rfl _) rfl (mj_Ok.up (by omega) (mF_87 (D := 0) m12 b8 fr_d445 fr_d451)) (fun v g15 hq => ?_) (fun i g15 hq => ?_)
      rotate_left
      · obtain ⟨_, _, _, _, hq⟩ := hq; cases hq
      obtain ⟨V16, _, m17, b18, hq⟩ := hq
      cases hq
      refine mj_T.eq (pc2 := 283) (st2 := []) ?_ rfl rfl rfl rfl
      exact mj_T.ret rfl rfl rfl ⟨V16, _, _, m17, b18, (fx.tr (FX.up (Or.inr (Or.inl cq_d444)))), (dg.oth (by decide +kernel)), rfl⟩
  · simp only [jc, Bool.not_eq_true', Bool.not_eq_false', decide_eq_true_eq, decide_eq_false_iff_not] at c10
    refine mj_T.pl rfl rfl rfl rfl ?_
    refine mT_get m7 15 cq_d444 (by decide) rfl rfl ?_
    iterate 2 refine mj_T.pl rfl rfl rfl rfl ?_
    refine mT_get m7 15 cq_d444 (by decide) rfl rfl ?_
    refine mj_T.call rfl rfl (Nat.le_of_ble_eq_true rfl) (Nat.le_of_ble_eq_true rfl) (mV_of m7 11 cq_d19 (by decide) rfl (by decide) rfl _) rfl (mj_Ok.up (by omega) (mZ_28 (D := 0) m7 b8 cq_d180 fr_d451 rfl (dg _ cq_d180))) (fun v g19 hq => ?_) (fun i g19 hq => ?_)
    rotate_left
    · obtain ⟨_, _, _, _, _, _, hq⟩ := hq; cases hq
    obtain ⟨V22, z20, _, m21, b23, rz20, hq⟩ := hq
    cases hq
    refine mj_T.eq (pc2 := 254) (st2 := [.int (jn z20), .ref 444]) ?_ rfl rfl rfl rfl
    refine mj_T.if0 (a := z20) rfl ⟨by omega, by omega⟩ (fun c24 => ?_) (fun c24 => ?_)
    · simp only [jc, Bool.not_eq_true', Bool.not_eq_false', decide_eq_true_eq, decide_eq_false_iff_not] at c24
      refine mj_T.pl rfl rfl rfl rfl ?_
      refine mT_put (v := 0) m21 15 cq_d444 (by decide) rfl (by simp [jMf, xup]) (by simp [jMf]) rfl (fun h25 m26 => ?_)
      refine mj_T.pl rfl rfl rfl rfl ?_
      refine mT_get m26 15 cq_d444 (by decide) rfl rfl ?_
      refine jT.anyI (fun z27 rz27 => ?_)
      refine mj_T.if0 (a := z27) rfl ⟨by omega, by omega⟩ (fun c28 => ?_) (fun c28 => ?_)
      · simp only [jc, Bool.not_eq_true', Bool.not_eq_false', decide_eq_true_eq, decide_eq_false_iff_not] at c28
        exact mj_T.ret rfl rfl rfl ⟨V22, _, _, m26, b23, (fx.tr (FX.up (Or.inr (Or.inl cq_d444)))), (dg.oth (by decide +kernel)), rfl⟩
      · simp only [jc, Bool.not_eq_true', Bool.not_eq_false', decide_eq_true_eq, decide_eq_false_iff_not] at c28
        refine mj_T.pl rfl rfl rfl rfl ?_
        refine mT_get m26 15 cq_d444 (by decide) rfl rfl ?_
        refine mj_T.pl rfl rfl rfl rfl ?_
        refine mT_get m26 15 cq_d444 (by decide) rfl rfl ?_
        refine mj_T.call rfl rfl (Nat.le_of_ble_eq_true rfl) (Nat.le_of_ble_eq_true rfl) (mV_of m26 18 cq_d445 (by decide) rfl (by decide) rfl _) rfl (mj_Ok.up (by omega) (mF_87 (D := 0) m26 b23 fr_d445 fr_d451)) (fun v g29 hq => ?_) (fun i g29 hq => ?_)
        rotate_left
        · obtain ⟨_, _, _, _, hq⟩ := hq; cases hq
        obtain ⟨V30, _, m31, b32, hq⟩ := hq
        cases hq
        refine mj_T.eq (pc2 := 283) (st2 := []) ?_ rfl rfl rfl rfl
        exact mj_T.ret rfl rfl rfl ⟨V30, _, _, m31, b32, (fx.tr (FX.up (Or.inr (Or.inl cq_d444)))), (dg.oth (by decide +kernel)), rfl⟩
    · simp only [jc, Bool.not_eq_true', Bool.not_eq_false', decide_eq_true_eq, decide_eq_false_iff_not] at c24
      iterate 2 refine mj_T.pl rfl rfl rfl rfl ?_
      refine mT_put (v := 1) m21 15 cq_d444 (by decide) rfl (by simp [jMf, xup]) (by simp [jMf]) rfl (fun h33 m34 => ?_)
      refine mj_T.pl rfl rfl rfl rfl ?_
      refine mT_get m34 15 cq_d444 (by decide) rfl rfl ?_
      refine jT.anyI (fun z35 rz35 => ?_)
      refine mj_T.if0 (a := z35) rfl ⟨by omega, by omega⟩ (fun c36 => ?_) (fun c36 => ?_)
      · simp only [jc, Bool.not_eq_true', Bool.not_eq_false', decide_eq_true_eq, decide_eq_false_iff_not] at c36
        exact mj_T.ret rfl rfl rfl ⟨V22, _, _, m34, b23, (fx.tr (FX.up (Or.inr (Or.inl cq_d444)))), (dg.oth (by decide +kernel)), rfl⟩
      · simp only [jc, Bool.not_eq_true', Bool.not_eq_false', decide_eq_true_eq, decide_eq_false_iff_not] at c36
        refine mj_T.pl rfl rfl rfl rfl ?_
        refine mT_get m34 15 cq_d444 (by decide) rfl rfl ?_
        refine mj_T.pl rfl rfl rfl rfl ?_
        refine mT_get m34 15 cq_d444 (by decide) rfl rfl ?_
        refine mj_T.call rfl rfl (Nat.le_of_ble_eq_true rfl) (Nat.le_of_ble_eq_true rfl) (mV_of m34 18 cq_d445 (by decide) rfl (by decide) rfl _) rfl (mj_Ok.up (by omega) (mF_87 (D := 0) m34 b23 fr_d445 fr_d451)) (fun v g37 hq => ?_) (fun i g37 hq => ?_)
        rotate_left
        · obtain ⟨_, _, _, _, hq⟩ := hq; cases hq
        obtain ⟨V38, _, m39, b40, hq⟩ := hq
        cases hq
        refine mj_T.eq (pc2 := 283) (st2 := []) ?_ rfl rfl rfl rfl
        exact mj_T.ret rfl rfl rfl ⟨V38, _, _, m39, b40, (fx.tr (FX.up (Or.inr (Or.inl cq_d444)))), (dg.oth (by decide +kernel)), rfl⟩
theorem mZ_65_l {r s : Int} (hr : (-2147483648 ≤ r ∧ r ≤ 2147483647)) (hs : (-2147483648 ≤ s ∧ s ≤ 2147483647)) : ∀ (k i : Nat), 200 = i + k → ∀ (a c : Int) (l7 : Option Value) (V1 : Nat → Int) (X1 : Nat → Nat → Int) (h1 : mj_H), (-2147483648 ≤ a ∧ a ≤ 2147483647) → (-2147483648 ≤ c ∧ c ≤ 2147483647) → jM g n V1 X1 h1 → by0 V1 → FX X X1 → DG X1 → mj_T (D + 5) mj_m65 69 [some (.ref 444), some (.int (jn r)), some (.ref 180), some (.int (jn a)), some (.int (jn c)), some (.int (jn s)), some (.int (jn (i : Int))), l7] [] h1 (fun z => ∃ (V2 : Nat → Int) (X2 : Nat → Nat → Int) (h2 : mj_H), jM g n V2 X2 h2 ∧ by0 V2 ∧ FX X X2 ∧ DG X2 ∧ z = (.inl none, h2))
  | 0, i, hi, a, c, l7, V1, X1, h1, ha, hc, m, b, fx, dg => by
    iterate 2 refine mj_T.pl rfl rfl rfl rfl ?_
    refine mj_T.icmp (a := ((i : Nat) : Int)) (b := 200) rfl ⟨by omega, by omega⟩ ⟨by omega, by omega⟩ (fun c1 => ?_) (fun c1 => ?_)
    · simp only [jc, Bool.not_eq_true', Bool.not_eq_false', decide_eq_true_eq, decide_eq_false_iff_not] at c1
      exact mZ_65_e hr hs ⟨by omega, by omega⟩ ⟨by omega, by omega⟩ m b fx dg
    · exfalso
      simp only [jc, Bool.not_eq_true', Bool.not_eq_false', decide_eq_true_eq, decide_eq_false_iff_not] at c1
      omega
  | k + 1, i, hi, a, c, l7, V1, X1, h1, ha, hc, m, b, fx, dg => by
    iterate 2 refine mj_T.pl rfl rfl rfl rfl ?_
    refine mj_T.icmp (a := ((i : Nat) : Int)) (b := 200) rfl ⟨by omega, by omega⟩ ⟨by omega, by omega⟩ (fun c1 => ?_) (fun c1 => ?_)
    · simp only [jc, Bool.not_eq_true', Bool.not_eq_false', decide_eq_true_eq, decide_eq_false_iff_not] at c1
      exact mZ_65_e hr hs ⟨by omega, by omega⟩ ⟨by omega, by omega⟩ m b fx dg
    · simp only [jc, Bool.not_eq_true', Bool.not_eq_false', decide_eq_true_eq, decide_eq_false_iff_not] at c1
      refine mj_T.pl rfl rfl rfl rfl ?_
      refine mT_get m 15 cq_d444 (by decide) rfl rfl ?_
      refine mZ_sg m cq_d449 rfl (fun z2 rz2 => ?_)
      refine mj_T.if0 (a := z2) rfl ⟨by omega, by omega⟩ (fun c3 => ?_) (fun c3 => ?_)
      · simp only [jc, Bool.not_eq_true', Bool.not_eq_false', decide_eq_true_eq, decide_eq_false_iff_not] at c3
        exact mZ_65_e hr hs ⟨by omega, by omega⟩ ⟨by omega, by omega⟩ m b fx dg
      · simp only [jc, Bool.not_eq_true', Bool.not_eq_false', decide_eq_true_eq, decide_eq_false_iff_not] at c3
        refine mj_T.pl rfl rfl rfl rfl ?_
        refine mT_get m 15 cq_d444 (by decide) rfl rfl ?_
        refine mj_T.pl rfl rfl rfl rfl ?_
        refine mT_get m 15 cq_d444 (by decide) rfl rfl ?_
        refine mj_T.call rfl rfl (Nat.le_of_ble_eq_true rfl) (Nat.le_of_ble_eq_true rfl) (mV_of m 18 cq_d451 (by decide) rfl (by decide) rfl _) rfl (mj_Ok.up (by omega) (mF_87 (D := 0) m b fr_d451 fr_d445)) (fun v g4 hq => ?_) (fun i g4 hq => ?_)
        rotate_left
        · obtain ⟨_, _, _, _, hq⟩ := hq; cases hq
        obtain ⟨V5, _, m6, b7, hq⟩ := hq
        cases hq
        refine mj_T.eq (pc2 := 98) (st2 := []) ?_ rfl rfl rfl rfl
        refine mj_T.pl rfl rfl rfl rfl ?_
        refine mT_get m6 15 cq_d444 (by decide) rfl rfl ?_
        refine mj_T.pl rfl rfl rfl rfl ?_
        refine mT_get m6 15 cq_d444 (by decide) rfl rfl ?_
        refine mj_T.pl rfl rfl rfl rfl ?_
        refine mj_T.call rfl rfl (Nat.le_of_ble_eq_true rfl) (Nat.le_of_ble_eq_true rfl) (mV_of m6 18 cq_d451 (by decide) rfl (by decide) rfl _) rfl (mj_Ok.up (by omega) (mF_91 (D := 0) m6 b7 fr_d451 fr_d449 (by omega))) (fun v g8 hq => ?_) (fun i g8 hq => ?_)
        rotate_left
        · obtain ⟨_, _, _, _, hq⟩ := hq; cases hq
        obtain ⟨V9, _, m10, b11, hq⟩ := hq
        cases hq
        refine mj_T.eq (pc2 := 110) (st2 := []) ?_ rfl rfl rfl rfl
        iterate 2 refine mj_T.pl rfl rfl rfl rfl ?_
        refine mj_T.isub (a := c) (b := a) rfl ?_
        refine jT.anyI (fun z12 rz12 => ?_)
        refine mj_T.pl rfl rfl rfl rfl ?_
        refine mj_T.icmp (a := z12) (b := 1) rfl ⟨by omega, by omega⟩ ⟨by omega, by omega⟩ (fun c13 => ?_) (fun c13 => ?_)
        · simp only [jc, Bool.not_eq_true', Bool.not_eq_false', decide_eq_true_eq, decide_eq_false_iff_not] at c13
          refine mj_T.pl rfl rfl rfl rfl ?_
          refine mT_get m10 15 cq_d444 (by decide) rfl rfl ?_
          refine jT.anyI (fun z14 rz14 => ?_)
          refine mj_T.pl rfl rfl rfl rfl ?_
          refine mT_get m10 15 cq_d444 (by decide) rfl rfl ?_
          refine mj_T.pl rfl rfl rfl rfl ?_
          refine mT_get m10 15 cq_d444 (by decide) rfl rfl ?_
          refine mj_T.call rfl rfl (Nat.le_of_ble_eq_true rfl) (Nat.le_of_ble_eq_true rfl) (mV_of m10 16 cq_d172 (by decide) rfl (by decide) rfl _) rfl (mj_Ok.up (by omega) (mZ_76 (D := 0) m10 b11 dg fr_d451)) (fun v g15 hq => ?_) (fun i g15 hq => ?_)
          rotate_left
          · obtain ⟨_, _, _, _, _, _, hq⟩ := hq; cases hq
          obtain ⟨V18, z16, _, m17, b19, rz16, hq⟩ := hq
          cases hq
          refine mj_T.eq (pc2 := 164) (st2 := [.int (jn z16), .int (jn z14)]) ?_ rfl rfl rfl rfl
          refine mj_T.isub (a := z14) (b := z16) rfl ?_
          refine jT.anyI (fun z20 rz20 => ?_)
          refine mj_T.pl (loc' := [some (.ref 444), some (.int (jn r)), some (.ref 180), some (.int (jn a)), some (.int (jn c)), some (.int (jn s)), some (.int (jn ((i : Nat) : Int))), some (.int (jn z20))]) rfl rfl rfl rfl ?_
          iterate 2 refine mj_T.pl rfl rfl rfl rfl ?_
          refine mj_T.icmp (a := z20) (b := r) rfl ⟨by omega, by omega⟩ ⟨by omega, by omega⟩ (fun c21 => ?_) (fun c21 => ?_)
          · simp only [jc, Bool.not_eq_true', Bool.not_eq_false', decide_eq_true_eq, decide_eq_false_iff_not] at c21
            refine mj_T.pl rfl rfl rfl rfl ?_
            refine mj_T.pl (loc' := [some (.ref 444), some (.int (jn r)), some (.ref 180), some (.int (jn a)), some (.int (jn z20)), some (.int (jn s)), some (.int (jn ((i : Nat) : Int))), some (.int (jn z20))]) rfl rfl rfl rfl ?_
            refine mj_T.pl rfl rfl rfl rfl ?_
            refine mT_get m17 15 cq_d444 (by decide) rfl rfl ?_
            refine jT.ldcL rfl ?_
            refine mj_T.call rfl rfl (Nat.le_of_ble_eq_true rfl) (Nat.le_of_ble_eq_true rfl) (mV_of m17 18 cq_d449 (by decide) rfl (by decide) rfl _) rfl (mj_Ok.up (by omega) (mF_97 (D := 0) m17 b19 fr_d449 ⟨by decide, by decide⟩)) (fun v g22 hq => ?_) (fun i g22 hq => ?_)
            rotate_left
            · obtain ⟨_, _, _, _, hq⟩ := hq; cases hq
            obtain ⟨V23, _, m24, b25, hq⟩ := hq
            cases hq
            refine mj_T.eq (pc2 := 204) (st2 := []) ?_ rfl rfl rfl rfl
            refine mj_T.iinc rfl rfl ?_
            rw [show ((i : Nat) : Int) + 1 = ((i + 1 : Nat) : Int) by omega]
            refine mj_T.eq (loc2 := [some (.ref 444), some (.int (jn r)), some (.ref 180), some (.int (jn a)), some (.int (jn z20)), some (.int (jn s)), some (.int (jn (((i + 1) : Nat) : Int))), some (.int (jn z20))]) ?_ rfl rfl rfl rfl
            refine mj_T.pl rfl rfl rfl rfl ?_
            exact mZ_65_l hr hs k (i + 1) (by omega) _ _ _ _ _ _ ⟨by omega, by omega⟩ ⟨by omega, by omega⟩ m24 b25 fx dg
          · simp only [jc, Bool.not_eq_true', Bool.not_eq_false', decide_eq_true_eq, decide_eq_false_iff_not] at c21
            refine mj_T.pl rfl rfl rfl rfl ?_
            refine mT_get m17 15 cq_d444 (by decide) rfl rfl ?_
            refine mj_T.pl rfl rfl rfl rfl ?_
            refine mT_get m17 15 cq_d444 (by decide) rfl rfl ?_
            refine mj_T.call rfl rfl (Nat.le_of_ble_eq_true rfl) (Nat.le_of_ble_eq_true rfl) (mV_of m17 18 cq_d445 (by decide) rfl (by decide) rfl _) rfl (mj_Ok.up (by omega) (mF_87 (D := 0) m17 b19 fr_d445 fr_d451)) (fun v g26 hq => ?_) (fun i g26 hq => ?_)
            rotate_left
            · obtain ⟨_, _, _, _, hq⟩ := hq; cases hq
            obtain ⟨V27, _, m28, b29, hq⟩ := hq
            cases hq
            refine mj_T.eq (pc2 := 184) (st2 := []) ?_ rfl rfl rfl rfl
            refine mj_T.pl rfl rfl rfl rfl ?_
            refine mj_T.pl (loc' := [some (.ref 444), some (.int (jn r)), some (.ref 180), some (.int (jn z20)), some (.int (jn c)), some (.int (jn s)), some (.int (jn ((i : Nat) : Int))), some (.int (jn z20))]) rfl rfl rfl rfl ?_
            iterate 2 refine mj_T.pl rfl rfl rfl rfl ?_
            refine mT_get m28 15 cq_d444 (by decide) rfl rfl ?_
            refine jT.ldcL rfl ?_
            refine mj_T.call rfl rfl (Nat.le_of_ble_eq_true rfl) (Nat.le_of_ble_eq_true rfl) (mV_of m28 18 cq_d449 (by decide) rfl (by decide) rfl _) rfl (mj_Ok.up (by omega) (mF_97 (D := 0) m28 b29 fr_d449 ⟨by decide, by decide⟩)) (fun v g30 hq => ?_) (fun i g30 hq => ?_)
            rotate_left
            · obtain ⟨_, _, _, _, hq⟩ := hq; cases hq
            obtain ⟨V31, _, m32, b33, hq⟩ := hq
            cases hq
            refine mj_T.eq (pc2 := 204) (st2 := []) ?_ rfl rfl rfl rfl
            refine mj_T.iinc rfl rfl ?_
            rw [show ((i : Nat) : Int) + 1 = ((i + 1 : Nat) : Int) by omega]
            refine mj_T.eq (loc2 := [some (.ref 444), some (.int (jn r)), some (.ref 180), some (.int (jn z20)), some (.int (jn c)), some (.int (jn s)), some (.int (jn (((i + 1) : Nat) : Int))), some (.int (jn z20))]) ?_ rfl rfl rfl rfl
            refine mj_T.pl rfl rfl rfl rfl ?_
            exact mZ_65_l hr hs k (i + 1) (by omega) _ _ _ _ _ _ ⟨by omega, by omega⟩ ⟨by omega, by omega⟩ m32 b33 fx dg
        · simp only [jc, Bool.not_eq_true', Bool.not_eq_false', decide_eq_true_eq, decide_eq_false_iff_not] at c13
          refine mj_T.pl rfl rfl rfl rfl ?_
          refine mT_get m10 15 cq_d444 (by decide) rfl rfl ?_
          iterate 2 refine mj_T.pl rfl rfl rfl rfl ?_
          refine mT_get m10 15 cq_d444 (by decide) rfl rfl ?_
          refine mj_T.call rfl rfl (Nat.le_of_ble_eq_true rfl) (Nat.le_of_ble_eq_true rfl) (mV_of m10 11 cq_d19 (by decide) rfl (by decide) rfl _) rfl (mj_Ok.up (by omega) (mZ_28 (D := 0) m10 b11 cq_d180 fr_d451 rfl (dg _ cq_d180))) (fun v g34 hq => ?_) (fun i g34 hq => ?_)
          rotate_left
          · obtain ⟨_, _, _, _, _, _, hq⟩ := hq; cases hq
          obtain ⟨V37, z35, _, m36, b38, rz35, hq⟩ := hq
          cases hq
          refine mj_T.eq (pc2 := 130) (st2 := [.int (jn z35)]) ?_ rfl rfl rfl rfl
          refine mj_T.pl rfl rfl rfl rfl ?_
          refine mj_T.icmp (a := z35) (b := s) rfl ⟨by omega, by omega⟩ ⟨by omega, by omega⟩ (fun c39 => ?_) (fun c39 => ?_)
          · simp only [jc, Bool.not_eq_true', Bool.not_eq_false', decide_eq_true_eq, decide_eq_false_iff_not] at c39
            refine mj_T.pl rfl rfl rfl rfl ?_
            refine mT_get m36 15 cq_d444 (by decide) rfl rfl ?_
            refine jT.ldcL rfl ?_
            refine mj_T.call rfl rfl (Nat.le_of_ble_eq_true rfl) (Nat.le_of_ble_eq_true rfl) (mV_of m36 18 cq_d449 (by decide) rfl (by decide) rfl _) rfl (mj_Ok.up (by omega) (mF_97 (D := 0) m36 b38 fr_d449 ⟨by decide, by decide⟩)) (fun v g40 hq => ?_) (fun i g40 hq => ?_)
            rotate_left
            · obtain ⟨_, _, _, _, hq⟩ := hq; cases hq
            obtain ⟨V41, _, m42, b43, hq⟩ := hq
            cases hq
            refine mj_T.eq (pc2 := 204) (st2 := []) ?_ rfl rfl rfl rfl
            refine mj_T.iinc rfl rfl ?_
            rw [show ((i : Nat) : Int) + 1 = ((i + 1 : Nat) : Int) by omega]
            refine mj_T.eq (loc2 := [some (.ref 444), some (.int (jn r)), some (.ref 180), some (.int (jn a)), some (.int (jn c)), some (.int (jn s)), some (.int (jn (((i + 1) : Nat) : Int))), l7]) ?_ rfl rfl rfl rfl
            refine mj_T.pl rfl rfl rfl rfl ?_
            exact mZ_65_l hr hs k (i + 1) (by omega) _ _ _ _ _ _ ⟨by omega, by omega⟩ ⟨by omega, by omega⟩ m42 b43 fx dg
          · simp only [jc, Bool.not_eq_true', Bool.not_eq_false', decide_eq_true_eq, decide_eq_false_iff_not] at c39
            refine mj_T.pl rfl rfl rfl rfl ?_
            refine mT_get m36 15 cq_d444 (by decide) rfl rfl ?_
            refine mj_T.pl rfl rfl rfl rfl ?_
            refine mT_get m36 15 cq_d444 (by decide) rfl rfl ?_
            refine mj_T.call rfl rfl (Nat.le_of_ble_eq_true rfl) (Nat.le_of_ble_eq_true rfl) (mV_of m36 18 cq_d445 (by decide) rfl (by decide) rfl _) rfl (mj_Ok.up (by omega) (mF_87 (D := 0) m36 b38 fr_d445 fr_d451)) (fun v g44 hq => ?_) (fun i g44 hq => ?_)
            rotate_left
            · obtain ⟨_, _, _, _, hq⟩ := hq; cases hq
            obtain ⟨V45, _, m46, b47, hq⟩ := hq
            cases hq
            refine mj_T.eq (pc2 := 146) (st2 := []) ?_ rfl rfl rfl rfl
            iterate 2 refine mj_T.pl rfl rfl rfl rfl ?_
            refine mT_get m46 15 cq_d444 (by decide) rfl rfl ?_
            refine jT.ldcL rfl ?_
            refine mj_T.call rfl rfl (Nat.le_of_ble_eq_true rfl) (Nat.le_of_ble_eq_true rfl) (mV_of m46 18 cq_d449 (by decide) rfl (by decide) rfl _) rfl (mj_Ok.up (by omega) (mF_97 (D := 0) m46 b47 fr_d449 ⟨by decide, by decide⟩)) (fun v g48 hq => ?_) (fun i g48 hq => ?_)
            rotate_left
            · obtain ⟨_, _, _, _, hq⟩ := hq; cases hq
            obtain ⟨V49, _, m50, b51, hq⟩ := hq
            cases hq
            refine mj_T.eq (pc2 := 204) (st2 := []) ?_ rfl rfl rfl rfl
            refine mj_T.iinc rfl rfl ?_
            rw [show ((i : Nat) : Int) + 1 = ((i + 1 : Nat) : Int) by omega]
            refine mj_T.eq (loc2 := [some (.ref 444), some (.int (jn r)), some (.ref 180), some (.int (jn a)), some (.int (jn c)), some (.int (jn s)), some (.int (jn (((i + 1) : Nat) : Int))), l7]) ?_ rfl rfl rfl rfl
            refine mj_T.pl rfl rfl rfl rfl ?_
            exact mZ_65_l hr hs k (i + 1) (by omega) _ _ _ _ _ _ ⟨by omega, by omega⟩ ⟨by omega, by omega⟩ m50 b51 fx dg
theorem mZ_65 (m : jM g n V X h) (b : by0 V) (dg : DG X) {r : Int} (hr : (-2147483648 ≤ r ∧ r ≤ 2147483647)) : mj_Ok (D + 6) 65 [.ref 444, .int (jn r)] h (fun z => ∃ (V2 : Nat → Int) (X2 : Nat → Nat → Int) (h2 : mj_H), jM g n V2 X2 h2 ∧ by0 V2 ∧ FX X X2 ∧ DG X2 ∧ z = (.inl none, h2)) := by
  have hL : cL 173 = 14 := mK_r.2.2.2.1
  refine mj_Ok.of (M := mj_m65) rfl rfl rfl ?_
  refine mj_T.pl rfl rfl rfl rfl ?_
  refine mT_get m 15 cq_d444 (by decide) rfl rfl ?_
  refine mT_get m 16 cq_d172 (by decide) rfl rfl ?_
  refine mj_T.pl rfl rfl rfl rfl ?_
  refine mT_aald m 5 cq_d173 (by decide) rfl rfl (by omega) ⟨by omega, by omega⟩ ?_
  refine mj_T.eq (st2 := [.ref 180]) ?_ rfl rfl rfl rfl
  refine mj_T.pl (loc' := [some (.ref 444), some (.int (jn r)), some (.ref 180), none, none, none, none, none]) rfl rfl rfl rfl ?_
  refine mj_T.pl rfl rfl rfl rfl ?_
  refine mj_T.pl (loc' := [some (.ref 444), some (.int (jn r)), some (.ref 180), some (.int (jn 0)), none, none, none, none]) rfl rfl rfl rfl ?_
  refine mj_T.pl rfl rfl rfl rfl ?_
  refine mT_get m 15 cq_d444 (by decide) rfl rfl ?_
  refine jT.anyI (fun z1 rz1 => ?_)
  refine mj_T.pl (loc' := [some (.ref 444), some (.int (jn r)), some (.ref 180), some (.int (jn 0)), some (.int (jn z1)), none, none, none]) rfl rfl rfl rfl ?_
  refine mj_T.pl rfl rfl rfl rfl ?_
  refine mT_get m 15 cq_d444 (by decide) rfl rfl ?_
  refine jT.anyI (fun z2 rz2 => ?_)
  refine mj_T.pl rfl rfl rfl rfl ?_
  refine mj_T.isub (a := z2) (b := r) rfl ?_
  refine jT.anyI (fun z3 rz3 => ?_)
  refine mj_T.pl rfl rfl rfl rfl ?_
  refine jT.irem rfl ⟨by decide, by decide⟩ (by omega) (fun z4 jz4 => ?_)
  refine mj_T.if0 (a := z4) rfl ⟨by omega, by omega⟩ (fun c5 => ?_) (fun c5 => ?_)
  · simp only [jc, Bool.not_eq_true', Bool.not_eq_false', decide_eq_true_eq, decide_eq_false_iff_not] at c5
    refine mj_T.pl rfl rfl rfl rfl ?_
    refine mj_T.pl (loc' := [some (.ref 444), some (.int (jn r)), some (.ref 180), some (.int (jn 0)), some (.int (jn z1)), some (.int (jn (-1))), none, none]) rfl rfl rfl rfl ?_
    refine mj_T.pl rfl rfl rfl rfl ?_
    refine mT_get m 15 cq_d444 (by decide) rfl rfl ?_
    refine mj_T.pl rfl rfl rfl rfl ?_
    refine mT_get m 15 cq_d444 (by decide) rfl rfl ?_
    refine mj_T.call rfl rfl (Nat.le_of_ble_eq_true rfl) (Nat.le_of_ble_eq_true rfl) (mV_of m 18 cq_d445 (by decide) rfl (by decide) rfl _) rfl (mj_Ok.up (by omega) (mF_87 (D := 0) m b fr_d445 fr_d447)) (fun v g6 hq => ?_) (fun i g6 hq => ?_)
    rotate_left
    · obtain ⟨_, _, _, _, hq⟩ := hq; cases hq
    obtain ⟨V7, _, m8, b9, hq⟩ := hq
    cases hq
    refine mj_T.eq (pc2 := 47) (st2 := []) ?_ rfl rfl rfl rfl
    refine mj_T.pl rfl rfl rfl rfl ?_
    refine mT_get m8 15 cq_d444 (by decide) rfl rfl ?_
    refine mj_T.pl rfl rfl rfl rfl ?_
    refine mZ_psg m8 cq_d445 rfl (fun h10 m11 => ?_)
    have b12 : by0 _ := b9.drt (sl := [445]) (fun x hx => by rw [List.mem_singleton.mp hx]; exact fr_d445.2)
    refine mj_T.pl rfl rfl rfl rfl ?_
    refine mT_get m11 15 cq_d444 (by decide) rfl rfl ?_
    refine mj_T.pl rfl rfl rfl rfl ?_
    refine mT_get m11 15 cq_d444 (by decide) rfl rfl ?_
    refine mj_T.call rfl rfl (Nat.le_of_ble_eq_true rfl) (Nat.le_of_ble_eq_true rfl) (mV_of m11 18 cq_d449 (by decide) rfl (by decide) rfl _) rfl (mj_Ok.up (by omega) (mF_87 (D := 0) m11 b12 fr_d449 fr_d447)) (fun v g13 hq => ?_) (fun i g13 hq => ?_)
    rotate_left
    · obtain ⟨_, _, _, _, hq⟩ := hq; cases hq
    obtain ⟨V14, _, m15, b16, hq⟩ := hq
    cases hq
    refine mj_T.eq (pc2 := 66) (st2 := []) ?_ rfl rfl rfl rfl
    refine mj_T.pl rfl rfl rfl rfl ?_
    refine mj_T.pl (loc' := [some (.ref 444), some (.int (jn r)), some (.ref 180), some (.int (jn 0)), some (.int (jn z1)), some (.int (jn (-1))), some (.int (jn 0)), none]) rfl rfl rfl rfl ?_
    exact mZ_65_l hr ⟨by omega, by omega⟩ 200 0 (by omega) _ _ _ _ _ _ ⟨by omega, by omega⟩ ⟨by omega, by omega⟩ m15 b16 (FX.rf X) dg
  · simp only [jc, Bool.not_eq_true', Bool.not_eq_false', decide_eq_true_eq, decide_eq_false_iff_not] at c5
    iterate 2 refine mj_T.pl rfl rfl rfl rfl ?_
    refine mj_T.pl (loc' := [some (.ref 444), some (.int (jn r)), some (.ref 180), some (.int (jn 0)), some (.int (jn z1)), some (.int (jn 1)), none, none]) rfl rfl rfl rfl ?_
    refine mj_T.pl rfl rfl rfl rfl ?_
    refine mT_get m 15 cq_d444 (by decide) rfl rfl ?_
    refine mj_T.pl rfl rfl rfl rfl ?_
    refine mT_get m 15 cq_d444 (by decide) rfl rfl ?_
    refine mj_T.call rfl rfl (Nat.le_of_ble_eq_true rfl) (Nat.le_of_ble_eq_true rfl) (mV_of m 18 cq_d445 (by decide) rfl (by decide) rfl _) rfl (mj_Ok.up (by omega) (mF_87 (D := 0) m b fr_d445 fr_d447)) (fun v g17 hq => ?_) (fun i g17 hq => ?_)
    rotate_left
    · obtain ⟨_, _, _, _, hq⟩ := hq; cases hq
    obtain ⟨V18, _, m19, b20, hq⟩ := hq
    cases hq
    refine mj_T.eq (pc2 := 47) (st2 := []) ?_ rfl rfl rfl rfl
    refine mj_T.pl rfl rfl rfl rfl ?_
    refine mT_get m19 15 cq_d444 (by decide) rfl rfl ?_
    refine mj_T.pl rfl rfl rfl rfl ?_
    refine mZ_psg m19 cq_d445 rfl (fun h21 m22 => ?_)
    have b23 : by0 _ := b20.drt (sl := [445]) (fun x hx => by rw [List.mem_singleton.mp hx]; exact fr_d445.2)
    refine mj_T.pl rfl rfl rfl rfl ?_
    refine mT_get m22 15 cq_d444 (by decide) rfl rfl ?_
    refine mj_T.pl rfl rfl rfl rfl ?_
    refine mT_get m22 15 cq_d444 (by decide) rfl rfl ?_
    refine mj_T.call rfl rfl (Nat.le_of_ble_eq_true rfl) (Nat.le_of_ble_eq_true rfl) (mV_of m22 18 cq_d449 (by decide) rfl (by decide) rfl _) rfl (mj_Ok.up (by omega) (mF_87 (D := 0) m22 b23 fr_d449 fr_d447)) (fun v g24 hq => ?_) (fun i g24 hq => ?_)
    rotate_left
    · obtain ⟨_, _, _, _, hq⟩ := hq; cases hq
    obtain ⟨V25, _, m26, b27, hq⟩ := hq
    cases hq
    refine mj_T.eq (pc2 := 66) (st2 := []) ?_ rfl rfl rfl rfl
    refine mj_T.pl rfl rfl rfl rfl ?_
    refine mj_T.pl (loc' := [some (.ref 444), some (.int (jn r)), some (.ref 180), some (.int (jn 0)), some (.int (jn z1)), some (.int (jn 1)), some (.int (jn 0)), none]) rfl rfl rfl rfl ?_
    exact mZ_65_l hr ⟨by omega, by omega⟩ 200 0 (by omega) _ _ _ _ _ _ ⟨by omega, by omega⟩ ⟨by omega, by omega⟩ m26 b27 (FX.rf X) dg
theorem mZ_66_l {q : Int} (hw : (-2147483648 ≤ q ∧ q ≤ 2147483647)) : ∀ (k : Nat) (i : Int), 2147483647 ≤ i + k → (0 ≤ i ∧ i ≤ 2147483647) → ∀ (c : Int) (V1 : Nat → Int) (X1 : Nat → Nat → Int) (h1 : mj_H), (-2147483648 ≤ c ∧ c ≤ 2147483647) → jM g n V1 X1 h1 → by0 V1 → FX X X1 → DG X1 → mj_T (D + 6) mj_m66 23 [some (.ref 444), some (.int (jn q)), some (.int (jn c)), some (.int (jn i))] [] h1 (fun z => ∃ (V2 : Nat → Int) (X2 : Nat → Nat → Int) (c : Int) (h2 : mj_H), jM g n V2 X2 h2 ∧ by0 V2 ∧ FX X X2 ∧ DG X2 ∧ (-2147483648 ≤ c ∧ c ≤ 2147483647) ∧ z = (.inl (some (.int (jn c))), h2))
  | 0, i, hk, hi, c, V1, X1, h1, hc, m, b, fx, dg => by
    iterate 2 refine mj_T.pl rfl rfl rfl rfl ?_
    refine mT_get m 15 cq_d444 (by decide) rfl rfl ?_
    refine jT.anyI (fun z1 rz1 => ?_)
    refine mj_T.icmp (a := i) (b := z1) rfl ⟨by omega, by omega⟩ ⟨by omega, by omega⟩ (fun c2 => ?_) (fun c2 => ?_)
    · simp only [jc, Bool.not_eq_true', Bool.not_eq_false', decide_eq_true_eq, decide_eq_false_iff_not] at c2
      refine mj_T.pl rfl rfl rfl rfl ?_
      exact mj_T.ret rfl rfl rfl ⟨V1, _, _, _, m, b, fx, dg, ⟨by omega, by omega⟩, rfl⟩
    · exfalso
      simp only [jc, Bool.not_eq_true', Bool.not_eq_false', decide_eq_true_eq, decide_eq_false_iff_not] at c2
      omega
  | k + 1, i, hk, hi, c, V1, X1, h1, hc, m, b, fx, dg => by
    iterate 2 refine mj_T.pl rfl rfl rfl rfl ?_
    refine mT_get m 15 cq_d444 (by decide) rfl rfl ?_
    refine jT.anyI (fun z1 rz1 => ?_)
    refine mj_T.icmp (a := i) (b := z1) rfl ⟨by omega, by omega⟩ ⟨by omega, by omega⟩ (fun c2 => ?_) (fun c2 => ?_)
    · simp only [jc, Bool.not_eq_true', Bool.not_eq_false', decide_eq_true_eq, decide_eq_false_iff_not] at c2
      refine mj_T.pl rfl rfl rfl rfl ?_
      exact mj_T.ret rfl rfl rfl ⟨V1, _, _, _, m, b, fx, dg, ⟨by omega, by omega⟩, rfl⟩
    · simp only [jc, Bool.not_eq_true', Bool.not_eq_false', decide_eq_true_eq, decide_eq_false_iff_not] at c2
      iterate 2 refine mj_T.pl rfl rfl rfl rfl ?_
      refine mj_T.icmp (a := c) (b := q) rfl ⟨by omega, by omega⟩ ⟨by omega, by omega⟩ (fun c3 => ?_) (fun c3 => ?_)
      · simp only [jc, Bool.not_eq_true', Bool.not_eq_false', decide_eq_true_eq, decide_eq_false_iff_not] at c3
        refine mj_T.pl rfl rfl rfl rfl ?_
        exact mj_T.ret rfl rfl rfl ⟨V1, _, _, _, m, b, fx, dg, ⟨by omega, by omega⟩, rfl⟩
      · simp only [jc, Bool.not_eq_true', Bool.not_eq_false', decide_eq_true_eq, decide_eq_false_iff_not] at c3
        iterate 2 refine mj_T.pl rfl rfl rfl rfl ?_
        refine mj_T.call rfl rfl (Nat.le_of_ble_eq_true rfl) (Nat.le_of_ble_eq_true rfl) (mV_of m 15 cq_d444 (by decide) rfl (by decide) rfl _) rfl (mj_Ok.up (by omega) (mZ_65 (D := 0) m b dg (by omega))) (fun v g4 hq => ?_) (fun i g4 hq => ?_)
        rotate_left
        · obtain ⟨_, _, _, _, _, _, _, hq⟩ := hq; cases hq
        obtain ⟨V5, X8, _, m6, b7, f9, dg10, hq⟩ := hq
        cases hq
        refine mj_T.eq (pc2 := 41) (st2 := []) ?_ rfl rfl rfl rfl
        iterate 2 refine mj_T.pl rfl rfl rfl rfl ?_
        refine mT_get m6 15 cq_d444 (by decide) rfl rfl ?_
        refine jT.anyI (fun z11 rz11 => ?_)
        refine mj_T.if0 (a := z11) rfl ⟨by omega, by omega⟩ (fun c12 => ?_) (fun c12 => ?_)
        · simp only [jc, Bool.not_eq_true', Bool.not_eq_false', decide_eq_true_eq, decide_eq_false_iff_not] at c12
          refine mj_T.pl rfl rfl rfl rfl ?_
          refine mj_T.iadd (a := c) (b := 0) rfl ?_
          refine jT.anyI (fun z13 rz13 => ?_)
          refine mj_T.pl (loc' := [some (.ref 444), some (.int (jn q)), some (.int (jn z13)), some (.int (jn i))]) rfl rfl rfl rfl ?_
          refine mj_T.iinc rfl rfl ?_
          refine mj_T.eq (loc2 := [some (.ref 444), some (.int (jn q)), some (.int (jn z13)), some (.int (jn (i + 1)))]) ?_ rfl rfl rfl rfl
          refine mj_T.pl rfl rfl rfl rfl ?_
          exact mZ_66_l hw k _ (by omega) (by omega) _ _ _ _ ⟨by omega, by omega⟩ m6 b7 (fx.tr f9) dg10
        · simp only [jc, Bool.not_eq_true', Bool.not_eq_false', decide_eq_true_eq, decide_eq_false_iff_not] at c12
          iterate 2 refine mj_T.pl rfl rfl rfl rfl ?_
          refine mj_T.iadd (a := c) (b := 1) rfl ?_
          refine jT.anyI (fun z14 rz14 => ?_)
          refine mj_T.pl (loc' := [some (.ref 444), some (.int (jn q)), some (.int (jn z14)), some (.int (jn i))]) rfl rfl rfl rfl ?_
          refine mj_T.iinc rfl rfl ?_
          refine mj_T.eq (loc2 := [some (.ref 444), some (.int (jn q)), some (.int (jn z14)), some (.int (jn (i + 1)))]) ?_ rfl rfl rfl rfl
          refine mj_T.pl rfl rfl rfl rfl ?_
          exact mZ_66_l hw k _ (by omega) (by omega) _ _ _ _ ⟨by omega, by omega⟩ m6 b7 (fx.tr f9) dg10
theorem mZ_66 (m : jM g n V X h) (b : by0 V) (dg : DG X) {q : Int} (hw : (-2147483648 ≤ q ∧ q ≤ 2147483647)) : mj_Ok (D + 7) 66 [.ref 444, .int (jn q)] h (fun z => ∃ (V2 : Nat → Int) (X2 : Nat → Nat → Int) (c : Int) (h2 : mj_H), jM g n V2 X2 h2 ∧ by0 V2 ∧ FX X X2 ∧ DG X2 ∧ (-2147483648 ≤ c ∧ c ≤ 2147483647) ∧ z = (.inl (some (.int (jn c))), h2)) := by
  have hL : cL 173 = 14 := mK_r.2.2.2.1
  refine mj_Ok.of (M := mj_m66) rfl rfl rfl ?_
  iterate 2 refine mj_T.pl rfl rfl rfl rfl ?_
  refine mT_get m 15 cq_d444 (by decide) rfl rfl ?_
  refine mT_get m 16 cq_d172 (by decide) rfl rfl ?_
  refine mj_T.pl rfl rfl rfl rfl ?_
  refine mT_aald m 5 cq_d173 (by decide) rfl rfl (by omega) ⟨by omega, by omega⟩ ?_
  refine mj_T.eq (st2 := [.ref 180, .ref 444]) ?_ rfl rfl rfl rfl
  refine mj_T.call rfl rfl (Nat.le_of_ble_eq_true rfl) (Nat.le_of_ble_eq_true rfl) (mV_of m 13 cq_d180 (by decide) rfl (by decide) rfl _) rfl (mj_Ok.up (by omega) (mZ_37' (D := 0) m cq_d180 (dg _ cq_d180))) (fun v g1 hq => ?_) (fun i g1 hq => ?_)
  rotate_left
  · obtain ⟨_, _, hq⟩ := hq; cases hq
  obtain ⟨a2, ka2, hq⟩ := hq
  cases hq
  have ca2 : cK a2 = 18 := ka2.elim (fun q => q.1) (fun q => by rw [q]; exact (mK_p cq_d180).1)
  refine mj_T.eq (pc2 := 13) (st2 := [.ref a2, .ref 444]) ?_ rfl rfl rfl rfl
  refine mj_T.call rfl rfl (Nat.le_of_ble_eq_true rfl) (Nat.le_of_ble_eq_true rfl) (mV_of m 18 ca2 (by decide) rfl (by decide) rfl _) rfl (mj_Ok.up (by omega) (mZ_100 (D := 0) m ca2)) (fun v g3 hq => ?_) (fun i g3 hq => ?_)
  rotate_left
  · obtain ⟨_, _, hq⟩ := hq; cases hq
  obtain ⟨y4, jy4, hq⟩ := hq
  cases hq
  refine mj_T.eq (pc2 := 16) (st2 := [.long (jl y4), .ref 444]) ?_ rfl rfl rfl rfl
  refine mj_T.call rfl rfl (Nat.le_of_ble_eq_true rfl) (Nat.le_of_ble_eq_true rfl) (mV_of m 15 cq_d444 (by decide) rfl (by decide) rfl _) rfl (mj_Ok.up (by omega) (mZ_64 (D := 0) m b dg jy4)) (fun v g5 hq => ?_) (fun i g5 hq => ?_)
  rotate_left
  · obtain ⟨_, _, _, _, _, _, _, hq⟩ := hq; cases hq
  obtain ⟨V6, X9, _, m7, b8, f10, dg11, hq⟩ := hq
  cases hq
  refine mj_T.eq (pc2 := 19) (st2 := []) ?_ rfl rfl rfl rfl
  refine mj_T.pl rfl rfl rfl rfl ?_
  refine mj_T.pl (loc' := [some (.ref 444), some (.int (jn q)), some (.int (jn 0)), none]) rfl rfl rfl rfl ?_
  refine mj_T.pl rfl rfl rfl rfl ?_
  refine mj_T.pl (loc' := [some (.ref 444), some (.int (jn q)), some (.int (jn 0)), some (.int (jn 0))]) rfl rfl rfl rfl ?_
  exact mZ_66_l hw 2147483647 0 (by omega) (by omega) _ _ _ _ ⟨by decide, by decide⟩ m7 b8 ((FX.rf X).tr f10) dg11
end MLU
