/-! Of the reference and of numbers (as in p1, part 78s). -/
section JXS
variable {D pc : Nat} {M : mj_M} {loc : mj_L} {st : List Value} {h : mj_H} {p N : Nat} {f : Nat → Value} {Q : mj_R → Prop} {r1 r2 r3 r4 r5 : Nat}
theorem mj_T.vld {i : Int} {v : Value} (hp : p < h.length) (hc : M.2.2.2.2.1 pc = some (.iaload, r1, r2, r3, r4, r5)) (hi : jr i) (h0 : 0 ≤ i ∧ i < N) (hv : f i.toNat = v) (k : mj_T D M (pc + 1) loc (v :: st) (h.set p (.inl (0, N, f))) Q) : mj_T D M pc loc (.int (jn i) :: .ref p :: st) (h.set p (.inl (0, N, f))) Q :=
  mj_T.step hc rfl (by
    have h1 : mj_in (jn i) N = true := by rw [jn_in hi]; exact decide_eq_true h0
    simp only [mj_step, List.getElem?_set_self hp, h1, jn_nat h0.1 hi, true_or, true_and, if_true, hv]) k
theorem mj_T.vst {i : Int} {x : Int32} (hp : p < h.length) (hc : M.2.2.2.2.1 pc = some (.iastore, r1, r2, r3, r4, r5)) (hi : jr i) (h0 : 0 ≤ i ∧ i < N) (k : mj_T D M (pc + 1) loc st (h.set p (.inl (0, N, updV f i.toNat (.int x)))) Q) : mj_T D M pc loc (.int x :: .int (jn i) :: .ref p :: st) (h.set p (.inl (0, N, f))) Q :=
  mj_T.step hc rfl (by
    have h1 : mj_in (jn i) N = true := by rw [jn_in hi]; exact decide_eq_true h0
    simp only [mj_step, List.getElem?_set_self hp, h1, jn_nat h0.1 hi, true_and, if_true, List.set_set]) k
end JXS
theorem jq_scales_loop {D p N n x fa : Nat} {h : mj_H} {f0 : Nat → Value} (hp : p < h.length) (hN : N ≤ 2000) (hn : n < N) (hx : jnl x ≤ n) (hfa : 0 < fa) (hfa2 : fa ≤ 1000000000) (hf : ∀ j, j < n → f0 j = .int (jn (jlb x j : Nat))) {Q : mj_R → Prop}
    (hend : ∀ f : Nat → Value, (∀ j, j ≤ n → f j = .int (jn (jlb (x * fa) j : Nat))) → Q (.inl none, h.set p (.inl (0, N, f)))) :
    ∀ (d k : Nat) (f : Nat → Value) (l6 : Option Value), k + d = n + 1 → (∀ j, j < k → f j = .int (jn (jlb (x * fa) j : Nat))) → (∀ j, k ≤ j → f j = f0 j) →
      mj_T D mj_m190 5 [some (.ref p), some (.int (jn n)), some (.int (jn fa)), some (.long (jl (jsc x fa k : Nat))), none, some (.int (jn k)), l6, none] [] (h.set p (.inl (0, N, f))) Q := by
  intro d
  induction d with
  | zero =>
    intro k f l6 hk h1 h2
    have ek : k = n + 1 := by omega
    subst ek
    iterate 2 refine mj_T.pl rfl rfl rfl rfl ?_
    refine mj_T.icmp rfl ⟨by omega, by omega⟩ ⟨by omega, by omega⟩ (fun hc => ?_) (fun hc => ?_)
    · exact mj_T.ret rfl rfl rfl (hend f (fun j hj => h1 j (by omega)))
    · simp only [jc, decide_eq_false_iff_not] at hc; omega
  | succ d ih =>
    intro k f l6 hk h1 h2
    have c1 := jsc_lt (x := x) (i := k) hfa
    have x1 := jlb_lt x k
    have hl := jsc_limb x fa k
    have hnx := jsc_next x fa k
    have hm : jlb x k * fa ≤ 999999999 * 1000000000 := Nat.mul_le_mul (by omega) hfa2
    iterate 2 refine mj_T.pl rfl rfl rfl rfl ?_
    refine mj_T.icmp rfl ⟨by omega, by omega⟩ ⟨by omega, by omega⟩ (fun hc => ?_) (fun hc => ?_)
    · simp only [jc, decide_eq_true_eq] at hc; omega
    clear hc
    have key : ∀ z : Int, z = (jlb x k * fa : Nat) → mj_T D mj_m190 29 [some (.ref p), some (.int (jn n)), some (.int (jn fa)), some (.long (jl (jsc x fa k : Nat))), none, some (.int (jn k)), l6, none] [.long (jl z)] (h.set p (.inl (0, N, f))) Q := by
      intro z hz
      subst hz
      refine mj_T.pl rfl rfl rfl rfl ?_
      refine mj_T.ladd rfl ?_
      rw [show ((jlb x k * fa : Nat) : Int) + ((jsc x fa k : Nat) : Int) = ((jlb x k * fa + jsc x fa k : Nat) : Int) by omega]
      generalize hS : jlb x k * fa + jsc x fa k = S at *
      iterate 5 refine mj_T.pl rfl rfl rfl rfl ?_
      refine mj_T.lrem (b := 1000000000) rfl ⟨by omega, by omega⟩ ⟨by omega, by omega⟩ (by omega) ?_
      refine mj_T.l2i rfl ?_
      rw [show ((S : Nat) : Int).tmod 1000000000 = ((jlb (x * fa) k : Nat) : Int) by rw [hl]; rfl]
      refine mj_T.vst hp rfl ⟨by omega, by omega⟩ ⟨by omega, by omega⟩ ?_
      iterate 2 refine mj_T.pl rfl rfl rfl rfl ?_
      refine mj_T.ldiv (b := 1000000000) rfl ⟨by omega, by omega⟩ ⟨by omega, by omega⟩ (by omega) ?_
      rw [show ((S : Nat) : Int).tdiv 1000000000 = ((jsc x fa (k + 1) : Nat) : Int) by rw [hnx]; rfl]
      refine mj_T.pl rfl rfl rfl rfl ?_
      refine mj_T.iinc (a := k) rfl rfl ?_
      refine mj_T.pl rfl rfl rfl rfl ?_
      refine ih (k + 1) _ _ (by omega) (fun j hj => ?_) (fun j hj => ?_)
      · unfold updV
        by_cases e : j = k
        · subst e; exact if_pos rfl
        · rw [if_neg (by omega)]; exact h1 j (by omega)
      · unfold updV
        rw [if_neg (by omega)]
        exact h2 j (by omega)
    iterate 2 refine mj_T.pl rfl rfl rfl rfl ?_
    refine mj_T.icmp rfl ⟨by omega, by omega⟩ ⟨by omega, by omega⟩ (fun hc => ?_) (fun hc => ?_)
    · simp only [jc, decide_eq_true_eq] at hc
      refine mj_T.pl rfl rfl rfl rfl ?_
      refine key 0 ?_
      rw [jlb_high (show jnl x ≤ k by omega), Nat.zero_mul]
      rfl
    · simp only [jc, decide_eq_false_iff_not] at hc
      iterate 2 refine mj_T.pl rfl rfl rfl rfl ?_
      refine mj_T.vld hp rfl ⟨by omega, by omega⟩ ⟨by omega, by omega⟩ ((h2 k (Nat.le_refl _)).trans (hf k (by omega))) ?_
      refine mj_T.i2l rfl ⟨by omega, by omega⟩ ?_
      refine mj_T.pl rfl rfl rfl rfl ?_
      refine mj_T.i2l rfl ⟨by omega, by omega⟩ ?_
      refine mj_T.lmul rfl ?_
      refine mj_T.pl rfl rfl rfl rfl ?_
      exact key _ (by rw [Int.natCast_mul])
theorem jq_scales {D p N n x fa : Nat} {h : mj_H} {f : Nat → Value} (hp : p < h.length) (hN : N ≤ 2000) (hn : n < N) (hx : jnl x ≤ n) (hfa : 0 < fa) (hfa2 : fa ≤ 1000000000) (hf : ∀ j, j < n → f j = .int (jn (jlb x j : Nat))) :
    mj_Ok (D + 1) 190 [.ref p, .int (jn n), .int (jn fa)] (h.set p (.inl (0, N, f))) (fun r => ∃ f' : Nat → Value, (∀ j, j ≤ n → f' j = .int (jn (jlb (x * fa) j : Nat))) ∧ r = (.inl none, h.set p (.inl (0, N, f')))) := by
  refine mj_Ok.of (M := mj_m190) rfl rfl rfl ?_
  iterate 4 refine mj_T.pl rfl rfl rfl rfl ?_
  refine mj_T.eq (jq_scales_loop (D := D) (h := h) (x := x) (f0 := f) hp hN hn hx hfa hfa2 hf (fun f' h1 => ⟨f', h1, rfl⟩) (n + 1) 0 f none (by omega) (fun j hj => by omega) (fun j _ => rfl)) rfl ?_ rfl rfl
  rw [jsc_zero]
  rfl
/-- 'by' beside too -/
abbrev jZ (hp : mj_H) (q1 q2 q3 : Nat) (bg : Nat → Int32) (ov db : Nat → Value) : mj_H := jY (hp.set q3 (.inl (0, 702, db))) q1 q2 bg ov
abbrev jG (hp : mj_H) (q0 q1 q2 q3 : Nat) (fs : List Value) : Prop := jE hp q0 q1 q2 fs ∧ fs[6]? = some (.ref q3) ∧ q3 ≠ q0 ∧ q3 ≠ q1 ∧ q3 ≠ q2 ∧ q3 < hp.length
section JXZ
variable {D pc : Nat} {M : mj_M} {loc : mj_L} {st : List Value} {hp : mj_H} {q0 q1 q2 q3 : Nat} {fs : List Value} {bg : Nat → Int32} {ov db : Nat → Value} {Q : mj_R → Prop} {n r1 r2 r3 r4 r5 : Nat}
theorem jG_e (G : jG hp q0 q1 q2 q3 fs) (e : mj_E) : jE (hp.set q3 e) q0 q1 q2 fs := by
  obtain ⟨⟨⟨c1, c2, c3, c4⟩, e1, e2, e3, e4⟩, -, h2, h3, h4, h5⟩ := G
  exact ⟨⟨by rw [List.getElem?_set_ne h2]; exact c1, c2, c3, by rw [List.length_set]; exact c4⟩, e1, e2, e3, by rw [List.length_set]; exact e4⟩
theorem jZ_y (G : jG hp q0 q1 q2 q3 fs) : (jZ hp q1 q2 q3 bg ov db)[q3]? = some (.inl (0, 702, db)) := by
  obtain ⟨-, -, h2, h3, h4, h5⟩ := G
  rw [List.getElem?_set_ne (Ne.symm h3), List.getElem?_set_ne (Ne.symm h4), List.getElem?_set_self h5]
theorem jZ_set (G : jG hp q0 q1 q2 q3 fs) {db' : Nat → Value} : (jZ hp q1 q2 q3 bg ov db).set q3 (.inl (0, 702, db')) = jZ hp q1 q2 q3 bg ov db' := by
  obtain ⟨-, -, h2, h3, h4, h5⟩ := G
  show ((((hp.set q3 _).set q2 _).set q1 _).set q3 _) = ((hp.set q3 _).set q2 _).set q1 _
  rw [List.set_comm _ _ (Ne.symm h3), List.set_comm _ _ (Ne.symm h4), List.set_set]
theorem mj_T.gby (G : jG hp q0 q1 q2 q3 fs) (hc : M.2.2.2.2.1 pc = some (.getfield n, 10, 6, r3, r4, r5)) (k : mj_T D M (pc + 3) loc (.ref q3 :: st) (jZ hp q1 q2 q3 bg ov db) Q) : mj_T D M pc loc (.ref q0 :: st) (jZ hp q1 q2 q3 bg ov db) Q :=
  mj_T.step hc rfl (by simp only [mj_step, jX_a (jE_c (jG_e G _) _), G.2.1, if_true]) k
theorem mj_T.yld {i : Int} {v : Value} (G : jG hp q0 q1 q2 q3 fs) (hc : M.2.2.2.2.1 pc = some (.iaload, r1, r2, r3, r4, r5)) (hi : jr i) (h0 : 0 ≤ i ∧ i < 702) (hv : db i.toNat = v) (k : mj_T D M (pc + 1) loc (v :: st) (jZ hp q1 q2 q3 bg ov db) Q) : mj_T D M pc loc (.int (jn i) :: .ref q3 :: st) (jZ hp q1 q2 q3 bg ov db) Q :=
  mj_T.step hc rfl (by
    have h1 : mj_in (jn i) 702 = true := by rw [jn_in hi]; exact decide_eq_true h0
    simp only [mj_step, jZ_y G, h1, jn_nat h0.1 hi, true_or, true_and, if_true, hv]) k
end JXZ

