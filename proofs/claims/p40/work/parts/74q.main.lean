/-! The class's calls that store bytes or move the error: what they leave. -/
section JMN
variable {D n : Nat} {tm er : Int} {T : Nat → Int} {g h h' : mj_H}
theorem jO.main (o : jO cK cL cR g n tm h) : ∃ mf : List Value, h[1]? = some (.inr (9, mf)) ∧ mf.length = 16 ∧ mf[4]? = some (.ref 13) ∧ mf[5]? = some (.ref 15) ∧ mf[6]? = some (.ref 17) ∧ mf[10]? = some (.ref 455) := by
  obtain ⟨fs, h1, h2, h3⟩ := o.obj (a := 1) cK4.1 (by decide)
  obtain ⟨v4, a4, b4⟩ := h3 4 127 rfl
  obtain ⟨v5, a5, b5⟩ := h3 5 117 rfl
  obtain ⟨v6, a6, b6⟩ := h3 6 117 rfl
  obtain ⟨v10, a10, b10⟩ := h3 10 114 rfl
  have e4 := jfv_at (by decide) b4
  have e5 := jfv_at (by decide) b5
  have e6 := jfv_at (by decide) b6
  have e10 := jfv_at (by decide) b10
  rw [ck1 4 (by decide)] at e4
  rw [ck1 5 (by decide)] at e5
  rw [ck1 6 (by decide)] at e6
  rw [ck1 10 (by decide)] at e10
  exact ⟨fs, h1, h2, by rw [a4, e4]; rfl, by rw [a5, e5]; rfl, by rw [a6, e6]; rfl, by rw [a10, e10]; rfl⟩
theorem jcx.same (x : jcx er tm T h) (h1 : h'[1]? = h[1]?) (h2 : h'[14]? = h[14]?) : jcx er tm T h' := by
  obtain ⟨⟨fs, a1, a2⟩, f, a3, a4⟩ := x
  exact ⟨⟨fs, by rw [h1]; exact a1, a2⟩, f, by rw [h2]; exact a3, a4⟩
theorem jcx.setq {q : Nat} {e : mj_E} (x : jcx er tm T h) (h1 : q ≠ 1) (h2 : q ≠ 14) : jcx er tm T (h.set q e) := x.same (List.getElem?_set_ne h1) (List.getElem?_set_ne h2)
theorem jcx.last {pc q r1 r2 r3 r4 r5 : Nat} {M : mj_M} {loc : mj_L} {st : List Value} {Q : mj_R → Prop} {x : Int64} {f : Nat → Value} (hf : h[q]? = some (.inl (1, 1, f))) (hc : M.2.2.2.2.1 pc = some (.lastore, r1, r2, r3, r4, r5)) (k : ∀ e, mj_T D M (pc + 1) loc st (h.set q e) Q) : mj_T D M pc loc (.long x :: .int (jn 0) :: .ref q :: st) h Q := by
  refine mj_T.step hc rfl (pc' := pc + 1) (loc' := loc) (st' := st) (h' := h.set q (.inl (1, 1, updV f 0 (.long x)))) ?_ (k _)
  simp only [mj_step, hf]
  rfl
/-- a text that is not the buffer is written -/
theorem rq_setRow {p a : Nat} (hp : p = 15 ∨ p = 17) (o : jO cK cL cR g n tm h) (ka : cK a = 2) : mj_Ok (D + 4) 82 [.ref p, .ref a] h (fun r => r.2[1]? = h[1]? ∧ r.2[14]? = h[14]?) := by
  have kp : cK0 p = 17 := by rcases hp with q | q <;> subst q <;> decide +kernel
  have ka0 : cK0 a = 2 := by
    rw [cK0_e (fun q => ?_)]
    · exact ka
    · rcases q with q | q | q | q
      · subst q; rw [cK4.1] at ka; cases ka
      · subst q; rw [cK4.2.1] at ka; cases ka
      · subst q; rw [cK4.2.2.1] at ka; cases ka
      · subst q; rw [cK4.2.2.2.1] at ka; cases ka
  refine (jc_82 (D := D) cTY0 (Nat.le_of_eq o.1) o.fr kp ka0).to (fun r hr => ?_)
  obtain ⟨r1, r2⟩ := r
  have l1 : 1 < h.length := (List.getElem?_eq_some_iff.mp o.main.choose_spec.1).1
  have l14 : 14 < h.length := by
    obtain ⟨f, h1, _⟩ := o.arr (a := 14) cK4.2.2.1 (by decide) (by decide)
    exact (List.getElem?_eq_some_iff.mp h1).1
  cases r1 with
  | inl v => exact ⟨(hr.2.2.2.1 1 (cK0_0 (by decide))).1 l1, (hr.2.2.2.1 14 (cK0_0 (by decide))).1 l14⟩
  | inr i => exact absurd hr.1 List.not_mem_nil
theorem rq_write {p1 : Int} (rp : -2147483648 ≤ p1 ∧ p1 ≤ 2147483647) (o : jO cK cL cR g n tm h) (hg : g.length ≤ n) (x : jcx er tm T h) : mj_Ok (D + 5) 144 [.ref 1, .int (jn p1)] h (fun r => jcx er tm T r.2) := by
  have k1 := cK4.1
  refine mj_Ok.of (M := mj_m144) (loc := [some (.ref 1), some (.int (jn p1))]) rfl rfl rfl ?_
  obtain ⟨mf, m1, m2, m4, m5, m6, m10⟩ := o.main
  refine mj_T.pl rfl rfl rfl rfl ?_
  refine mj_T.gfl rfl m1 m5 ?_
  iterate 2 refine mj_T.pl rfl rfl rfl rfl ?_
  refine mj_T.call rfl rfl (Nat.le_of_ble_eq_true rfl) (Nat.le_of_ble_eq_true rfl) (jrv_of o k1 (by decide) rfl (by decide) rfl _) rfl (mj_Ok.up (by omega) ((jc_149 (D := 0) cTY hg o k1 rp).qt rfl)) (fun v h1 hq => ?_) (fun i h1 hq => ?_)
  rotate_left
  · exact Or.inl ⟨rfl, x.qt hq.2⟩
  obtain ⟨⟨⟨a, ka, hv⟩, hh⟩, _⟩ := hq
  subst hv
  have hh : h1 = h := hh
  subst hh
  refine mj_T.eq (st2 := [.ref a, .ref 15]) ?_ rfl rfl rfl rfl
  refine mj_T.call rfl rfl (Nat.le_of_ble_eq_true rfl) (Nat.le_of_ble_eq_true rfl) (jrv_of o (a := 15) (by decide +kernel : cK 15 = 17) (by decide) rfl (by decide) rfl _) rfl ((jc_82 (D := D) cTY hg o (by decide +kernel : cK 15 = 17) ka).and (rq_setRow (D := D) (Or.inl rfl) o ka)) (fun v h2 hq => ?_) (fun i h2 hq => absurd hq.1.1 List.not_mem_nil)
  obtain ⟨⟨hv, o2⟩, e1, e14⟩ := hq
  cases hv
  have x2 := x.same e1 e14
  obtain ⟨mf2, w1, w2, w4, w5, w6, w10⟩ := o2.main
  refine mj_T.pl rfl rfl rfl rfl ?_
  refine mj_T.gfl rfl w1 w5 ?_
  refine jT.getE o2 rfl (Or.inl (by decide +kernel : cK 15 = 17)) (fun z _ _ _ => ?_)
  exact mj_T.ret rfl rfl rfl x2
/-- read: where the error is then -/
theorem rq_read {p1 : Int} {tm0 : Nat} (rp : -2147483648 ≤ p1 ∧ p1 ≤ 2147483647) (o : jO cK cL cR g n (tm0 : Int) h) (hg : g.length ≤ n) (x : jcx er (tm0 : Int) T h) (hT : ∀ j : Nat, j < tm0 → 1 ≤ T j ∧ T j ≤ 255) : mj_Ok 60 114 [.ref 1, .int (jn p1)] h (fun r => (¬ (0 ≤ p1 ∧ p1 ≤ 5) ∧ jcx er (tm0 : Int) T r.2) ∨ ((0 ≤ p1 ∧ p1 ≤ 5) ∧ jcx (rdErr T tm0) 0 T r.2)) := by
  have k1 := cK4.1
  have ht : tm0 ≤ 200 := by have := o.2.1; omega
  refine mj_Ok.of (M := mj_m114) (loc := [some (.ref 1), some (.int (jn p1)), none]) rfl rfl rfl ?_
  obtain ⟨mf, m1, m2, m4, m5, m6, m10⟩ := o.main
  iterate 2 refine mj_T.pl rfl rfl rfl rfl ?_
  refine mj_T.call rfl rfl (Nat.le_of_ble_eq_true rfl) (Nat.le_of_ble_eq_true rfl) (jrv_of o k1 (by decide) rfl (by decide) rfl _) rfl (mj_Ok.up (by omega) ((jc_149e (D := 0) cTY hg o k1 rp).qt rfl)) (fun v h1 hq => ?_) (fun i h1 hq => ?_)
  rotate_left
  · obtain ⟨hq, qt⟩ := hq
    rcases hq with ⟨q1, q2, _⟩ | ⟨_, _, q2, _⟩
    · exact Or.inl ⟨rfl, Or.inl ⟨q1, x.qt qt⟩⟩
    · cases q2
  obtain ⟨hq, _⟩ := hq
  rcases hq with ⟨_, q2, _⟩ | ⟨hreg, a, q2, q3⟩
  · cases q2
  cases q2
  have q3 : h1 = h := q3
  subst q3
  refine mj_T.pl rfl rfl rfl rfl ?_
  refine mj_T.pl rfl rfl rfl rfl ?_
  refine mj_T.gfl rfl m1 m10 ?_
  refine mj_T.pl rfl rfl rfl rfl ?_
  refine mj_T.gfl rfl m1 m4 ?_
  have hB := x.jBuf o
  obtain ⟨b0, a0, e0, t0, hr0⟩ := o.rdr
  refine mj_T.call rfl rfl (Nat.le_of_ble_eq_true rfl) (Nat.le_of_ble_eq_true rfl) (jrv_of o cK4.2.2.2.1 (by decide) rfl (by decide) rfl _) rfl (mj_Ok.up (by decide) (rq_accepts o.fr hr0 hB ht hT)) (fun v h2 hq => ?_) (fun i h2 hq => by obtain ⟨_, _, _, _, _, hq⟩ := hq; cases hq)
  obtain ⟨p, _, hp, hjE, s2, hq⟩ := hq
  obtain ⟨E, hE⟩ : ∃ E, rdErr T tm0 = E := ⟨_, rfl⟩
  rw [hE] at s2 hq hjE ⊢
  have hEr : -2147483648 ≤ E ∧ E ≤ 2147483647 := ⟨hjE.1, by have := hjE.2; omega⟩
  generalize hz : (if E = -1 then (1 : Int) else 0) = z at hq
  have hz01 : z = 0 ∨ z = 1 := by rw [← hz]; split; exact Or.inr rfl; exact Or.inl rfl
  cases hq
  refine mj_T.pl (loc' := [some (.ref 1), some (.int (jn p1)), some (.int (jn z))]) rfl rfl rfl rfl ?_
  have n1 : h2[1]? = some (.inr (9, mf)) := by rw [s2.2.1 1 (cK0_0 (by decide)) (by decide)]; exact m1
  have n13 : h2[13]? = some (.inr (7, [.ref 14, .int (jn (tm0 : Int))])) := by rw [s2.2.1 13 (cK0_0 (by decide)) (by decide)]; exact hB.1
  obtain ⟨o2, f2, t2, ht2, hr2⟩ := s2
  have l1 := (List.getElem?_eq_some_iff.mp n1).1
  have l13 := (List.getElem?_eq_some_iff.mp n13).1
  refine mj_T.pl rfl rfl rfl rfl ?_
  refine mj_T.gfl rfl n1 m4 ?_
  refine mj_T.pl rfl rfl rfl rfl ?_
  refine mj_T.pfl rfl n13 (Nat.le_of_ble_eq_true rfl) rfl ?_
  have g1 : (h2.set 13 (.inr (7, [.ref 14, .int (jn 0)])))[1]? = some (.inr (9, mf)) := by rw [List.getElem?_set_ne (by decide)]; exact n1
  have gr : (h2.set 13 (.inr (7, [.ref 14, .int (jn 0)])))[455]? = some (.inr (4, RF (p : Int) E t2)) := by rw [List.getElem?_set_ne (by decide)]; exact hr2
  refine mj_T.eq (h2 := h2.set 13 (.inr (7, [.ref 14, .int (jn 0)]))) ?_ rfl rfl rfl rfl
  iterate 2 refine mj_T.pl rfl rfl rfl rfl ?_
  refine mj_T.gfl rfl g1 m10 ?_
  refine mj_T.gfl rfl gr rfl ?_
  refine mj_T.pfl rfl g1 (by rw [m2]; decide) rfl ?_
  -- the heap then
  obtain ⟨h4, hh4⟩ : ∃ h4, h4 = (h2.set 13 (.inr (7, [.ref 14, .int (jn 0)]))).set 1 (.inr (9, mf.set 15 (.int (jn E)))) := ⟨_, rfl⟩
  rw [← hh4]
  have w1 : h4[1]? = some (.inr (9, mf.set 15 (.int (jn E)))) := by rw [hh4, List.getElem?_set_self (by rw [List.length_set]; exact l1)]
  have w13 : h4[13]? = some (.inr (7, [.ref 14, .int (jn 0)])) := by rw [hh4, List.getElem?_set_ne (by decide), List.getElem?_set_self l13]
  have w14 : h4[14]? = h1[14]? := by rw [hh4, List.getElem?_set_ne (by decide), List.getElem?_set_ne (by decide)]; exact f2 14 (cK0_0 (by decide)) (by decide)
  have w455 : h4[455]? = some (.inr (4, RF (p : Int) E t2)) := by rw [hh4, List.getElem?_set_ne (by decide)]; exact gr
  have w10 : (mf.set 15 (.int (jn E)))[10]? = some (.ref 455) := by rw [List.getElem?_set_ne (by decide)]; exact m10
  have x4 : jcx E 0 T h4 := ⟨⟨_, w1, List.getElem?_set_self (by rw [m2]; decide)⟩, by
    obtain ⟨f, y1, y2⟩ := x.2
    exact ⟨f, by rw [w14]; exact y1, fun j hj => by omega⟩⟩
  have fin : ∀ hx, jcx E 0 T hx → (¬ (0 ≤ p1 ∧ p1 ≤ 5) ∧ jcx er (tm0 : Int) T hx) ∨ ((0 ≤ p1 ∧ p1 ≤ 5) ∧ jcx E 0 T hx) := fun hx q => Or.inr ⟨hreg, q⟩
  have o4 : jO cK cL cR h4 n 0 h4 := by
    have o0 : jO cK0 cL cR h4 h4.length 0 h4 := o2.keep (fun a ha => by
      have := (cK0_n ha).1
      rw [hh4, List.getElem?_set_ne (by omega), List.getElem?_set_ne (by omega)])
    have hln : h4.length = n := by rw [hh4, List.length_set, List.length_set]; exact o2.1
    rw [hln] at o0
    refine o0.un ⟨by decide, by decide⟩ (fun a ha => ?_)
    rcases ha with q | q | q | q
    · subst q
      obtain ⟨e1, y1, y2⟩ := o.2.2.2 1 (by rw [k1]; decide)
      rw [m1] at y1
      cases y1
      rw [k1] at y2
      refine ⟨_, w1, ?_⟩
      rw [k1]
      have y3 : jCf cK cL cR 0 19 1 (.inr (9, mf)) := y2.mv2 (by decide) (by decide)
      unfold jCf at y3
      rw [if_neg (by decide)] at y3
      obtain ⟨fs, z1, z2, z3⟩ := y3
      injection z1 with z1
      injection z1 with _ z1
      subst z1
      exact jCf_set (k := 19) (i := 15) (by decide) z2 z3 rfl (jfv_mk rfl (by show -2147483648 ≤ E; omega) (by show E ≤ 2147483647; omega))
    · subst q
      exact ⟨_, w13, jCf_buf (tm := 0)⟩
    · subst q
      obtain ⟨e1, y1, y2⟩ := o.2.2.2 14 (by rw [cK4.2.2.1]; decide)
      refine ⟨e1, by rw [w14]; exact y1, ?_⟩
      rw [cK4.2.2.1] at y2 ⊢
      exact y2.mv2 (by decide) (by decide)
    · subst q
      exact ⟨_, w455, jCf_rdr ⟨by omega, by omega⟩ ⟨by omega, by omega⟩ ht2⟩
  have hg4 : h4.length ≤ n := Nat.le_of_eq o4.1
  refine mj_T.pl rfl rfl rfl rfl ?_
  refine mj_T.if0 (a := z) rfl ⟨by omega, by omega⟩ (fun _ => ?_) (fun _ => ?_)
  rotate_left
  · exact mj_T.throws rfl rfl rfl (Nat.le_of_ble_eq_true rfl) (fin _ (x4.qt (jqt.app _)))
  refine mj_T.pl rfl rfl rfl rfl ?_
  refine mj_T.gfl rfl w1 w10 ?_
  refine mj_T.gfl rfl w455 rfl ?_
  refine mj_T.if0 (a := t2) rfl ⟨by omega, by omega⟩ (fun _ => ?_) (fun _ => ?_)
  rotate_left
  · exact mj_T.throws rfl rfl rfl (Nat.le_of_ble_eq_true rfl) (fin _ (x4.qt (jqt.app _)))
  refine mj_T.pl rfl rfl rfl rfl ?_
  refine mj_T.gfl rfl w1 w10 ?_
  refine mj_T.call rfl rfl (Nat.le_of_ble_eq_true rfl) (Nat.le_of_ble_eq_true rfl) (jrv_of o4 cK4.2.2.2.1 (by decide) rfl (by decide) rfl _) rfl (mj_Ok.up (by omega) ((jc_47 (D := 0) cTY hg4 o4 cK4.2.2.2.1).qt rfl)) (fun v h5 hq => ?_) (fun i h5 hq => absurd hq.1.1 List.not_mem_nil)
  obtain ⟨⟨⟨a5, ka5, hv⟩, hh⟩, _⟩ := hq
  subst hv
  have hh : h5 = h4 := hh
  subst hh
  refine mj_T.eq (st2 := [.ref a5]) ?_ rfl rfl rfl rfl
  refine mj_T.pl rfl rfl rfl rfl ?_
  refine jT.getR 19 102 2 cTY o4 rfl k1 (by decide) rfl rfl rfl (fun k13 => ?_)
  refine mj_T.call rfl rfl (Nat.le_of_ble_eq_true rfl) (Nat.le_of_ble_eq_true rfl) rfl rfl (mj_Ok.up (by omega) ((jc_164 (D := 0) cTY hg4 o4 ka5 k13).qt rfl)) (fun v h6 hq => ?_) (fun i h6 hq => absurd hq.1.1 List.not_mem_nil)
  obtain ⟨⟨hv, o6⟩, qt6⟩ := hq
  cases hv
  have x6 := x4.qt qt6
  iterate 2 refine mj_T.pl rfl rfl rfl rfl ?_
  refine mj_T.call rfl rfl (Nat.le_of_ble_eq_true rfl) (Nat.le_of_ble_eq_true rfl) (jrv_of o6 k1 (by decide) rfl (by decide) rfl _) rfl (mj_Ok.up (by omega) ((jc_154 (D := 0) cTY hg4 o6 k1 rp).qt rfl)) (fun v h7 hq => ?_) (fun i h7 hq => ?_)
  · obtain ⟨⟨⟨z7, _, _, hv⟩, _⟩, qt7⟩ := hq
    subst hv
    exact mj_T.ret rfl rfl rfl (fin _ (x6.qt qt7))
  · exact Or.inl ⟨rfl, fin _ (x6.qt hq.2)⟩
end JMN
