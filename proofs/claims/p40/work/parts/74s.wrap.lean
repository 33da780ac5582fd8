/-! The law's small methods around append, read, write: the bytes and the place of the error. -/
section JWR
variable {D n : Nat} {tm er : Int} {T : Nat → Int} {h : mj_H}
theorem jv_345 {p1 : Int} (w : jLw cK cL cR 571 n tm h) (rp1 : -2147483648 ≤ p1 ∧ p1 ≤ 2147483647) (x : jcx er tm T h) : mj_Ok (D + 6) 345 [.ref 1, .int (jn p1), .ref 571] h (fun r => jcx er tm T r.2) := by
  have hg : h.length ≤ n := Nat.le_of_eq w.1.1
  refine mj_Ok.of (M := mj_m345) (loc := [some (.ref 1), some (.int (jn p1)), some (.ref 571), none]) rfl rfl rfl ?_
  iterate 4 refine mj_T.pl rfl rfl rfl rfl ?_
  refine mj_T.call rfl rfl (Nat.le_of_ble_eq_true rfl) (Nat.le_of_ble_eq_true rfl) (jrv_of w.1 cK4.1 (by decide) rfl (by decide) rfl _) rfl ((jc_144 (D := D) cTY hg w.1 cK4.1 rp1).and (rq_write (D := D) rp1 w.1 hg x)) (fun v h1 hq => ?_) (fun i h1 hq => ?_)
  · obtain ⟨⟨hv, o1⟩, x1⟩ := hq
    obtain ⟨z, _, _, rfl⟩ := hv
    obtain ⟨_, _, f, hf⟩ := w.thr o1
    refine mj_T.step rfl rfl rfl ?_
    refine jcx.last hf rfl (fun e => ?_)
    iterate 2 refine mj_T.pl rfl rfl rfl rfl ?_
    exact mj_T.ret rfl rfl rfl (x1.setq (by decide) (by decide))
  · obtain ⟨⟨hi, o1⟩, x1⟩ := hq
    simp only [List.mem_cons, List.not_mem_nil, or_false] at hi
    subst hi
    refine Or.inr ⟨3, 13, rfl, (Nat.le_of_ble_eq_true rfl), ?_⟩
    refine mj_T.pl rfl rfl rfl rfl ?_
    exact mj_T.ret rfl rfl rfl x1
theorem jv_322 {p1 : Int} {tm0 : Nat} (w : jLw cK cL cR 571 n (tm0 : Int) h) (rp1 : -2147483648 ≤ p1 ∧ p1 ≤ 2147483647) (x : jcx er (tm0 : Int) T h) (hT : ∀ j : Nat, j < tm0 → 1 ≤ T j ∧ T j ≤ 255) : mj_Ok 61 322 [.ref 1, .int (jn p1), .ref 571] h (fun r => (¬ (0 ≤ p1 ∧ p1 ≤ 5) ∧ jcx er (tm0 : Int) T r.2) ∨ ((0 ≤ p1 ∧ p1 ≤ 5) ∧ jcx (rdErr T tm0) 0 T r.2)) := by
  have hg : h.length ≤ n := Nat.le_of_eq w.1.1
  refine mj_Ok.of (M := mj_m322) (loc := [some (.ref 1), some (.int (jn p1)), some (.ref 571), none]) rfl rfl rfl ?_
  iterate 4 refine mj_T.pl rfl rfl rfl rfl ?_
  refine mj_T.call rfl rfl (Nat.le_of_ble_eq_true rfl) (Nat.le_of_ble_eq_true rfl) (jrv_of w.1 cK4.1 (by decide) rfl (by decide) rfl _) rfl ((mj_Ok.up (by decide) (jc_114 (D := 0) cTY hg w.1 cK4.1 rp1)).and (rq_read rp1 w.1 hg x hT)) (fun v h1 hq => ?_) (fun i h1 hq => ?_)
  · obtain ⟨hq, x1⟩ := hq
    rcases hq with ⟨_, hv, _⟩ | ⟨hp, ⟨z, hv, o1⟩ | ⟨_, _, hv, _⟩⟩
    · cases hv
    · cases hv
      obtain ⟨_, _, f, hf⟩ := w.thr o1
      refine mj_T.step rfl rfl rfl ?_
      refine jcx.last hf rfl (fun e => ?_)
      iterate 2 refine mj_T.pl rfl rfl rfl rfl ?_
      refine mj_T.ret rfl rfl rfl ?_
      rcases x1 with ⟨a, b⟩ | ⟨a, b⟩
      · exact absurd hp a
      · exact Or.inr ⟨a, b.setq (by decide) (by decide)⟩
    · cases hv
  · obtain ⟨hq, x1⟩ := hq
    have hi : i ∈ [0, 2, 1] := by
      rcases hq with ⟨_, hv, _⟩ | ⟨_, ⟨_, hv, _⟩ | ⟨_, hi, hv, _⟩⟩
      · cases hv
        exact List.mem_cons_self
      · cases hv
      · cases hv
        exact hi
    simp only [List.mem_cons, List.not_mem_nil, or_false] at hi
    rcases hi with hi | hi | hi
    · subst hi
      refine Or.inr ⟨3, 13, rfl, (Nat.le_of_ble_eq_true rfl), ?_⟩
      refine mj_T.pl rfl rfl rfl rfl ?_
      exact mj_T.ret rfl rfl rfl x1
    · subst hi
      refine Or.inr ⟨3, 16, rfl, (Nat.le_of_ble_eq_true rfl), ?_⟩
      refine mj_T.pl rfl rfl rfl rfl ?_
      exact mj_T.ret rfl rfl rfl x1
    · subst hi
      refine Or.inr ⟨3, 19, rfl, (Nat.le_of_ble_eq_true rfl), ?_⟩
      refine mj_T.pl rfl rfl rfl rfl ?_
      exact mj_T.ret rfl rfl rfl x1
theorem jv_344 {x1 x2 x3 x4 x5 : Int32} {tm0 : Nat} (w : jLw cK cL cR 571 n (tm0 : Int) h) (x : jcx er (tm0 : Int) T h) : mj_Ok (D + 4) 344 [.ref 1, .int x1, .int x2, .int x3, .int x4, .int x5, .ref 571] h (fun r => (200 < tm0 + jcn x1 x2 x3 x4 x5 20 ∧ jcx er (tm0 : Int) T r.2) ∨ (tm0 + jcn x1 x2 x3 x4 x5 20 ≤ 200 ∧ jcx er ((tm0 + jcn x1 x2 x3 x4 x5 20 : Nat) : Int) (apT x1 x2 x3 x4 x5 tm0 T 20) r.2)) := by
  have hg : h.length ≤ n := Nat.le_of_eq w.1.1
  have ht := w.1.2.1
  obtain ⟨mf, m1, m2, m4, _⟩ := w.1.main
  refine mj_Ok.of (M := mj_m344) (loc := [some (.ref 1), some (.int x1), some (.int x2), some (.int x3), some (.int x4), some (.int x5), some (.ref 571), none]) rfl rfl rfl ?_
  iterate 8 refine mj_T.pl rfl rfl rfl rfl ?_
  refine mj_T.call rfl rfl (Nat.le_of_ble_eq_true rfl) (Nat.le_of_ble_eq_true rfl) (jrv_of w.1 cK4.1 (by decide) rfl (by decide) rfl _) rfl ((jc_141 (D := D) cTY hg w.1 cK4.1).and (rq_append (D := D) m1 m4 (x.jBuf w.1) (by omega))) (fun v h1 hq => ?_) (fun i h1 hq => ?_)
  · obtain ⟨hq, y⟩ := hq
    rcases hq with ⟨_, hv, _⟩ | ⟨ha, hv, o1⟩
    · cases hv
    cases hv
    obtain ⟨_, _, f, hf⟩ := w.thr o1
    refine mj_T.eq (pc2 := 14) (st2 := [.int (jn ((tm0 : Int) + (jcn x1 x2 x3 x4 x5 20 : Int))), .int (jn 0), .ref 571]) ?_ rfl rfl rfl rfl
    refine mj_T.i2l rfl ⟨by omega, by omega⟩ ?_
    refine jcx.last hf rfl (fun e => ?_)
    iterate 2 refine mj_T.pl rfl rfl rfl rfl ?_
    refine mj_T.ret rfl rfl rfl ?_
    rcases y with ⟨a, _⟩ | ⟨a, b, c⟩
    · omega
    · obtain ⟨⟨fs, z1, z2⟩, _⟩ := x
      refine Or.inr ⟨a, jcx.setq ⟨⟨fs, by rw [c.2 1 (by decide) (by decide)]; exact z1, z2⟩, ?_⟩ (by decide) (by decide)⟩
      obtain ⟨_, f2, y1, y2⟩ := b
      exact ⟨f2, y1, fun j hj => y2 j (by omega)⟩
  · obtain ⟨hq, y⟩ := hq
    rcases hq with ⟨ha, hv, o1⟩ | ⟨_, hv, _⟩
    · cases hv
      refine Or.inr ⟨7, 21, rfl, (Nat.le_of_ble_eq_true rfl), ?_⟩
      refine mj_T.pl rfl rfl rfl rfl ?_
      refine mj_T.ret rfl rfl rfl ?_
      rcases y with ⟨a, b⟩ | ⟨a, _, _⟩
      · exact Or.inl ⟨a, x.qt b⟩
      · omega
    · cases hv
/-- errorPosition -/
theorem rq_errpos (x : jcx er tm T h) : mj_Ok (D + 1) 143 [.ref 1] h (fun r => r.1 = .inl (some (.int (jn er)))) := by
  obtain ⟨⟨fs, z1, z2⟩, _⟩ := x
  refine mj_Ok.of (M := mj_m143) (loc := [some (.ref 1)]) rfl rfl rfl ?_
  refine mj_T.pl rfl rfl rfl rfl ?_
  refine mj_T.gfl rfl z1 z2 ?_
  exact mj_T.ret rfl rfl rfl rfl
end JWR
theorem jZ_pl : jPl cK 571 563 := ⟨fun i hi => ⟨cK_out (by omega), by omega⟩, ck0.1, by decide, by decide⟩
