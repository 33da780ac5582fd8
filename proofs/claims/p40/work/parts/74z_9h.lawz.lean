/-! The law's small methods: the class behind them. -/
theorem yZ.set {P : SP} {h1 : mj_H} {e : mj_E} (y : yZ P h1) : yZ P (h1.set 571 e) := y.fr (fun a ha => List.getElem?_set_ne (fun q => ha (by rw [← q]; exact cK_out (by decide))))
section JYL
variable {n : Nat} {tm : Int} {h : mj_H} {Φ : SP}
theorem jy_310 {p1 : Int} {p2 : Int} {p3 : Int} (w : jLw cK cL cR 571 n tm h) (rp1 : -2147483648 ≤ p1 ∧ p1 ≤ 2147483647) (rp2 : -2147483648 ≤ p2 ∧ p2 ≤ 2147483647) (rp3 : -2147483648 ≤ p3 ∧ p3 ≤ 2147483647) (c : mj_Ok 59 102 [.ref 1, .int (jn p1), .int (jn p2), .int (jn p3)] h (fun r => yZ Φ r.2)) : mj_Ok 60 310 [.ref 1, .int (jn p1), .int (jn p2), .int (jn p3), .ref 571] h (fun r => yZ Φ r.2) := by
  have hg : h.length ≤ n := Nat.le_of_eq w.1.1
  refine mj_Ok.of (M := mj_m310) (loc := [some (.ref 1), some (.int (jn p1)), some (.int (jn p2)), some (.int (jn p3)), some (.ref 571), none]) rfl rfl rfl ?_
  iterate 6 refine mj_T.pl rfl rfl rfl rfl ?_
  refine mj_T.call rfl rfl (Nat.le_of_ble_eq_true rfl) (Nat.le_of_ble_eq_true rfl) (jrv_of w.1 cK4.1 (by decide) rfl (by decide) rfl _) rfl ((mj_Ok.up (by decide) (jc_102 (D := 0) cTY hg w.1 cK4.1 rp1 rp2 rp3)).and c) (fun v h1 hq => ?_) (fun i h1 hq => ?_)
  · obtain ⟨⟨hv, o1⟩, y1⟩ := hq
    obtain ⟨z, _, _, rfl⟩ := hv
    obtain ⟨_, _, f, hf⟩ := w.thr o1
    refine mj_T.step rfl rfl rfl ?_
    refine jcx.last hf rfl (fun e => ?_)
    iterate 2 refine mj_T.pl rfl rfl rfl rfl ?_
    exact mj_T.ret rfl rfl rfl (yZ.set y1)
  · obtain ⟨⟨hi, o1⟩, y1⟩ := hq
    simp only [List.mem_cons, List.not_mem_nil, or_false] at hi
    rcases hi with hi | hi
    · subst hi
      refine Or.inr ⟨5, 17, rfl, (Nat.le_of_ble_eq_true rfl), ?_⟩
      refine mj_T.pl rfl rfl rfl rfl ?_
      exact mj_T.ret rfl rfl rfl y1
    · subst hi
      refine Or.inr ⟨5, 21, rfl, (Nat.le_of_ble_eq_true rfl), ?_⟩
      refine mj_T.pl rfl rfl rfl rfl ?_
      exact mj_T.ret rfl rfl rfl y1
theorem jy_311 {p1 : Int} {p2 : Int} {p3 : Int} (w : jLw cK cL cR 571 n tm h) (rp1 : -2147483648 ≤ p1 ∧ p1 ≤ 2147483647) (rp2 : -2147483648 ≤ p2 ∧ p2 ≤ 2147483647) (rp3 : -2147483648 ≤ p3 ∧ p3 ≤ 2147483647) (c : mj_Ok 59 103 [.ref 1, .int (jn p1), .int (jn p2), .int (jn p3)] h (fun r => yZ Φ r.2)) : mj_Ok 60 311 [.ref 1, .int (jn p1), .int (jn p2), .int (jn p3), .ref 571] h (fun r => yZ Φ r.2) := by
  have hg : h.length ≤ n := Nat.le_of_eq w.1.1
  refine mj_Ok.of (M := mj_m311) (loc := [some (.ref 1), some (.int (jn p1)), some (.int (jn p2)), some (.int (jn p3)), some (.ref 571), none]) rfl rfl rfl ?_
  iterate 6 refine mj_T.pl rfl rfl rfl rfl ?_
  refine mj_T.call rfl rfl (Nat.le_of_ble_eq_true rfl) (Nat.le_of_ble_eq_true rfl) (jrv_of w.1 cK4.1 (by decide) rfl (by decide) rfl _) rfl ((mj_Ok.up (by decide) (jc_103 (D := 0) cTY hg w.1 cK4.1 rp1 rp2 rp3)).and c) (fun v h1 hq => ?_) (fun i h1 hq => ?_)
  · obtain ⟨⟨hv, o1⟩, y1⟩ := hq
    obtain ⟨z, _, _, rfl⟩ := hv
    obtain ⟨_, _, f, hf⟩ := w.thr o1
    refine mj_T.step rfl rfl rfl ?_
    refine jcx.last hf rfl (fun e => ?_)
    iterate 2 refine mj_T.pl rfl rfl rfl rfl ?_
    exact mj_T.ret rfl rfl rfl (yZ.set y1)
  · obtain ⟨⟨hi, o1⟩, y1⟩ := hq
    simp only [List.mem_cons, List.not_mem_nil, or_false] at hi
    rcases hi with hi | hi
    · subst hi
      refine Or.inr ⟨5, 17, rfl, (Nat.le_of_ble_eq_true rfl), ?_⟩
      refine mj_T.pl rfl rfl rfl rfl ?_
      exact mj_T.ret rfl rfl rfl y1
    · subst hi
      refine Or.inr ⟨5, 21, rfl, (Nat.le_of_ble_eq_true rfl), ?_⟩
      refine mj_T.pl rfl rfl rfl rfl ?_
      exact mj_T.ret rfl rfl rfl y1
theorem jy_312 {p1 : Int} {p2 : Int} {p3 : Int} (w : jLw cK cL cR 571 n tm h) (rp1 : -2147483648 ≤ p1 ∧ p1 ≤ 2147483647) (rp2 : -2147483648 ≤ p2 ∧ p2 ≤ 2147483647) (rp3 : -2147483648 ≤ p3 ∧ p3 ≤ 2147483647) (c : mj_Ok 59 104 [.ref 1, .int (jn p1), .int (jn p2), .int (jn p3)] h (fun r => yZ Φ r.2)) : mj_Ok 60 312 [.ref 1, .int (jn p1), .int (jn p2), .int (jn p3), .ref 571] h (fun r => yZ Φ r.2) := by
  have hg : h.length ≤ n := Nat.le_of_eq w.1.1
  refine mj_Ok.of (M := mj_m312) (loc := [some (.ref 1), some (.int (jn p1)), some (.int (jn p2)), some (.int (jn p3)), some (.ref 571), none]) rfl rfl rfl ?_
  iterate 6 refine mj_T.pl rfl rfl rfl rfl ?_
  refine mj_T.call rfl rfl (Nat.le_of_ble_eq_true rfl) (Nat.le_of_ble_eq_true rfl) (jrv_of w.1 cK4.1 (by decide) rfl (by decide) rfl _) rfl ((mj_Ok.up (by decide) (jc_104 (D := 0) cTY hg w.1 cK4.1 rp1 rp2 rp3)).and c) (fun v h1 hq => ?_) (fun i h1 hq => ?_)
  · obtain ⟨⟨hv, o1⟩, y1⟩ := hq
    obtain ⟨z, _, _, rfl⟩ := hv
    obtain ⟨_, _, f, hf⟩ := w.thr o1
    refine mj_T.step rfl rfl rfl ?_
    refine jcx.last hf rfl (fun e => ?_)
    iterate 2 refine mj_T.pl rfl rfl rfl rfl ?_
    exact mj_T.ret rfl rfl rfl (yZ.set y1)
  · obtain ⟨⟨hi, o1⟩, y1⟩ := hq
    simp only [List.mem_cons, List.not_mem_nil, or_false] at hi
    rcases hi with hi | hi
    · subst hi
      refine Or.inr ⟨5, 17, rfl, (Nat.le_of_ble_eq_true rfl), ?_⟩
      refine mj_T.pl rfl rfl rfl rfl ?_
      exact mj_T.ret rfl rfl rfl y1
    · subst hi
      refine Or.inr ⟨5, 21, rfl, (Nat.le_of_ble_eq_true rfl), ?_⟩
      refine mj_T.pl rfl rfl rfl rfl ?_
      exact mj_T.ret rfl rfl rfl y1
theorem jy_313 {p1 : Int} {p2 : Int} {p3 : Int} (w : jLw cK cL cR 571 n tm h) (rp1 : -2147483648 ≤ p1 ∧ p1 ≤ 2147483647) (rp2 : -2147483648 ≤ p2 ∧ p2 ≤ 2147483647) (rp3 : -2147483648 ≤ p3 ∧ p3 ≤ 2147483647) (c : mj_Ok 59 105 [.ref 1, .int (jn p1), .int (jn p2), .int (jn p3)] h (fun r => yZ Φ r.2)) : mj_Ok 60 313 [.ref 1, .int (jn p1), .int (jn p2), .int (jn p3), .ref 571] h (fun r => yZ Φ r.2) := by
  have hg : h.length ≤ n := Nat.le_of_eq w.1.1
  refine mj_Ok.of (M := mj_m313) (loc := [some (.ref 1), some (.int (jn p1)), some (.int (jn p2)), some (.int (jn p3)), some (.ref 571), none]) rfl rfl rfl ?_
  iterate 6 refine mj_T.pl rfl rfl rfl rfl ?_
  refine mj_T.call rfl rfl (Nat.le_of_ble_eq_true rfl) (Nat.le_of_ble_eq_true rfl) (jrv_of w.1 cK4.1 (by decide) rfl (by decide) rfl _) rfl ((mj_Ok.up (by decide) (jc_105 (D := 0) cTY hg w.1 cK4.1 rp1 rp2 rp3)).and c) (fun v h1 hq => ?_) (fun i h1 hq => ?_)
  · obtain ⟨⟨hv, o1⟩, y1⟩ := hq
    obtain ⟨z, _, _, rfl⟩ := hv
    obtain ⟨_, _, f, hf⟩ := w.thr o1
    refine mj_T.step rfl rfl rfl ?_
    refine jcx.last hf rfl (fun e => ?_)
    iterate 2 refine mj_T.pl rfl rfl rfl rfl ?_
    exact mj_T.ret rfl rfl rfl (yZ.set y1)
  · obtain ⟨⟨hi, o1⟩, y1⟩ := hq
    simp only [List.mem_cons, List.not_mem_nil, or_false] at hi
    rcases hi with hi | hi | hi
    · subst hi
      refine Or.inr ⟨5, 17, rfl, (Nat.le_of_ble_eq_true rfl), ?_⟩
      refine mj_T.pl rfl rfl rfl rfl ?_
      exact mj_T.ret rfl rfl rfl y1
    · subst hi
      refine Or.inr ⟨5, 21, rfl, (Nat.le_of_ble_eq_true rfl), ?_⟩
      refine mj_T.pl rfl rfl rfl rfl ?_
      exact mj_T.ret rfl rfl rfl y1
    · subst hi
      refine Or.inr ⟨5, 25, rfl, (Nat.le_of_ble_eq_true rfl), ?_⟩
      refine mj_T.pl rfl rfl rfl rfl ?_
      exact mj_T.ret rfl rfl rfl y1
theorem jy_314 {p1 : Int} {p2 : Int} (w : jLw cK cL cR 571 n tm h) (rp1 : -2147483648 ≤ p1 ∧ p1 ≤ 2147483647) (rp2 : -2147483648 ≤ p2 ∧ p2 ≤ 2147483647) (c : mj_Ok 59 106 [.ref 1, .int (jn p1), .int (jn p2)] h (fun r => yZ Φ r.2)) : mj_Ok 60 314 [.ref 1, .int (jn p1), .int (jn p2), .ref 571] h (fun r => yZ Φ r.2) := by
  have hg : h.length ≤ n := Nat.le_of_eq w.1.1
  refine mj_Ok.of (M := mj_m314) (loc := [some (.ref 1), some (.int (jn p1)), some (.int (jn p2)), some (.ref 571), none]) rfl rfl rfl ?_
  iterate 5 refine mj_T.pl rfl rfl rfl rfl ?_
  refine mj_T.call rfl rfl (Nat.le_of_ble_eq_true rfl) (Nat.le_of_ble_eq_true rfl) (jrv_of w.1 cK4.1 (by decide) rfl (by decide) rfl _) rfl ((mj_Ok.up (by decide) (jc_106 (D := 0) cTY hg w.1 cK4.1 rp1 rp2)).and c) (fun v h1 hq => ?_) (fun i h1 hq => ?_)
  · obtain ⟨⟨hv, o1⟩, y1⟩ := hq
    obtain ⟨z, _, _, rfl⟩ := hv
    obtain ⟨_, _, f, hf⟩ := w.thr o1
    refine mj_T.step rfl rfl rfl ?_
    refine jcx.last hf rfl (fun e => ?_)
    iterate 2 refine mj_T.pl rfl rfl rfl rfl ?_
    exact mj_T.ret rfl rfl rfl (yZ.set y1)
  · obtain ⟨⟨hi, o1⟩, y1⟩ := hq
    simp only [List.mem_cons, List.not_mem_nil, or_false] at hi
    rcases hi with hi | hi
    · subst hi
      refine Or.inr ⟨4, 15, rfl, (Nat.le_of_ble_eq_true rfl), ?_⟩
      refine mj_T.pl rfl rfl rfl rfl ?_
      exact mj_T.ret rfl rfl rfl y1
    · subst hi
      refine Or.inr ⟨4, 19, rfl, (Nat.le_of_ble_eq_true rfl), ?_⟩
      refine mj_T.pl rfl rfl rfl rfl ?_
      exact mj_T.ret rfl rfl rfl y1
theorem jy_315 {p1 : Int} {p2 : Int} {p3 : Int} (w : jLw cK cL cR 571 n tm h) (rp1 : -2147483648 ≤ p1 ∧ p1 ≤ 2147483647) (rp2 : -2147483648 ≤ p2 ∧ p2 ≤ 2147483647) (rp3 : -2147483648 ≤ p3 ∧ p3 ≤ 2147483647) (c : mj_Ok 59 107 [.ref 1, .int (jn p1), .int (jn p2), .int (jn p3)] h (fun r => yZ Φ r.2)) : mj_Ok 60 315 [.ref 1, .int (jn p1), .int (jn p2), .int (jn p3), .ref 571] h (fun r => yZ Φ r.2) := by
  have hg : h.length ≤ n := Nat.le_of_eq w.1.1
  refine mj_Ok.of (M := mj_m315) (loc := [some (.ref 1), some (.int (jn p1)), some (.int (jn p2)), some (.int (jn p3)), some (.ref 571), none]) rfl rfl rfl ?_
  iterate 6 refine mj_T.pl rfl rfl rfl rfl ?_
  refine mj_T.call rfl rfl (Nat.le_of_ble_eq_true rfl) (Nat.le_of_ble_eq_true rfl) (jrv_of w.1 cK4.1 (by decide) rfl (by decide) rfl _) rfl ((mj_Ok.up (by decide) (jc_107 (D := 0) cTY hg w.1 cK4.1 rp1 rp2 rp3)).and c) (fun v h1 hq => ?_) (fun i h1 hq => ?_)
  · obtain ⟨⟨hv, o1⟩, y1⟩ := hq
    obtain ⟨z, _, _, rfl⟩ := hv
    obtain ⟨_, _, f, hf⟩ := w.thr o1
    refine mj_T.step rfl rfl rfl ?_
    refine jcx.last hf rfl (fun e => ?_)
    iterate 2 refine mj_T.pl rfl rfl rfl rfl ?_
    exact mj_T.ret rfl rfl rfl (yZ.set y1)
  · obtain ⟨⟨hi, o1⟩, y1⟩ := hq
    simp only [List.mem_cons, List.not_mem_nil, or_false] at hi
    rcases hi with hi | hi
    · subst hi
      refine Or.inr ⟨5, 17, rfl, (Nat.le_of_ble_eq_true rfl), ?_⟩
      refine mj_T.pl rfl rfl rfl rfl ?_
      exact mj_T.ret rfl rfl rfl y1
    · subst hi
      refine Or.inr ⟨5, 21, rfl, (Nat.le_of_ble_eq_true rfl), ?_⟩
      refine mj_T.pl rfl rfl rfl rfl ?_
      exact mj_T.ret rfl rfl rfl y1
theorem jy_316 {p1 : Int} {p2 : Int} {p3 : Int} {p4 : Int} (w : jLw cK cL cR 571 n tm h) (rp1 : -2147483648 ≤ p1 ∧ p1 ≤ 2147483647) (rp2 : -2147483648 ≤ p2 ∧ p2 ≤ 2147483647) (rp3 : -2147483648 ≤ p3 ∧ p3 ≤ 2147483647) (rp4 : -2147483648 ≤ p4 ∧ p4 ≤ 2147483647) (c : mj_Ok 59 108 [.ref 1, .int (jn p1), .int (jn p2), .int (jn p3), .int (jn p4)] h (fun r => yZ Φ r.2)) : mj_Ok 60 316 [.ref 1, .int (jn p1), .int (jn p2), .int (jn p3), .int (jn p4), .ref 571] h (fun r => yZ Φ r.2) := by
  have hg : h.length ≤ n := Nat.le_of_eq w.1.1
  refine mj_Ok.of (M := mj_m316) (loc := [some (.ref 1), some (.int (jn p1)), some (.int (jn p2)), some (.int (jn p3)), some (.int (jn p4)), some (.ref 571), none]) rfl rfl rfl ?_
  iterate 7 refine mj_T.pl rfl rfl rfl rfl ?_
  refine mj_T.call rfl rfl (Nat.le_of_ble_eq_true rfl) (Nat.le_of_ble_eq_true rfl) (jrv_of w.1 cK4.1 (by decide) rfl (by decide) rfl _) rfl ((mj_Ok.up (by decide) (jc_108 (D := 0) cTY hg w.1 cK4.1 rp1 rp2 rp3 rp4)).and c) (fun v h1 hq => ?_) (fun i h1 hq => ?_)
  · obtain ⟨⟨hv, o1⟩, y1⟩ := hq
    obtain ⟨z, _, _, rfl⟩ := hv
    obtain ⟨_, _, f, hf⟩ := w.thr o1
    refine mj_T.step rfl rfl rfl ?_
    refine jcx.last hf rfl (fun e => ?_)
    iterate 2 refine mj_T.pl rfl rfl rfl rfl ?_
    exact mj_T.ret rfl rfl rfl (yZ.set y1)
  · obtain ⟨⟨hi, o1⟩, y1⟩ := hq
    simp only [List.mem_cons, List.not_mem_nil, or_false] at hi
    rcases hi with hi | hi | hi | hi
    · subst hi
      refine Or.inr ⟨6, 19, rfl, (Nat.le_of_ble_eq_true rfl), ?_⟩
      refine mj_T.pl rfl rfl rfl rfl ?_
      exact mj_T.ret rfl rfl rfl y1
    · subst hi
      refine Or.inr ⟨6, 23, rfl, (Nat.le_of_ble_eq_true rfl), ?_⟩
      refine mj_T.pl rfl rfl rfl rfl ?_
      exact mj_T.ret rfl rfl rfl y1
    · subst hi
      refine Or.inr ⟨6, 27, rfl, (Nat.le_of_ble_eq_true rfl), ?_⟩
      refine mj_T.pl rfl rfl rfl rfl ?_
      exact mj_T.ret rfl rfl rfl y1
    · subst hi
      refine Or.inr ⟨6, 31, rfl, (Nat.le_of_ble_eq_true rfl), ?_⟩
      refine mj_T.pl rfl rfl rfl rfl ?_
      exact mj_T.ret rfl rfl rfl y1
theorem jy_317 {p1 : Int} {p2 : Int} {p3 : Int} (w : jLw cK cL cR 571 n tm h) (rp1 : -2147483648 ≤ p1 ∧ p1 ≤ 2147483647) (rp2 : -2147483648 ≤ p2 ∧ p2 ≤ 2147483647) (rp3 : -2147483648 ≤ p3 ∧ p3 ≤ 2147483647) (c : mj_Ok 59 109 [.ref 1, .int (jn p1), .int (jn p2), .int (jn p3)] h (fun r => yZ Φ r.2)) : mj_Ok 60 317 [.ref 1, .int (jn p1), .int (jn p2), .int (jn p3), .ref 571] h (fun r => yZ Φ r.2) := by
  have hg : h.length ≤ n := Nat.le_of_eq w.1.1
  refine mj_Ok.of (M := mj_m317) (loc := [some (.ref 1), some (.int (jn p1)), some (.int (jn p2)), some (.int (jn p3)), some (.ref 571), none]) rfl rfl rfl ?_
  iterate 6 refine mj_T.pl rfl rfl rfl rfl ?_
  refine mj_T.call rfl rfl (Nat.le_of_ble_eq_true rfl) (Nat.le_of_ble_eq_true rfl) (jrv_of w.1 cK4.1 (by decide) rfl (by decide) rfl _) rfl ((mj_Ok.up (by decide) (jc_109 (D := 0) cTY hg w.1 cK4.1 rp1 rp2 rp3)).and c) (fun v h1 hq => ?_) (fun i h1 hq => ?_)
  · obtain ⟨⟨hv, o1⟩, y1⟩ := hq
    obtain ⟨z, _, _, rfl⟩ := hv
    obtain ⟨_, _, f, hf⟩ := w.thr o1
    refine mj_T.step rfl rfl rfl ?_
    refine jcx.last hf rfl (fun e => ?_)
    iterate 2 refine mj_T.pl rfl rfl rfl rfl ?_
    exact mj_T.ret rfl rfl rfl (yZ.set y1)
  · obtain ⟨⟨hi, o1⟩, y1⟩ := hq
    simp only [List.mem_cons, List.not_mem_nil, or_false] at hi
    rcases hi with hi | hi
    · subst hi
      refine Or.inr ⟨5, 17, rfl, (Nat.le_of_ble_eq_true rfl), ?_⟩
      refine mj_T.pl rfl rfl rfl rfl ?_
      exact mj_T.ret rfl rfl rfl y1
    · subst hi
      refine Or.inr ⟨5, 21, rfl, (Nat.le_of_ble_eq_true rfl), ?_⟩
      refine mj_T.pl rfl rfl rfl rfl ?_
      exact mj_T.ret rfl rfl rfl y1
theorem jy_318 {p1 : Int} {p2 : Int} (w : jLw cK cL cR 571 n tm h) (rp1 : -2147483648 ≤ p1 ∧ p1 ≤ 2147483647) (rp2 : -2147483648 ≤ p2 ∧ p2 ≤ 2147483647) (c : mj_Ok 59 110 [.ref 1, .int (jn p1), .int (jn p2)] h (fun r => yZ Φ r.2)) : mj_Ok 60 318 [.ref 1, .int (jn p1), .int (jn p2), .ref 571] h (fun r => yZ Φ r.2) := by
  have hg : h.length ≤ n := Nat.le_of_eq w.1.1
  refine mj_Ok.of (M := mj_m318) (loc := [some (.ref 1), some (.int (jn p1)), some (.int (jn p2)), some (.ref 571), none]) rfl rfl rfl ?_
  iterate 5 refine mj_T.pl rfl rfl rfl rfl ?_
  refine mj_T.call rfl rfl (Nat.le_of_ble_eq_true rfl) (Nat.le_of_ble_eq_true rfl) (jrv_of w.1 cK4.1 (by decide) rfl (by decide) rfl _) rfl ((mj_Ok.up (by decide) (jc_110 (D := 0) cTY hg w.1 cK4.1 rp1 rp2)).and c) (fun v h1 hq => ?_) (fun i h1 hq => ?_)
  · obtain ⟨⟨hv, o1⟩, y1⟩ := hq
    obtain ⟨z, _, _, rfl⟩ := hv
    obtain ⟨_, _, f, hf⟩ := w.thr o1
    refine mj_T.step rfl rfl rfl ?_
    refine jcx.last hf rfl (fun e => ?_)
    iterate 2 refine mj_T.pl rfl rfl rfl rfl ?_
    exact mj_T.ret rfl rfl rfl (yZ.set y1)
  · obtain ⟨⟨hi, o1⟩, y1⟩ := hq
    simp only [List.mem_cons, List.not_mem_nil, or_false] at hi
    · subst hi
      refine Or.inr ⟨4, 15, rfl, (Nat.le_of_ble_eq_true rfl), ?_⟩
      refine mj_T.pl rfl rfl rfl rfl ?_
      exact mj_T.ret rfl rfl rfl y1
theorem jy_319 {p1 : Int} {p2 : Int} (w : jLw cK cL cR 571 n tm h) (rp1 : -2147483648 ≤ p1 ∧ p1 ≤ 2147483647) (rp2 : -2147483648 ≤ p2 ∧ p2 ≤ 2147483647) (c : mj_Ok 59 111 [.ref 1, .int (jn p1), .int (jn p2)] h (fun r => yZ Φ r.2)) : mj_Ok 60 319 [.ref 1, .int (jn p1), .int (jn p2), .ref 571] h (fun r => yZ Φ r.2) := by
  have hg : h.length ≤ n := Nat.le_of_eq w.1.1
  refine mj_Ok.of (M := mj_m319) (loc := [some (.ref 1), some (.int (jn p1)), some (.int (jn p2)), some (.ref 571), none]) rfl rfl rfl ?_
  iterate 5 refine mj_T.pl rfl rfl rfl rfl ?_
  refine mj_T.call rfl rfl (Nat.le_of_ble_eq_true rfl) (Nat.le_of_ble_eq_true rfl) (jrv_of w.1 cK4.1 (by decide) rfl (by decide) rfl _) rfl ((mj_Ok.up (by decide) (jc_111 (D := 0) cTY hg w.1 cK4.1 rp1 rp2)).and c) (fun v h1 hq => ?_) (fun i h1 hq => ?_)
  · obtain ⟨⟨hv, o1⟩, y1⟩ := hq
    obtain ⟨z, _, _, rfl⟩ := hv
    obtain ⟨_, _, f, hf⟩ := w.thr o1
    refine mj_T.step rfl rfl rfl ?_
    refine jcx.last hf rfl (fun e => ?_)
    iterate 2 refine mj_T.pl rfl rfl rfl rfl ?_
    exact mj_T.ret rfl rfl rfl (yZ.set y1)
  · obtain ⟨⟨hi, o1⟩, y1⟩ := hq
    simp only [List.mem_cons, List.not_mem_nil, or_false] at hi
    rcases hi with hi | hi | hi
    · subst hi
      refine Or.inr ⟨4, 15, rfl, (Nat.le_of_ble_eq_true rfl), ?_⟩
      refine mj_T.pl rfl rfl rfl rfl ?_
      exact mj_T.ret rfl rfl rfl y1
    · subst hi
      refine Or.inr ⟨4, 19, rfl, (Nat.le_of_ble_eq_true rfl), ?_⟩
      refine mj_T.pl rfl rfl rfl rfl ?_
      exact mj_T.ret rfl rfl rfl y1
    · subst hi
      refine Or.inr ⟨4, 23, rfl, (Nat.le_of_ble_eq_true rfl), ?_⟩
      refine mj_T.pl rfl rfl rfl rfl ?_
      exact mj_T.ret rfl rfl rfl y1
theorem jy_320 {p1 : Int} {p2 : Int} {p3 : Int} (w : jLw cK cL cR 571 n tm h) (rp1 : -2147483648 ≤ p1 ∧ p1 ≤ 2147483647) (rp2 : -2147483648 ≤ p2 ∧ p2 ≤ 2147483647) (rp3 : -2147483648 ≤ p3 ∧ p3 ≤ 2147483647) (c : mj_Ok 59 112 [.ref 1, .int (jn p1), .int (jn p2), .int (jn p3)] h (fun r => yZ Φ r.2)) : mj_Ok 60 320 [.ref 1, .int (jn p1), .int (jn p2), .int (jn p3), .ref 571] h (fun r => yZ Φ r.2) := by
  have hg : h.length ≤ n := Nat.le_of_eq w.1.1
  refine mj_Ok.of (M := mj_m320) (loc := [some (.ref 1), some (.int (jn p1)), some (.int (jn p2)), some (.int (jn p3)), some (.ref 571), none]) rfl rfl rfl ?_
  iterate 6 refine mj_T.pl rfl rfl rfl rfl ?_
  refine mj_T.call rfl rfl (Nat.le_of_ble_eq_true rfl) (Nat.le_of_ble_eq_true rfl) (jrv_of w.1 cK4.1 (by decide) rfl (by decide) rfl _) rfl ((mj_Ok.up (by decide) (jc_112 (D := 0) cTY hg w.1 cK4.1 rp1 rp2 rp3)).and c) (fun v h1 hq => ?_) (fun i h1 hq => ?_)
  · obtain ⟨⟨hv, o1⟩, y1⟩ := hq
    obtain ⟨z, _, _, rfl⟩ := hv
    obtain ⟨_, _, f, hf⟩ := w.thr o1
    refine mj_T.step rfl rfl rfl ?_
    refine jcx.last hf rfl (fun e => ?_)
    iterate 2 refine mj_T.pl rfl rfl rfl rfl ?_
    exact mj_T.ret rfl rfl rfl (yZ.set y1)
  · obtain ⟨⟨hi, o1⟩, y1⟩ := hq
    simp only [List.mem_cons, List.not_mem_nil, or_false] at hi
    rcases hi with hi | hi
    · subst hi
      refine Or.inr ⟨5, 17, rfl, (Nat.le_of_ble_eq_true rfl), ?_⟩
      refine mj_T.pl rfl rfl rfl rfl ?_
      exact mj_T.ret rfl rfl rfl y1
    · subst hi
      refine Or.inr ⟨5, 21, rfl, (Nat.le_of_ble_eq_true rfl), ?_⟩
      refine mj_T.pl rfl rfl rfl rfl ?_
      exact mj_T.ret rfl rfl rfl y1
theorem jy_321 {p1 : Int} {p2 : Int} {p3 : Int} (w : jLw cK cL cR 571 n tm h) (rp1 : -2147483648 ≤ p1 ∧ p1 ≤ 2147483647) (rp2 : -2147483648 ≤ p2 ∧ p2 ≤ 2147483647) (jp3 : jR p3) (c : mj_Ok 59 113 [.ref 1, .int (jn p1), .int (jn p2), .long (jl p3)] h (fun r => yZ Φ r.2)) : mj_Ok 60 321 [.ref 1, .int (jn p1), .int (jn p2), .long (jl p3), .ref 571] h (fun r => yZ Φ r.2) := by
  have hg : h.length ≤ n := Nat.le_of_eq w.1.1
  refine mj_Ok.of (M := mj_m321) (loc := [some (.ref 1), some (.int (jn p1)), some (.int (jn p2)), some (.long (jl p3)), none, some (.ref 571), none]) rfl rfl rfl ?_
  iterate 6 refine mj_T.pl rfl rfl rfl rfl ?_
  refine mj_T.call rfl rfl (Nat.le_of_ble_eq_true rfl) (Nat.le_of_ble_eq_true rfl) (jrv_of w.1 cK4.1 (by decide) rfl (by decide) rfl _) rfl ((mj_Ok.up (by decide) (jc_113 (D := 0) cTY hg w.1 cK4.1 rp1 rp2 jp3)).and c) (fun v h1 hq => ?_) (fun i h1 hq => ?_)
  · obtain ⟨⟨hv, o1⟩, y1⟩ := hq
    obtain ⟨z, _, _, rfl⟩ := hv
    obtain ⟨_, _, f, hf⟩ := w.thr o1
    refine mj_T.step rfl rfl rfl ?_
    refine jcx.last hf rfl (fun e => ?_)
    iterate 2 refine mj_T.pl rfl rfl rfl rfl ?_
    exact mj_T.ret rfl rfl rfl (yZ.set y1)
  · obtain ⟨⟨hi, o1⟩, y1⟩ := hq
    simp only [List.mem_cons, List.not_mem_nil, or_false] at hi
    rcases hi with hi | hi | hi
    · subst hi
      refine Or.inr ⟨6, 17, rfl, (Nat.le_of_ble_eq_true rfl), ?_⟩
      refine mj_T.pl rfl rfl rfl rfl ?_
      exact mj_T.ret rfl rfl rfl y1
    · subst hi
      refine Or.inr ⟨6, 21, rfl, (Nat.le_of_ble_eq_true rfl), ?_⟩
      refine mj_T.pl rfl rfl rfl rfl ?_
      exact mj_T.ret rfl rfl rfl y1
    · subst hi
      refine Or.inr ⟨6, 25, rfl, (Nat.le_of_ble_eq_true rfl), ?_⟩
      refine mj_T.pl rfl rfl rfl rfl ?_
      exact mj_T.ret rfl rfl rfl y1
theorem jy_323 {p1 : Int} {p2 : Int} (w : jLw cK cL cR 571 n tm h) (rp1 : -2147483648 ≤ p1 ∧ p1 ≤ 2147483647) (rp2 : -2147483648 ≤ p2 ∧ p2 ≤ 2147483647) (c : mj_Ok 59 115 [.ref 1, .int (jn p1), .int (jn p2)] h (fun r => yZ Φ r.2)) : mj_Ok 60 323 [.ref 1, .int (jn p1), .int (jn p2), .ref 571] h (fun r => yZ Φ r.2) := by
  have hg : h.length ≤ n := Nat.le_of_eq w.1.1
  refine mj_Ok.of (M := mj_m323) (loc := [some (.ref 1), some (.int (jn p1)), some (.int (jn p2)), some (.ref 571), none]) rfl rfl rfl ?_
  iterate 5 refine mj_T.pl rfl rfl rfl rfl ?_
  refine mj_T.call rfl rfl (Nat.le_of_ble_eq_true rfl) (Nat.le_of_ble_eq_true rfl) (jrv_of w.1 cK4.1 (by decide) rfl (by decide) rfl _) rfl ((mj_Ok.up (by decide) (jc_115 (D := 0) cTY hg w.1 cK4.1 rp1 rp2)).and c) (fun v h1 hq => ?_) (fun i h1 hq => ?_)
  · obtain ⟨⟨hv, o1⟩, y1⟩ := hq
    obtain ⟨z, _, _, rfl⟩ := hv
    obtain ⟨_, _, f, hf⟩ := w.thr o1
    refine mj_T.step rfl rfl rfl ?_
    refine jcx.last hf rfl (fun e => ?_)
    iterate 2 refine mj_T.pl rfl rfl rfl rfl ?_
    exact mj_T.ret rfl rfl rfl (yZ.set y1)
  · obtain ⟨⟨hi, o1⟩, y1⟩ := hq
    simp only [List.mem_cons, List.not_mem_nil, or_false] at hi
    rcases hi with hi | hi
    · subst hi
      refine Or.inr ⟨4, 15, rfl, (Nat.le_of_ble_eq_true rfl), ?_⟩
      refine mj_T.pl rfl rfl rfl rfl ?_
      exact mj_T.ret rfl rfl rfl y1
    · subst hi
      refine Or.inr ⟨4, 19, rfl, (Nat.le_of_ble_eq_true rfl), ?_⟩
      refine mj_T.pl rfl rfl rfl rfl ?_
      exact mj_T.ret rfl rfl rfl y1
theorem jy_324 {p1 : Int} (w : jLw cK cL cR 571 n tm h) (rp1 : -2147483648 ≤ p1 ∧ p1 ≤ 2147483647) (c : mj_Ok 59 117 [.ref 1, .int (jn p1)] h (fun r => yZ Φ r.2)) : mj_Ok 60 324 [.ref 1, .int (jn p1), .ref 571] h (fun r => yZ Φ r.2) := by
  have hg : h.length ≤ n := Nat.le_of_eq w.1.1
  refine mj_Ok.of (M := mj_m324) (loc := [some (.ref 1), some (.int (jn p1)), some (.ref 571), none]) rfl rfl rfl ?_
  iterate 4 refine mj_T.pl rfl rfl rfl rfl ?_
  refine mj_T.call rfl rfl (Nat.le_of_ble_eq_true rfl) (Nat.le_of_ble_eq_true rfl) (jrv_of w.1 cK4.1 (by decide) rfl (by decide) rfl _) rfl ((mj_Ok.up (by decide) (jc_117 (D := 0) cTY hg w.1 cK4.1 rp1)).and c) (fun v h1 hq => ?_) (fun i h1 hq => ?_)
  · obtain ⟨⟨hv, o1⟩, y1⟩ := hq
    obtain ⟨z, _, rfl⟩ := hv
    obtain ⟨_, _, f, hf⟩ := w.thr o1
    refine jcx.last hf rfl (fun e => ?_)
    iterate 2 refine mj_T.pl rfl rfl rfl rfl ?_
    exact mj_T.ret rfl rfl rfl (yZ.set y1)
  · obtain ⟨⟨hi, o1⟩, y1⟩ := hq
    simp only [List.mem_cons, List.not_mem_nil, or_false] at hi
    rcases hi with hi | hi
    · subst hi
      refine Or.inr ⟨3, 12, rfl, (Nat.le_of_ble_eq_true rfl), ?_⟩
      refine mj_T.pl rfl rfl rfl rfl ?_
      exact mj_T.ret rfl rfl rfl y1
    · subst hi
      refine Or.inr ⟨3, 15, rfl, (Nat.le_of_ble_eq_true rfl), ?_⟩
      refine mj_T.pl rfl rfl rfl rfl ?_
      exact mj_T.ret rfl rfl rfl y1
theorem jy_325 {p1 : Int} (w : jLw cK cL cR 571 n tm h) (rp1 : -2147483648 ≤ p1 ∧ p1 ≤ 2147483647) (c : mj_Ok 59 119 [.ref 1, .int (jn p1)] h (fun r => yZ Φ r.2)) : mj_Ok 60 325 [.ref 1, .int (jn p1), .ref 571] h (fun r => yZ Φ r.2) := by
  have hg : h.length ≤ n := Nat.le_of_eq w.1.1
  refine mj_Ok.of (M := mj_m325) (loc := [some (.ref 1), some (.int (jn p1)), some (.ref 571), none]) rfl rfl rfl ?_
  iterate 4 refine mj_T.pl rfl rfl rfl rfl ?_
  refine mj_T.call rfl rfl (Nat.le_of_ble_eq_true rfl) (Nat.le_of_ble_eq_true rfl) (jrv_of w.1 cK4.1 (by decide) rfl (by decide) rfl _) rfl ((mj_Ok.up (by decide) (mj_Ok.to (jc_119 (D := 0) cTY hg w.1 cK4.1 rp1) (fun _ k => jQp.toQ w.1 k))).and c) (fun v h1 hq => ?_) (fun i h1 hq => ?_)
  · obtain ⟨⟨hv, o1⟩, y1⟩ := hq
    obtain ⟨z, _, _, rfl⟩ := hv
    obtain ⟨_, _, f, hf⟩ := w.thr o1
    refine mj_T.step rfl rfl rfl ?_
    refine jcx.last hf rfl (fun e => ?_)
    iterate 2 refine mj_T.pl rfl rfl rfl rfl ?_
    exact mj_T.ret rfl rfl rfl (yZ.set y1)
  · obtain ⟨⟨hi, o1⟩, y1⟩ := hq
    simp only [List.mem_cons, List.not_mem_nil, or_false] at hi
    · subst hi
      refine Or.inr ⟨3, 13, rfl, (Nat.le_of_ble_eq_true rfl), ?_⟩
      refine mj_T.pl rfl rfl rfl rfl ?_
      exact mj_T.ret rfl rfl rfl y1
theorem jy_326 {p1 : Int} (w : jLw cK cL cR 571 n tm h) (rp1 : -2147483648 ≤ p1 ∧ p1 ≤ 2147483647) (c : mj_Ok 59 120 [.ref 1, .int (jn p1)] h (fun r => yZ Φ r.2)) : mj_Ok 60 326 [.ref 1, .int (jn p1), .ref 571] h (fun r => yZ Φ r.2) := by
  have hg : h.length ≤ n := Nat.le_of_eq w.1.1
  refine mj_Ok.of (M := mj_m326) (loc := [some (.ref 1), some (.int (jn p1)), some (.ref 571), none]) rfl rfl rfl ?_
  iterate 4 refine mj_T.pl rfl rfl rfl rfl ?_
  refine mj_T.call rfl rfl (Nat.le_of_ble_eq_true rfl) (Nat.le_of_ble_eq_true rfl) (jrv_of w.1 cK4.1 (by decide) rfl (by decide) rfl _) rfl ((mj_Ok.up (by decide) (mj_Ok.to (jc_120 (D := 0) cTY hg w.1 cK4.1 rp1) (fun _ k => jQp.toQ w.1 k))).and c) (fun v h1 hq => ?_) (fun i h1 hq => ?_)
  · obtain ⟨⟨hv, o1⟩, y1⟩ := hq
    obtain ⟨z, _, _, rfl⟩ := hv
    obtain ⟨_, _, f, hf⟩ := w.thr o1
    refine mj_T.step rfl rfl rfl ?_
    refine jcx.last hf rfl (fun e => ?_)
    iterate 2 refine mj_T.pl rfl rfl rfl rfl ?_
    exact mj_T.ret rfl rfl rfl (yZ.set y1)
  · obtain ⟨⟨hi, o1⟩, y1⟩ := hq
    simp only [List.mem_cons, List.not_mem_nil, or_false] at hi
    · subst hi
      refine Or.inr ⟨3, 13, rfl, (Nat.le_of_ble_eq_true rfl), ?_⟩
      refine mj_T.pl rfl rfl rfl rfl ?_
      exact mj_T.ret rfl rfl rfl y1
theorem jy_327 {p1 : Int} {p2 : Int} (w : jLw cK cL cR 571 n tm h) (rp1 : -2147483648 ≤ p1 ∧ p1 ≤ 2147483647) (rp2 : -2147483648 ≤ p2 ∧ p2 ≤ 2147483647) (c : mj_Ok 59 121 [.ref 1, .int (jn p1), .int (jn p2)] h (fun r => yZ Φ r.2)) : mj_Ok 60 327 [.ref 1, .int (jn p1), .int (jn p2), .ref 571] h (fun r => yZ Φ r.2) := by
  have hg : h.length ≤ n := Nat.le_of_eq w.1.1
  refine mj_Ok.of (M := mj_m327) (loc := [some (.ref 1), some (.int (jn p1)), some (.int (jn p2)), some (.ref 571), none]) rfl rfl rfl ?_
  iterate 5 refine mj_T.pl rfl rfl rfl rfl ?_
  refine mj_T.call rfl rfl (Nat.le_of_ble_eq_true rfl) (Nat.le_of_ble_eq_true rfl) (jrv_of w.1 cK4.1 (by decide) rfl (by decide) rfl _) rfl ((mj_Ok.up (by decide) (mj_Ok.to (jc_121 (D := 0) cTY hg w.1 cK4.1 rp1 rp2) (fun _ k => jQp.toQ w.1 k))).and c) (fun v h1 hq => ?_) (fun i h1 hq => ?_)
  · obtain ⟨⟨hv, o1⟩, y1⟩ := hq
    obtain ⟨z, _, _, rfl⟩ := hv
    obtain ⟨_, _, f, hf⟩ := w.thr o1
    refine mj_T.step rfl rfl rfl ?_
    refine jcx.last hf rfl (fun e => ?_)
    iterate 2 refine mj_T.pl rfl rfl rfl rfl ?_
    exact mj_T.ret rfl rfl rfl (yZ.set y1)
  · obtain ⟨⟨hi, o1⟩, y1⟩ := hq
    simp only [List.mem_cons, List.not_mem_nil, or_false] at hi
    · subst hi
      refine Or.inr ⟨4, 15, rfl, (Nat.le_of_ble_eq_true rfl), ?_⟩
      refine mj_T.pl rfl rfl rfl rfl ?_
      exact mj_T.ret rfl rfl rfl y1
theorem jy_328 {p1 : Int} {p2 : Int} (w : jLw cK cL cR 571 n tm h) (rp1 : -2147483648 ≤ p1 ∧ p1 ≤ 2147483647) (rp2 : -2147483648 ≤ p2 ∧ p2 ≤ 2147483647) (c : mj_Ok 59 122 [.ref 1, .int (jn p1), .int (jn p2)] h (fun r => yZ Φ r.2)) : mj_Ok 60 328 [.ref 1, .int (jn p1), .int (jn p2), .ref 571] h (fun r => yZ Φ r.2) := by
  have hg : h.length ≤ n := Nat.le_of_eq w.1.1
  refine mj_Ok.of (M := mj_m328) (loc := [some (.ref 1), some (.int (jn p1)), some (.int (jn p2)), some (.ref 571), none]) rfl rfl rfl ?_
  iterate 5 refine mj_T.pl rfl rfl rfl rfl ?_
  refine mj_T.call rfl rfl (Nat.le_of_ble_eq_true rfl) (Nat.le_of_ble_eq_true rfl) (jrv_of w.1 cK4.1 (by decide) rfl (by decide) rfl _) rfl ((mj_Ok.up (by decide) (jc_122 (D := 0) cTY hg w.1 cK4.1 rp1 rp2)).and c) (fun v h1 hq => ?_) (fun i h1 hq => ?_)
  · obtain ⟨⟨hv, o1⟩, y1⟩ := hq
    obtain ⟨z, _, _, rfl⟩ := hv
    obtain ⟨_, _, f, hf⟩ := w.thr o1
    refine mj_T.step rfl rfl rfl ?_
    refine jcx.last hf rfl (fun e => ?_)
    iterate 2 refine mj_T.pl rfl rfl rfl rfl ?_
    exact mj_T.ret rfl rfl rfl (yZ.set y1)
  · obtain ⟨⟨hi, o1⟩, y1⟩ := hq
    simp only [List.mem_cons, List.not_mem_nil, or_false] at hi
    rcases hi with hi | hi
    · subst hi
      refine Or.inr ⟨4, 15, rfl, (Nat.le_of_ble_eq_true rfl), ?_⟩
      refine mj_T.pl rfl rfl rfl rfl ?_
      exact mj_T.ret rfl rfl rfl y1
    · subst hi
      refine Or.inr ⟨4, 19, rfl, (Nat.le_of_ble_eq_true rfl), ?_⟩
      refine mj_T.pl rfl rfl rfl rfl ?_
      exact mj_T.ret rfl rfl rfl y1
theorem jy_329 {p1 : Int} (w : jLw cK cL cR 571 n tm h) (rp1 : -2147483648 ≤ p1 ∧ p1 ≤ 2147483647) (c : mj_Ok 59 123 [.ref 1, .int (jn p1)] h (fun r => yZ Φ r.2)) : mj_Ok 60 329 [.ref 1, .int (jn p1), .ref 571] h (fun r => yZ Φ r.2) := by
  have hg : h.length ≤ n := Nat.le_of_eq w.1.1
  refine mj_Ok.of (M := mj_m329) (loc := [some (.ref 1), some (.int (jn p1)), some (.ref 571), none]) rfl rfl rfl ?_
  iterate 4 refine mj_T.pl rfl rfl rfl rfl ?_
  refine mj_T.call rfl rfl (Nat.le_of_ble_eq_true rfl) (Nat.le_of_ble_eq_true rfl) (jrv_of w.1 cK4.1 (by decide) rfl (by decide) rfl _) rfl ((mj_Ok.up (by decide) (jc_123 (D := 0) cTY hg w.1 cK4.1 rp1)).and c) (fun v h1 hq => ?_) (fun i h1 hq => ?_)
  · obtain ⟨⟨hv, o1⟩, y1⟩ := hq
    obtain ⟨z, _, _, rfl⟩ := hv
    obtain ⟨_, _, f, hf⟩ := w.thr o1
    refine mj_T.step rfl rfl rfl ?_
    refine jcx.last hf rfl (fun e => ?_)
    iterate 2 refine mj_T.pl rfl rfl rfl rfl ?_
    exact mj_T.ret rfl rfl rfl (yZ.set y1)
  · obtain ⟨⟨hi, o1⟩, y1⟩ := hq
    simp only [List.mem_cons, List.not_mem_nil, or_false] at hi
    · subst hi
      refine Or.inr ⟨3, 13, rfl, (Nat.le_of_ble_eq_true rfl), ?_⟩
      refine mj_T.pl rfl rfl rfl rfl ?_
      exact mj_T.ret rfl rfl rfl y1
theorem jy_330 {p1 : Int} {p2 : Int} {p3 : Int} (w : jLw cK cL cR 571 n tm h) (rp1 : -2147483648 ≤ p1 ∧ p1 ≤ 2147483647) (rp2 : -2147483648 ≤ p2 ∧ p2 ≤ 2147483647) (rp3 : -2147483648 ≤ p3 ∧ p3 ≤ 2147483647) (c : mj_Ok 59 124 [.ref 1, .int (jn p1), .int (jn p2), .int (jn p3)] h (fun r => yZ Φ r.2)) : mj_Ok 60 330 [.ref 1, .int (jn p1), .int (jn p2), .int (jn p3), .ref 571] h (fun r => yZ Φ r.2) := by
  have hg : h.length ≤ n := Nat.le_of_eq w.1.1
  refine mj_Ok.of (M := mj_m330) (loc := [some (.ref 1), some (.int (jn p1)), some (.int (jn p2)), some (.int (jn p3)), some (.ref 571), none]) rfl rfl rfl ?_
  iterate 6 refine mj_T.pl rfl rfl rfl rfl ?_
  refine mj_T.call rfl rfl (Nat.le_of_ble_eq_true rfl) (Nat.le_of_ble_eq_true rfl) (jrv_of w.1 cK4.1 (by decide) rfl (by decide) rfl _) rfl ((mj_Ok.up (by decide) (jc_124 (D := 0) cTY hg w.1 cK4.1 rp1 rp2 rp3)).and c) (fun v h1 hq => ?_) (fun i h1 hq => ?_)
  · obtain ⟨⟨hv, o1⟩, y1⟩ := hq
    obtain ⟨z, _, _, rfl⟩ := hv
    obtain ⟨_, _, f, hf⟩ := w.thr o1
    refine mj_T.step rfl rfl rfl ?_
    refine jcx.last hf rfl (fun e => ?_)
    iterate 2 refine mj_T.pl rfl rfl rfl rfl ?_
    exact mj_T.ret rfl rfl rfl (yZ.set y1)
  · obtain ⟨⟨hi, o1⟩, y1⟩ := hq
    simp only [List.mem_cons, List.not_mem_nil, or_false] at hi
    rcases hi with hi | hi
    · subst hi
      refine Or.inr ⟨5, 17, rfl, (Nat.le_of_ble_eq_true rfl), ?_⟩
      refine mj_T.pl rfl rfl rfl rfl ?_
      exact mj_T.ret rfl rfl rfl y1
    · subst hi
      refine Or.inr ⟨5, 21, rfl, (Nat.le_of_ble_eq_true rfl), ?_⟩
      refine mj_T.pl rfl rfl rfl rfl ?_
      exact mj_T.ret rfl rfl rfl y1
theorem jy_331 {p1 : Int} {p2 : Int} (w : jLw cK cL cR 571 n tm h) (rp1 : -2147483648 ≤ p1 ∧ p1 ≤ 2147483647) (rp2 : -2147483648 ≤ p2 ∧ p2 ≤ 2147483647) (c : mj_Ok 59 125 [.ref 1, .int (jn p1), .int (jn p2)] h (fun r => yZ Φ r.2)) : mj_Ok 60 331 [.ref 1, .int (jn p1), .int (jn p2), .ref 571] h (fun r => yZ Φ r.2) := by
  have hg : h.length ≤ n := Nat.le_of_eq w.1.1
  refine mj_Ok.of (M := mj_m331) (loc := [some (.ref 1), some (.int (jn p1)), some (.int (jn p2)), some (.ref 571), none]) rfl rfl rfl ?_
  iterate 5 refine mj_T.pl rfl rfl rfl rfl ?_
  refine mj_T.call rfl rfl (Nat.le_of_ble_eq_true rfl) (Nat.le_of_ble_eq_true rfl) (jrv_of w.1 cK4.1 (by decide) rfl (by decide) rfl _) rfl ((mj_Ok.up (by decide) (jc_125 (D := 0) cTY hg w.1 cK4.1 rp1 rp2)).and c) (fun v h1 hq => ?_) (fun i h1 hq => ?_)
  · obtain ⟨⟨hv, o1⟩, y1⟩ := hq
    obtain ⟨z, _, _, rfl⟩ := hv
    obtain ⟨_, _, f, hf⟩ := w.thr o1
    refine mj_T.eq (pc2 := 8) (st2 := [.int (jn z), .int (jn 0), .ref 571]) ?_ rfl rfl rfl rfl
    refine jT.if0 rfl ⟨by omega, by omega⟩ (fun _ => ?_) (fun _ => ?_)
    · refine mj_T.pl rfl rfl rfl rfl ?_
      refine jcx.last hf rfl (fun e => ?_)
      iterate 2 refine mj_T.pl rfl rfl rfl rfl ?_
      exact mj_T.ret rfl rfl rfl (yZ.set y1)
    · iterate 2 refine mj_T.pl rfl rfl rfl rfl ?_
      refine jcx.last hf rfl (fun e => ?_)
      iterate 2 refine mj_T.pl rfl rfl rfl rfl ?_
      exact mj_T.ret rfl rfl rfl (yZ.set y1)
  · obtain ⟨⟨hi, o1⟩, y1⟩ := hq
    simp only [List.mem_cons, List.not_mem_nil, or_false] at hi
    · subst hi
      refine Or.inr ⟨4, 22, rfl, (Nat.le_of_ble_eq_true rfl), ?_⟩
      refine mj_T.pl rfl rfl rfl rfl ?_
      exact mj_T.ret rfl rfl rfl y1
theorem jy_332 {p1 : Int} {p2 : Int} (w : jLw cK cL cR 571 n tm h) (rp1 : -2147483648 ≤ p1 ∧ p1 ≤ 2147483647) (rp2 : -2147483648 ≤ p2 ∧ p2 ≤ 2147483647) (c : mj_Ok 59 126 [.ref 1, .int (jn p1), .int (jn p2)] h (fun r => yZ Φ r.2)) : mj_Ok 60 332 [.ref 1, .int (jn p1), .int (jn p2), .ref 571] h (fun r => yZ Φ r.2) := by
  have hg : h.length ≤ n := Nat.le_of_eq w.1.1
  refine mj_Ok.of (M := mj_m332) (loc := [some (.ref 1), some (.int (jn p1)), some (.int (jn p2)), some (.ref 571), none]) rfl rfl rfl ?_
  iterate 5 refine mj_T.pl rfl rfl rfl rfl ?_
  refine mj_T.call rfl rfl (Nat.le_of_ble_eq_true rfl) (Nat.le_of_ble_eq_true rfl) (jrv_of w.1 cK4.1 (by decide) rfl (by decide) rfl _) rfl ((mj_Ok.up (by decide) (mj_Ok.to (jc_126 (D := 0) cTY hg w.1 cK4.1 rp1 rp2) (fun _ k => jQp.toQ w.1 k))).and c) (fun v h1 hq => ?_) (fun i h1 hq => ?_)
  · obtain ⟨⟨hv, o1⟩, y1⟩ := hq
    obtain ⟨z, _, _, rfl⟩ := hv
    obtain ⟨_, _, f, hf⟩ := w.thr o1
    refine mj_T.eq (pc2 := 8) (st2 := [.int (jn z), .int (jn 0), .ref 571]) ?_ rfl rfl rfl rfl
    refine jT.if0 rfl ⟨by omega, by omega⟩ (fun _ => ?_) (fun _ => ?_)
    · refine mj_T.pl rfl rfl rfl rfl ?_
      refine jcx.last hf rfl (fun e => ?_)
      iterate 2 refine mj_T.pl rfl rfl rfl rfl ?_
      exact mj_T.ret rfl rfl rfl (yZ.set y1)
    · iterate 2 refine mj_T.pl rfl rfl rfl rfl ?_
      refine jcx.last hf rfl (fun e => ?_)
      iterate 2 refine mj_T.pl rfl rfl rfl rfl ?_
      exact mj_T.ret rfl rfl rfl (yZ.set y1)
  · obtain ⟨⟨hi, o1⟩, y1⟩ := hq
    simp only [List.mem_cons, List.not_mem_nil, or_false] at hi
    · subst hi
      refine Or.inr ⟨4, 22, rfl, (Nat.le_of_ble_eq_true rfl), ?_⟩
      refine mj_T.pl rfl rfl rfl rfl ?_
      exact mj_T.ret rfl rfl rfl y1
theorem jy_333 {p1 : Int} {p2 : Int} (w : jLw cK cL cR 571 n tm h) (rp1 : -2147483648 ≤ p1 ∧ p1 ≤ 2147483647) (rp2 : -2147483648 ≤ p2 ∧ p2 ≤ 2147483647) (c : mj_Ok 59 127 [.ref 1, .int (jn p1), .int (jn p2)] h (fun r => yZ Φ r.2)) : mj_Ok 60 333 [.ref 1, .int (jn p1), .int (jn p2), .ref 571] h (fun r => yZ Φ r.2) := by
  have hg : h.length ≤ n := Nat.le_of_eq w.1.1
  refine mj_Ok.of (M := mj_m333) (loc := [some (.ref 1), some (.int (jn p1)), some (.int (jn p2)), some (.ref 571), none]) rfl rfl rfl ?_
  iterate 5 refine mj_T.pl rfl rfl rfl rfl ?_
  refine mj_T.call rfl rfl (Nat.le_of_ble_eq_true rfl) (Nat.le_of_ble_eq_true rfl) (jrv_of w.1 cK4.1 (by decide) rfl (by decide) rfl _) rfl ((mj_Ok.up (by decide) (jc_127 (D := 0) cTY hg w.1 cK4.1 rp1 rp2)).and c) (fun v h1 hq => ?_) (fun i h1 hq => ?_)
  · obtain ⟨⟨hv, o1⟩, y1⟩ := hq
    obtain ⟨z, _, _, rfl⟩ := hv
    obtain ⟨_, _, f, hf⟩ := w.thr o1
    refine mj_T.step rfl rfl rfl ?_
    refine jcx.last hf rfl (fun e => ?_)
    iterate 2 refine mj_T.pl rfl rfl rfl rfl ?_
    exact mj_T.ret rfl rfl rfl (yZ.set y1)
  · obtain ⟨⟨hi, o1⟩, y1⟩ := hq
    simp only [List.mem_cons, List.not_mem_nil, or_false] at hi
    · subst hi
      refine Or.inr ⟨4, 15, rfl, (Nat.le_of_ble_eq_true rfl), ?_⟩
      refine mj_T.pl rfl rfl rfl rfl ?_
      exact mj_T.ret rfl rfl rfl y1
theorem jy_334 {p1 : Int} {p2 : Int} (w : jLw cK cL cR 571 n tm h) (ap1 : 0 ≤ p1 ∧ p1 ≤ 1) (rp2 : -2147483648 ≤ p2 ∧ p2 ≤ 2147483647) (c : mj_Ok 59 129 [.ref 1, .int (jn p1), .int (jn p2)] h (fun r => yZ Φ r.2)) : mj_Ok 60 334 [.ref 1, .int (jn p1), .int (jn p2), .ref 571] h (fun r => yZ Φ r.2) := by
  have hg : h.length ≤ n := Nat.le_of_eq w.1.1
  refine mj_Ok.of (M := mj_m334) (loc := [some (.ref 1), some (.int (jn p1)), some (.int (jn p2)), some (.ref 571), none]) rfl rfl rfl ?_
  iterate 5 refine mj_T.pl rfl rfl rfl rfl ?_
  refine mj_T.call rfl rfl (Nat.le_of_ble_eq_true rfl) (Nat.le_of_ble_eq_true rfl) (jrv_of w.1 cK4.1 (by decide) rfl (by decide) rfl _) rfl ((mj_Ok.up (by decide) (mj_Ok.to (jc_129 (D := 0) cTY hg w.1 cK4.1 ap1 rp2) (fun _ k => jQp.toQ w.1 k))).and c) (fun v h1 hq => ?_) (fun i h1 hq => ?_)
  · obtain ⟨⟨hv, o1⟩, y1⟩ := hq
    obtain ⟨z, _, _, rfl⟩ := hv
    obtain ⟨_, _, f, hf⟩ := w.thr o1
    refine mj_T.step rfl rfl rfl ?_
    refine jcx.last hf rfl (fun e => ?_)
    iterate 2 refine mj_T.pl rfl rfl rfl rfl ?_
    exact mj_T.ret rfl rfl rfl (yZ.set y1)
  · obtain ⟨⟨hi, o1⟩, y1⟩ := hq
    simp only [List.mem_cons, List.not_mem_nil, or_false] at hi
    · subst hi
      refine Or.inr ⟨4, 15, rfl, (Nat.le_of_ble_eq_true rfl), ?_⟩
      refine mj_T.pl rfl rfl rfl rfl ?_
      exact mj_T.ret rfl rfl rfl y1
theorem jy_335 {p1 : Int} (w : jLw cK cL cR 571 n tm h) (rp1 : -2147483648 ≤ p1 ∧ p1 ≤ 2147483647) (c : mj_Ok 59 131 [.ref 1, .int (jn p1)] h (fun r => yZ Φ r.2)) : mj_Ok 60 335 [.ref 1, .int (jn p1), .ref 571] h (fun r => yZ Φ r.2) := by
  have hg : h.length ≤ n := Nat.le_of_eq w.1.1
  refine mj_Ok.of (M := mj_m335) (loc := [some (.ref 1), some (.int (jn p1)), some (.ref 571), none]) rfl rfl rfl ?_
  iterate 4 refine mj_T.pl rfl rfl rfl rfl ?_
  refine mj_T.call rfl rfl (Nat.le_of_ble_eq_true rfl) (Nat.le_of_ble_eq_true rfl) (jrv_of w.1 cK4.1 (by decide) rfl (by decide) rfl _) rfl ((mj_Ok.up (by decide) (jc_131 (D := 0) cTY hg w.1 cK4.1 rp1)).and c) (fun v h1 hq => ?_) (fun i h1 hq => ?_)
  · obtain ⟨⟨hv, o1⟩, y1⟩ := hq
    obtain ⟨z, _, _, rfl⟩ := hv
    obtain ⟨_, _, f, hf⟩ := w.thr o1
    refine mj_T.step rfl rfl rfl ?_
    refine jcx.last hf rfl (fun e => ?_)
    iterate 2 refine mj_T.pl rfl rfl rfl rfl ?_
    exact mj_T.ret rfl rfl rfl (yZ.set y1)
  · obtain ⟨⟨hi, o1⟩, y1⟩ := hq
    simp only [List.mem_cons, List.not_mem_nil, or_false] at hi
    rcases hi with hi | hi
    · subst hi
      refine Or.inr ⟨3, 13, rfl, (Nat.le_of_ble_eq_true rfl), ?_⟩
      refine mj_T.pl rfl rfl rfl rfl ?_
      exact mj_T.ret rfl rfl rfl y1
    · subst hi
      refine Or.inr ⟨3, 16, rfl, (Nat.le_of_ble_eq_true rfl), ?_⟩
      refine mj_T.pl rfl rfl rfl rfl ?_
      exact mj_T.ret rfl rfl rfl y1
theorem jy_336 {p1 : Int} {p2 : Int} {p3 : Int} {p4 : Int} {p5 : Int} (w : jLw cK cL cR 571 n tm h) (rp1 : -2147483648 ≤ p1 ∧ p1 ≤ 2147483647) (rp2 : -2147483648 ≤ p2 ∧ p2 ≤ 2147483647) (rp3 : -2147483648 ≤ p3 ∧ p3 ≤ 2147483647) (rp4 : -2147483648 ≤ p4 ∧ p4 ≤ 2147483647) (rp5 : -2147483648 ≤ p5 ∧ p5 ≤ 2147483647) (c : mj_Ok 59 132 [.ref 1, .int (jn p1), .int (jn p2), .int (jn p3), .int (jn p4), .int (jn p5)] h (fun r => yZ Φ r.2)) : mj_Ok 60 336 [.ref 1, .int (jn p1), .int (jn p2), .int (jn p3), .int (jn p4), .int (jn p5), .ref 571] h (fun r => yZ Φ r.2) := by
  have hg : h.length ≤ n := Nat.le_of_eq w.1.1
  refine mj_Ok.of (M := mj_m336) (loc := [some (.ref 1), some (.int (jn p1)), some (.int (jn p2)), some (.int (jn p3)), some (.int (jn p4)), some (.int (jn p5)), some (.ref 571), none]) rfl rfl rfl ?_
  iterate 8 refine mj_T.pl rfl rfl rfl rfl ?_
  refine mj_T.call rfl rfl (Nat.le_of_ble_eq_true rfl) (Nat.le_of_ble_eq_true rfl) (jrv_of w.1 cK4.1 (by decide) rfl (by decide) rfl _) rfl ((mj_Ok.up (by decide) (jc_132 (D := 0) cTY hg w.1 cK4.1 rp1 rp2 rp3 rp4 rp5)).and c) (fun v h1 hq => ?_) (fun i h1 hq => ?_)
  · obtain ⟨⟨hv, o1⟩, y1⟩ := hq
    obtain ⟨z, _, _, rfl⟩ := hv
    obtain ⟨_, _, f, hf⟩ := w.thr o1
    refine mj_T.step rfl rfl rfl ?_
    refine jcx.last hf rfl (fun e => ?_)
    iterate 2 refine mj_T.pl rfl rfl rfl rfl ?_
    exact mj_T.ret rfl rfl rfl (yZ.set y1)
  · obtain ⟨⟨hi, o1⟩, y1⟩ := hq
    simp only [List.mem_cons, List.not_mem_nil, or_false] at hi
    rcases hi with hi | hi | hi | hi
    · subst hi
      refine Or.inr ⟨7, 21, rfl, (Nat.le_of_ble_eq_true rfl), ?_⟩
      refine mj_T.pl rfl rfl rfl rfl ?_
      exact mj_T.ret rfl rfl rfl y1
    · subst hi
      refine Or.inr ⟨7, 25, rfl, (Nat.le_of_ble_eq_true rfl), ?_⟩
      refine mj_T.pl rfl rfl rfl rfl ?_
      exact mj_T.ret rfl rfl rfl y1
    · subst hi
      refine Or.inr ⟨7, 29, rfl, (Nat.le_of_ble_eq_true rfl), ?_⟩
      refine mj_T.pl rfl rfl rfl rfl ?_
      exact mj_T.ret rfl rfl rfl y1
    · subst hi
      refine Or.inr ⟨7, 33, rfl, (Nat.le_of_ble_eq_true rfl), ?_⟩
      refine mj_T.pl rfl rfl rfl rfl ?_
      exact mj_T.ret rfl rfl rfl y1
theorem jy_337 {p1 : Int} (w : jLw cK cL cR 571 n tm h) (rp1 : -2147483648 ≤ p1 ∧ p1 ≤ 2147483647) (c : mj_Ok 59 133 [.ref 1, .int (jn p1)] h (fun r => yZ Φ r.2)) : mj_Ok 60 337 [.ref 1, .int (jn p1), .ref 571] h (fun r => yZ Φ r.2) := by
  have hg : h.length ≤ n := Nat.le_of_eq w.1.1
  refine mj_Ok.of (M := mj_m337) (loc := [some (.ref 1), some (.int (jn p1)), some (.ref 571), none]) rfl rfl rfl ?_
  iterate 4 refine mj_T.pl rfl rfl rfl rfl ?_
  refine mj_T.call rfl rfl (Nat.le_of_ble_eq_true rfl) (Nat.le_of_ble_eq_true rfl) (jrv_of w.1 cK4.1 (by decide) rfl (by decide) rfl _) rfl ((mj_Ok.up (by decide) (jc_133 (D := 0) cTY hg w.1 cK4.1 rp1)).and c) (fun v h1 hq => ?_) (fun i h1 hq => ?_)
  · obtain ⟨⟨hv, o1⟩, y1⟩ := hq
    obtain ⟨z, _, _, rfl⟩ := hv
    obtain ⟨_, _, f, hf⟩ := w.thr o1
    refine mj_T.step rfl rfl rfl ?_
    refine jcx.last hf rfl (fun e => ?_)
    iterate 2 refine mj_T.pl rfl rfl rfl rfl ?_
    exact mj_T.ret rfl rfl rfl (yZ.set y1)
  · obtain ⟨⟨hi, o1⟩, y1⟩ := hq
    simp only [List.mem_cons, List.not_mem_nil, or_false] at hi
    rcases hi with hi | hi
    · subst hi
      refine Or.inr ⟨3, 13, rfl, (Nat.le_of_ble_eq_true rfl), ?_⟩
      refine mj_T.pl rfl rfl rfl rfl ?_
      exact mj_T.ret rfl rfl rfl y1
    · subst hi
      refine Or.inr ⟨3, 16, rfl, (Nat.le_of_ble_eq_true rfl), ?_⟩
      refine mj_T.pl rfl rfl rfl rfl ?_
      exact mj_T.ret rfl rfl rfl y1
theorem jy_338 {p1 : Int} {p2 : Int} {p3 : Int} (w : jLw cK cL cR 571 n tm h) (rp1 : -2147483648 ≤ p1 ∧ p1 ≤ 2147483647) (rp2 : -2147483648 ≤ p2 ∧ p2 ≤ 2147483647) (rp3 : -2147483648 ≤ p3 ∧ p3 ≤ 2147483647) (c : mj_Ok 59 134 [.ref 1, .int (jn p1), .int (jn p2), .int (jn p3)] h (fun r => yZ Φ r.2)) : mj_Ok 60 338 [.ref 1, .int (jn p1), .int (jn p2), .int (jn p3), .ref 571] h (fun r => yZ Φ r.2) := by
  have hg : h.length ≤ n := Nat.le_of_eq w.1.1
  refine mj_Ok.of (M := mj_m338) (loc := [some (.ref 1), some (.int (jn p1)), some (.int (jn p2)), some (.int (jn p3)), some (.ref 571), none]) rfl rfl rfl ?_
  iterate 6 refine mj_T.pl rfl rfl rfl rfl ?_
  refine mj_T.call rfl rfl (Nat.le_of_ble_eq_true rfl) (Nat.le_of_ble_eq_true rfl) (jrv_of w.1 cK4.1 (by decide) rfl (by decide) rfl _) rfl ((mj_Ok.up (by decide) (jc_134 (D := 0) cTY hg w.1 cK4.1 rp1 rp2 rp3)).and c) (fun v h1 hq => ?_) (fun i h1 hq => ?_)
  · obtain ⟨⟨hv, o1⟩, y1⟩ := hq
    obtain ⟨z, _, _, rfl⟩ := hv
    obtain ⟨_, _, f, hf⟩ := w.thr o1
    refine mj_T.step rfl rfl rfl ?_
    refine jcx.last hf rfl (fun e => ?_)
    iterate 2 refine mj_T.pl rfl rfl rfl rfl ?_
    exact mj_T.ret rfl rfl rfl (yZ.set y1)
  · obtain ⟨⟨hi, o1⟩, y1⟩ := hq
    simp only [List.mem_cons, List.not_mem_nil, or_false] at hi
    rcases hi with hi | hi | hi
    · subst hi
      refine Or.inr ⟨5, 17, rfl, (Nat.le_of_ble_eq_true rfl), ?_⟩
      refine mj_T.pl rfl rfl rfl rfl ?_
      exact mj_T.ret rfl rfl rfl y1
    · subst hi
      refine Or.inr ⟨5, 21, rfl, (Nat.le_of_ble_eq_true rfl), ?_⟩
      refine mj_T.pl rfl rfl rfl rfl ?_
      exact mj_T.ret rfl rfl rfl y1
    · subst hi
      refine Or.inr ⟨5, 25, rfl, (Nat.le_of_ble_eq_true rfl), ?_⟩
      refine mj_T.pl rfl rfl rfl rfl ?_
      exact mj_T.ret rfl rfl rfl y1
theorem jy_339 {p1 : Int} {p2 : Int} {p3 : Int} (w : jLw cK cL cR 571 n tm h) (rp1 : -2147483648 ≤ p1 ∧ p1 ≤ 2147483647) (rp2 : -2147483648 ≤ p2 ∧ p2 ≤ 2147483647) (rp3 : -2147483648 ≤ p3 ∧ p3 ≤ 2147483647) (c : mj_Ok 59 135 [.ref 1, .int (jn p1), .int (jn p2), .int (jn p3)] h (fun r => yZ Φ r.2)) : mj_Ok 60 339 [.ref 1, .int (jn p1), .int (jn p2), .int (jn p3), .ref 571] h (fun r => yZ Φ r.2) := by
  have hg : h.length ≤ n := Nat.le_of_eq w.1.1
  refine mj_Ok.of (M := mj_m339) (loc := [some (.ref 1), some (.int (jn p1)), some (.int (jn p2)), some (.int (jn p3)), some (.ref 571), none]) rfl rfl rfl ?_
  iterate 6 refine mj_T.pl rfl rfl rfl rfl ?_
  refine mj_T.call rfl rfl (Nat.le_of_ble_eq_true rfl) (Nat.le_of_ble_eq_true rfl) (jrv_of w.1 cK4.1 (by decide) rfl (by decide) rfl _) rfl ((mj_Ok.up (by decide) (jc_135 (D := 0) cTY hg w.1 cK4.1 rp1 rp2 rp3)).and c) (fun v h1 hq => ?_) (fun i h1 hq => ?_)
  · obtain ⟨⟨hv, o1⟩, y1⟩ := hq
    obtain ⟨z, _, _, rfl⟩ := hv
    obtain ⟨_, _, f, hf⟩ := w.thr o1
    refine mj_T.step rfl rfl rfl ?_
    refine jcx.last hf rfl (fun e => ?_)
    iterate 2 refine mj_T.pl rfl rfl rfl rfl ?_
    exact mj_T.ret rfl rfl rfl (yZ.set y1)
  · obtain ⟨⟨hi, o1⟩, y1⟩ := hq
    simp only [List.mem_cons, List.not_mem_nil, or_false] at hi
    rcases hi with hi | hi
    · subst hi
      refine Or.inr ⟨5, 17, rfl, (Nat.le_of_ble_eq_true rfl), ?_⟩
      refine mj_T.pl rfl rfl rfl rfl ?_
      exact mj_T.ret rfl rfl rfl y1
    · subst hi
      refine Or.inr ⟨5, 21, rfl, (Nat.le_of_ble_eq_true rfl), ?_⟩
      refine mj_T.pl rfl rfl rfl rfl ?_
      exact mj_T.ret rfl rfl rfl y1
theorem jy_340 {p1 : Int} (w : jLw cK cL cR 571 n tm h) (rp1 : -2147483648 ≤ p1 ∧ p1 ≤ 2147483647) (c : mj_Ok 59 136 [.ref 1, .int (jn p1)] h (fun r => yZ Φ r.2)) : mj_Ok 60 340 [.ref 1, .int (jn p1), .ref 571] h (fun r => yZ Φ r.2) := by
  have hg : h.length ≤ n := Nat.le_of_eq w.1.1
  refine mj_Ok.of (M := mj_m340) (loc := [some (.ref 1), some (.int (jn p1)), some (.ref 571), none]) rfl rfl rfl ?_
  iterate 4 refine mj_T.pl rfl rfl rfl rfl ?_
  refine mj_T.call rfl rfl (Nat.le_of_ble_eq_true rfl) (Nat.le_of_ble_eq_true rfl) (jrv_of w.1 cK4.1 (by decide) rfl (by decide) rfl _) rfl ((mj_Ok.up (by decide) (jc_136 (D := 0) cTY hg w.1 cK4.1 rp1)).and c) (fun v h1 hq => ?_) (fun i h1 hq => ?_)
  · obtain ⟨⟨hv, o1⟩, y1⟩ := hq
    obtain ⟨z, _, _, rfl⟩ := hv
    obtain ⟨_, _, f, hf⟩ := w.thr o1
    refine mj_T.step rfl rfl rfl ?_
    refine jcx.last hf rfl (fun e => ?_)
    iterate 2 refine mj_T.pl rfl rfl rfl rfl ?_
    exact mj_T.ret rfl rfl rfl (yZ.set y1)
  · obtain ⟨⟨hi, o1⟩, y1⟩ := hq
    simp only [List.mem_cons, List.not_mem_nil, or_false] at hi
    rcases hi with hi | hi
    · subst hi
      refine Or.inr ⟨3, 13, rfl, (Nat.le_of_ble_eq_true rfl), ?_⟩
      refine mj_T.pl rfl rfl rfl rfl ?_
      exact mj_T.ret rfl rfl rfl y1
    · subst hi
      refine Or.inr ⟨3, 16, rfl, (Nat.le_of_ble_eq_true rfl), ?_⟩
      refine mj_T.pl rfl rfl rfl rfl ?_
      exact mj_T.ret rfl rfl rfl y1
theorem jy_341 {p1 : Int} {p2 : Int} (w : jLw cK cL cR 571 n tm h) (rp1 : -2147483648 ≤ p1 ∧ p1 ≤ 2147483647) (rp2 : -2147483648 ≤ p2 ∧ p2 ≤ 2147483647) (c : mj_Ok 59 137 [.ref 1, .int (jn p1), .int (jn p2)] h (fun r => yZ Φ r.2)) : mj_Ok 60 341 [.ref 1, .int (jn p1), .int (jn p2), .ref 571] h (fun r => yZ Φ r.2) := by
  have hg : h.length ≤ n := Nat.le_of_eq w.1.1
  refine mj_Ok.of (M := mj_m341) (loc := [some (.ref 1), some (.int (jn p1)), some (.int (jn p2)), some (.ref 571), none]) rfl rfl rfl ?_
  iterate 5 refine mj_T.pl rfl rfl rfl rfl ?_
  refine mj_T.call rfl rfl (Nat.le_of_ble_eq_true rfl) (Nat.le_of_ble_eq_true rfl) (jrv_of w.1 cK4.1 (by decide) rfl (by decide) rfl _) rfl ((mj_Ok.up (by decide) (jc_137 (D := 0) cTY hg w.1 cK4.1 rp1 rp2)).and c) (fun v h1 hq => ?_) (fun i h1 hq => ?_)
  · obtain ⟨⟨hv, o1⟩, y1⟩ := hq
    obtain ⟨z, _, _, rfl⟩ := hv
    obtain ⟨_, _, f, hf⟩ := w.thr o1
    refine mj_T.step rfl rfl rfl ?_
    refine jcx.last hf rfl (fun e => ?_)
    iterate 2 refine mj_T.pl rfl rfl rfl rfl ?_
    exact mj_T.ret rfl rfl rfl (yZ.set y1)
  · obtain ⟨⟨hi, o1⟩, y1⟩ := hq
    simp only [List.mem_cons, List.not_mem_nil, or_false] at hi
    · subst hi
      refine Or.inr ⟨4, 15, rfl, (Nat.le_of_ble_eq_true rfl), ?_⟩
      refine mj_T.pl rfl rfl rfl rfl ?_
      exact mj_T.ret rfl rfl rfl y1
theorem jy_342 {p1 : Int} {p2 : Int} (w : jLw cK cL cR 571 n tm h) (rp1 : -2147483648 ≤ p1 ∧ p1 ≤ 2147483647) (rp2 : -2147483648 ≤ p2 ∧ p2 ≤ 2147483647) (c : mj_Ok 59 138 [.ref 1, .int (jn p1), .int (jn p2)] h (fun r => yZ Φ r.2)) : mj_Ok 60 342 [.ref 1, .int (jn p1), .int (jn p2), .ref 571] h (fun r => yZ Φ r.2) := by
  have hg : h.length ≤ n := Nat.le_of_eq w.1.1
  refine mj_Ok.of (M := mj_m342) (loc := [some (.ref 1), some (.int (jn p1)), some (.int (jn p2)), some (.ref 571), none]) rfl rfl rfl ?_
  iterate 5 refine mj_T.pl rfl rfl rfl rfl ?_
  refine mj_T.call rfl rfl (Nat.le_of_ble_eq_true rfl) (Nat.le_of_ble_eq_true rfl) (jrv_of w.1 cK4.1 (by decide) rfl (by decide) rfl _) rfl ((mj_Ok.up (by decide) (mj_Ok.to (jc_138 (D := 0) cTY hg w.1 cK4.1 rp1 rp2) (fun _ k => jQp.toQ w.1 k))).and c) (fun v h1 hq => ?_) (fun i h1 hq => ?_)
  · obtain ⟨⟨hv, o1⟩, y1⟩ := hq
    obtain ⟨z, _, _, rfl⟩ := hv
    obtain ⟨_, _, f, hf⟩ := w.thr o1
    refine mj_T.step rfl rfl rfl ?_
    refine jcx.last hf rfl (fun e => ?_)
    iterate 2 refine mj_T.pl rfl rfl rfl rfl ?_
    exact mj_T.ret rfl rfl rfl (yZ.set y1)
  · obtain ⟨⟨hi, o1⟩, y1⟩ := hq
    simp only [List.mem_cons, List.not_mem_nil, or_false] at hi
    rcases hi with hi | hi
    · subst hi
      refine Or.inr ⟨4, 15, rfl, (Nat.le_of_ble_eq_true rfl), ?_⟩
      refine mj_T.pl rfl rfl rfl rfl ?_
      exact mj_T.ret rfl rfl rfl y1
    · subst hi
      refine Or.inr ⟨4, 19, rfl, (Nat.le_of_ble_eq_true rfl), ?_⟩
      refine mj_T.pl rfl rfl rfl rfl ?_
      exact mj_T.ret rfl rfl rfl y1
theorem jy_343 {p1 : Int} {p2 : Int} (w : jLw cK cL cR 571 n tm h) (rp1 : -2147483648 ≤ p1 ∧ p1 ≤ 2147483647) (rp2 : -2147483648 ≤ p2 ∧ p2 ≤ 2147483647) (c : mj_Ok 59 139 [.ref 1, .int (jn p1), .int (jn p2)] h (fun r => yZ Φ r.2)) : mj_Ok 60 343 [.ref 1, .int (jn p1), .int (jn p2), .ref 571] h (fun r => yZ Φ r.2) := by
  have hg : h.length ≤ n := Nat.le_of_eq w.1.1
  refine mj_Ok.of (M := mj_m343) (loc := [some (.ref 1), some (.int (jn p1)), some (.int (jn p2)), some (.ref 571), none]) rfl rfl rfl ?_
  iterate 5 refine mj_T.pl rfl rfl rfl rfl ?_
  refine mj_T.call rfl rfl (Nat.le_of_ble_eq_true rfl) (Nat.le_of_ble_eq_true rfl) (jrv_of w.1 cK4.1 (by decide) rfl (by decide) rfl _) rfl ((mj_Ok.up (by decide) (mj_Ok.to (jc_139 (D := 0) cTY hg w.1 cK4.1 rp1 rp2) (fun _ k => jQp.toQ w.1 k))).and c) (fun v h1 hq => ?_) (fun i h1 hq => ?_)
  · obtain ⟨⟨hv, o1⟩, y1⟩ := hq
    obtain ⟨z, _, _, rfl⟩ := hv
    obtain ⟨_, _, f, hf⟩ := w.thr o1
    refine mj_T.step rfl rfl rfl ?_
    refine jcx.last hf rfl (fun e => ?_)
    iterate 2 refine mj_T.pl rfl rfl rfl rfl ?_
    exact mj_T.ret rfl rfl rfl (yZ.set y1)
  · obtain ⟨⟨hi, o1⟩, y1⟩ := hq
    simp only [List.mem_cons, List.not_mem_nil, or_false] at hi
    rcases hi with hi | hi | hi
    · subst hi
      refine Or.inr ⟨4, 15, rfl, (Nat.le_of_ble_eq_true rfl), ?_⟩
      refine mj_T.pl rfl rfl rfl rfl ?_
      exact mj_T.ret rfl rfl rfl y1
    · subst hi
      refine Or.inr ⟨4, 19, rfl, (Nat.le_of_ble_eq_true rfl), ?_⟩
      refine mj_T.pl rfl rfl rfl rfl ?_
      exact mj_T.ret rfl rfl rfl y1
    · subst hi
      refine Or.inr ⟨4, 23, rfl, (Nat.le_of_ble_eq_true rfl), ?_⟩
      refine mj_T.pl rfl rfl rfl rfl ?_
      exact mj_T.ret rfl rfl rfl y1
theorem jy_345 {p1 : Int} (w : jLw cK cL cR 571 n tm h) (rp1 : -2147483648 ≤ p1 ∧ p1 ≤ 2147483647) (c : mj_Ok 59 144 [.ref 1, .int (jn p1)] h (fun r => yZ Φ r.2)) : mj_Ok 60 345 [.ref 1, .int (jn p1), .ref 571] h (fun r => yZ Φ r.2) := by
  have hg : h.length ≤ n := Nat.le_of_eq w.1.1
  refine mj_Ok.of (M := mj_m345) (loc := [some (.ref 1), some (.int (jn p1)), some (.ref 571), none]) rfl rfl rfl ?_
  iterate 4 refine mj_T.pl rfl rfl rfl rfl ?_
  refine mj_T.call rfl rfl (Nat.le_of_ble_eq_true rfl) (Nat.le_of_ble_eq_true rfl) (jrv_of w.1 cK4.1 (by decide) rfl (by decide) rfl _) rfl ((mj_Ok.up (by decide) (jc_144 (D := 0) cTY hg w.1 cK4.1 rp1)).and c) (fun v h1 hq => ?_) (fun i h1 hq => ?_)
  · obtain ⟨⟨hv, o1⟩, y1⟩ := hq
    obtain ⟨z, _, _, rfl⟩ := hv
    obtain ⟨_, _, f, hf⟩ := w.thr o1
    refine mj_T.step rfl rfl rfl ?_
    refine jcx.last hf rfl (fun e => ?_)
    iterate 2 refine mj_T.pl rfl rfl rfl rfl ?_
    exact mj_T.ret rfl rfl rfl (yZ.set y1)
  · obtain ⟨⟨hi, o1⟩, y1⟩ := hq
    simp only [List.mem_cons, List.not_mem_nil, or_false] at hi
    · subst hi
      refine Or.inr ⟨3, 13, rfl, (Nat.le_of_ble_eq_true rfl), ?_⟩
      refine mj_T.pl rfl rfl rfl rfl ?_
      exact mj_T.ret rfl rfl rfl y1
theorem jy_346 {p1 : Int} (w : jLw cK cL cR 571 n tm h) (rp1 : -2147483648 ≤ p1 ∧ p1 ≤ 2147483647) (c : mj_Ok 59 145 [.ref 1, .int (jn p1)] h (fun r => yZ Φ r.2)) : mj_Ok 60 346 [.ref 1, .int (jn p1), .ref 571] h (fun r => yZ Φ r.2) := by
  have hg : h.length ≤ n := Nat.le_of_eq w.1.1
  refine mj_Ok.of (M := mj_m346) (loc := [some (.ref 1), some (.int (jn p1)), some (.ref 571), none]) rfl rfl rfl ?_
  iterate 4 refine mj_T.pl rfl rfl rfl rfl ?_
  refine mj_T.call rfl rfl (Nat.le_of_ble_eq_true rfl) (Nat.le_of_ble_eq_true rfl) (jrv_of w.1 cK4.1 (by decide) rfl (by decide) rfl _) rfl ((mj_Ok.up (by decide) (mj_Ok.to (jc_145 (D := 0) cTY hg w.1 cK4.1 rp1) (fun _ k => jQp.toQ w.1 k))).and c) (fun v h1 hq => ?_) (fun i h1 hq => ?_)
  · obtain ⟨⟨hv, o1⟩, y1⟩ := hq
    obtain ⟨z, _, _, rfl⟩ := hv
    obtain ⟨_, _, f, hf⟩ := w.thr o1
    refine mj_T.step rfl rfl rfl ?_
    refine jcx.last hf rfl (fun e => ?_)
    iterate 2 refine mj_T.pl rfl rfl rfl rfl ?_
    exact mj_T.ret rfl rfl rfl (yZ.set y1)
  · obtain ⟨⟨hi, o1⟩, y1⟩ := hq
    simp only [List.mem_cons, List.not_mem_nil, or_false] at hi
    · subst hi
      refine Or.inr ⟨3, 13, rfl, (Nat.le_of_ble_eq_true rfl), ?_⟩
      refine mj_T.pl rfl rfl rfl rfl ?_
      exact mj_T.ret rfl rfl rfl y1
theorem jy_322 {p1 : Int} (w : jLw cK cL cR 571 n tm h) (rp1 : -2147483648 ≤ p1 ∧ p1 ≤ 2147483647) (c : mj_Ok 60 114 [.ref 1, .int (jn p1)] h (fun r => yZ Φ r.2)) : mj_Ok 61 322 [.ref 1, .int (jn p1), .ref 571] h (fun r => yZ Φ r.2) := by
  have hg : h.length ≤ n := Nat.le_of_eq w.1.1
  refine mj_Ok.of (M := mj_m322) (loc := [some (.ref 1), some (.int (jn p1)), some (.ref 571), none]) rfl rfl rfl ?_
  iterate 4 refine mj_T.pl rfl rfl rfl rfl ?_
  refine mj_T.call rfl rfl (Nat.le_of_ble_eq_true rfl) (Nat.le_of_ble_eq_true rfl) (jrv_of w.1 cK4.1 (by decide) rfl (by decide) rfl _) rfl ((mj_Ok.up (by decide) (jc_114 (D := 0) cTY hg w.1 cK4.1 rp1)).and c) (fun v h1 hq => ?_) (fun i h1 hq => ?_)
  · obtain ⟨hq, x1⟩ := hq
    rcases hq with ⟨_, hv, _⟩ | ⟨hp, ⟨z, hv, o1⟩ | ⟨_, _, hv, _⟩⟩
    · cases hv
    · cases hv
      obtain ⟨_, _, f, hf⟩ := w.thr o1
      refine mj_T.step rfl rfl rfl ?_
      refine jcx.last hf rfl (fun e => ?_)
      iterate 2 refine mj_T.pl rfl rfl rfl rfl ?_
      exact mj_T.ret rfl rfl rfl (yZ.set x1)
    · cases hv
  · obtain ⟨hq, x1⟩ := hq
    have hi : i ∈ [0, 2, 1] := by
      rcases hq with ⟨_, hv, _⟩ | ⟨_, ⟨_, hv, _⟩ | ⟨_, hi, hv, _⟩⟩
      · cases hv
        exact List.mem_cons_self
      · cases hv
      · cases hv
        exact hi
    simp only [List.mem_cons, List.not_mem_nil, or_false] at hi
    rcases hi with hi | hi | hi
    · subst hi
      refine Or.inr ⟨3, 13, rfl, (Nat.le_of_ble_eq_true rfl), ?_⟩
      refine mj_T.pl rfl rfl rfl rfl ?_
      exact mj_T.ret rfl rfl rfl x1
    · subst hi
      refine Or.inr ⟨3, 16, rfl, (Nat.le_of_ble_eq_true rfl), ?_⟩
      refine mj_T.pl rfl rfl rfl rfl ?_
      exact mj_T.ret rfl rfl rfl x1
    · subst hi
      refine Or.inr ⟨3, 19, rfl, (Nat.le_of_ble_eq_true rfl), ?_⟩
      refine mj_T.pl rfl rfl rfl rfl ?_
      exact mj_T.ret rfl rfl rfl x1
theorem jy_344 {x1 x2 x3 x4 x5 : Int32} (w : jLw cK cL cR 571 n tm h) (c : mj_Ok 59 141 [.ref 1, .int x1, .int x2, .int x3, .int x4, .int x5] h (fun r => yZ Φ r.2)) : mj_Ok 60 344 [.ref 1, .int x1, .int x2, .int x3, .int x4, .int x5, .ref 571] h (fun r => yZ Φ r.2) := by
  have hg : h.length ≤ n := Nat.le_of_eq w.1.1
  have ht := w.1.2.1
  obtain ⟨mf, m1, m2, m4, _⟩ := w.1.main
  refine mj_Ok.of (M := mj_m344) (loc := [some (.ref 1), some (.int x1), some (.int x2), some (.int x3), some (.int x4), some (.int x5), some (.ref 571), none]) rfl rfl rfl ?_
  iterate 8 refine mj_T.pl rfl rfl rfl rfl ?_
  refine mj_T.call rfl rfl (Nat.le_of_ble_eq_true rfl) (Nat.le_of_ble_eq_true rfl) (jrv_of w.1 cK4.1 (by decide) rfl (by decide) rfl _) rfl ((mj_Ok.up (by decide) (jc_141 (D := 0) cTY hg w.1 cK4.1)).and c) (fun v h1 hq => ?_) (fun i h1 hq => ?_)
  · obtain ⟨hq, y⟩ := hq
    rcases hq with ⟨_, hv, _⟩ | ⟨ha, hv, o1⟩
    · cases hv
    cases hv
    obtain ⟨_, _, f, hf⟩ := w.thr o1
    refine mj_T.eq (pc2 := 14) (st2 := [.int (jn (tm + (jcn x1 x2 x3 x4 x5 20 : Int))), .int (jn 0), .ref 571]) ?_ rfl rfl rfl rfl
    refine mj_T.i2l rfl ⟨by omega, by omega⟩ ?_
    refine jcx.last hf rfl (fun e => ?_)
    iterate 2 refine mj_T.pl rfl rfl rfl rfl ?_
    exact mj_T.ret rfl rfl rfl (yZ.set y)
  · obtain ⟨hq, y⟩ := hq
    rcases hq with ⟨ha, hv, o1⟩ | ⟨_, hv, _⟩
    · cases hv
      refine Or.inr ⟨7, 21, rfl, (Nat.le_of_ble_eq_true rfl), ?_⟩
      refine mj_T.pl rfl rfl rfl rfl ?_
      exact mj_T.ret rfl rfl rfl y
    · cases hv
end JYL
