/-! The law's small methods, each around a call of the class. -/
-- PolyRegistersLaw.content(LPolyRegisters;I[J)I
theorem jw_329 {D n p0 q : Nat} {tm : Int} {h : mj_H} {K L : Nat → Nat} {R : Nat → Nat → Nat} {p1 : Int} (ty : jTY K L R) (w : jLw K L R q n tm h) (kp0 : K p0 = 19) (rp1 : -2147483648 ≤ p1 ∧ p1 ≤ 2147483647) : mj_Ok (D + 4) 329 [.ref p0, .int (jn p1), .ref q] h (jWr K L R q n tm h) := by
  have hg : h.length ≤ n := Nat.le_of_eq w.1.1
  refine mj_Ok.of (M := mj_m329) (loc := [some (.ref p0), some (.int (jn p1)), some (.ref q), none]) rfl rfl rfl ?_
  iterate 4 refine mj_T.pl rfl rfl rfl rfl ?_
  refine mj_T.call rfl rfl (Nat.le_of_ble_eq_true rfl) (Nat.le_of_ble_eq_true rfl) (jrv_of w.1 kp0 (by decide) rfl (by decide) rfl _) rfl (jc_123 (D := D) ty hg w.1 kp0 rp1) (fun v h1 hq => ?_) (fun i h1 hq => ?_)
  · obtain ⟨hv, o1⟩ := hq
    obtain ⟨z, _, _, rfl⟩ := hv
    refine mj_T.step rfl rfl rfl ?_
    refine jW.last w o1 rfl (fun h2 w2 f2 _ => ?_)
    iterate 2 refine mj_T.pl rfl rfl rfl rfl ?_
    exact mj_T.ret rfl rfl rfl ⟨0, rfl, ⟨n, by omega, by omega, w2⟩, f2⟩
  · obtain ⟨hi, o1⟩ := hq
    simp only [List.mem_cons, List.not_mem_nil, or_false] at hi
    · subst hi
      refine Or.inr ⟨3, 13, rfl, (Nat.le_of_ble_eq_true rfl), ?_⟩
      refine mj_T.pl rfl rfl rfl rfl ?_
      exact mj_T.ret rfl rfl rfl ⟨1, rfl, ⟨n + 1, by omega, by omega, w.thr o1⟩, jLf.of o1⟩
-- PolyRegistersLaw.value(LPolyRegisters;III[J)I
theorem jw_330 {D n p0 q : Nat} {tm : Int} {h : mj_H} {K L : Nat → Nat} {R : Nat → Nat → Nat} {p1 : Int} {p2 : Int} {p3 : Int} (ty : jTY K L R) (w : jLw K L R q n tm h) (kp0 : K p0 = 19) (rp1 : -2147483648 ≤ p1 ∧ p1 ≤ 2147483647) (rp2 : -2147483648 ≤ p2 ∧ p2 ≤ 2147483647) (rp3 : -2147483648 ≤ p3 ∧ p3 ≤ 2147483647) : mj_Ok (D + 6) 330 [.ref p0, .int (jn p1), .int (jn p2), .int (jn p3), .ref q] h (jWr K L R q n tm h) := by
  have hg : h.length ≤ n := Nat.le_of_eq w.1.1
  refine mj_Ok.of (M := mj_m330) (loc := [some (.ref p0), some (.int (jn p1)), some (.int (jn p2)), some (.int (jn p3)), some (.ref q), none]) rfl rfl rfl ?_
  iterate 6 refine mj_T.pl rfl rfl rfl rfl ?_
  refine mj_T.call rfl rfl (Nat.le_of_ble_eq_true rfl) (Nat.le_of_ble_eq_true rfl) (jrv_of w.1 kp0 (by decide) rfl (by decide) rfl _) rfl (jc_124 (D := D) ty hg w.1 kp0 rp1 rp2 rp3) (fun v h1 hq => ?_) (fun i h1 hq => ?_)
  · obtain ⟨hv, o1⟩ := hq
    obtain ⟨z, _, _, rfl⟩ := hv
    refine mj_T.step rfl rfl rfl ?_
    refine jW.last w o1 rfl (fun h2 w2 f2 _ => ?_)
    iterate 2 refine mj_T.pl rfl rfl rfl rfl ?_
    exact mj_T.ret rfl rfl rfl ⟨0, rfl, ⟨n, by omega, by omega, w2⟩, f2⟩
  · obtain ⟨hi, o1⟩ := hq
    simp only [List.mem_cons, List.not_mem_nil, or_false] at hi
    rcases hi with hi | hi
    · subst hi
      refine Or.inr ⟨5, 17, rfl, (Nat.le_of_ble_eq_true rfl), ?_⟩
      refine mj_T.pl rfl rfl rfl rfl ?_
      exact mj_T.ret rfl rfl rfl ⟨1, rfl, ⟨n + 1, by omega, by omega, w.thr o1⟩, jLf.of o1⟩
    · subst hi
      refine Or.inr ⟨5, 21, rfl, (Nat.le_of_ble_eq_true rfl), ?_⟩
      refine mj_T.pl rfl rfl rfl rfl ?_
      exact mj_T.ret rfl rfl rfl ⟨2, rfl, ⟨n + 1, by omega, by omega, w.thr o1⟩, jLf.of o1⟩
-- PolyRegistersLaw.divides(LPolyRegisters;II[J)I
theorem jw_331 {D n p0 q : Nat} {tm : Int} {h : mj_H} {K L : Nat → Nat} {R : Nat → Nat → Nat} {p1 : Int} {p2 : Int} (ty : jTY K L R) (w : jLw K L R q n tm h) (kp0 : K p0 = 19) (rp1 : -2147483648 ≤ p1 ∧ p1 ≤ 2147483647) (rp2 : -2147483648 ≤ p2 ∧ p2 ≤ 2147483647) : mj_Ok (D + 6) 331 [.ref p0, .int (jn p1), .int (jn p2), .ref q] h (jWr K L R q n tm h) := by
  have hg : h.length ≤ n := Nat.le_of_eq w.1.1
  refine mj_Ok.of (M := mj_m331) (loc := [some (.ref p0), some (.int (jn p1)), some (.int (jn p2)), some (.ref q), none]) rfl rfl rfl ?_
  iterate 5 refine mj_T.pl rfl rfl rfl rfl ?_
  refine mj_T.call rfl rfl (Nat.le_of_ble_eq_true rfl) (Nat.le_of_ble_eq_true rfl) (jrv_of w.1 kp0 (by decide) rfl (by decide) rfl _) rfl (jc_125 (D := D) ty hg w.1 kp0 rp1 rp2) (fun v h1 hq => ?_) (fun i h1 hq => ?_)
  · obtain ⟨hv, o1⟩ := hq
    obtain ⟨z, _, _, rfl⟩ := hv
    refine mj_T.eq (pc2 := 8) (st2 := [.int (jn z), .int (jn 0), .ref q]) ?_ rfl rfl rfl rfl
    refine jT.if0 rfl ⟨by omega, by omega⟩ (fun _ => ?_) (fun _ => ?_)
    · refine mj_T.pl rfl rfl rfl rfl ?_
      refine jW.last w o1 rfl (fun h2 w2 f2 _ => ?_)
      iterate 2 refine mj_T.pl rfl rfl rfl rfl ?_
      exact mj_T.ret rfl rfl rfl ⟨0, rfl, ⟨n, by omega, by omega, w2⟩, f2⟩
    · iterate 2 refine mj_T.pl rfl rfl rfl rfl ?_
      refine jW.last w o1 rfl (fun h2 w2 f2 _ => ?_)
      iterate 2 refine mj_T.pl rfl rfl rfl rfl ?_
      exact mj_T.ret rfl rfl rfl ⟨0, rfl, ⟨n, by omega, by omega, w2⟩, f2⟩
  · obtain ⟨hi, o1⟩ := hq
    simp only [List.mem_cons, List.not_mem_nil, or_false] at hi
    · subst hi
      refine Or.inr ⟨4, 22, rfl, (Nat.le_of_ble_eq_true rfl), ?_⟩
      refine mj_T.pl rfl rfl rfl rfl ?_
      exact mj_T.ret rfl rfl rfl ⟨1, rfl, ⟨n + 1, by omega, by omega, w.thr o1⟩, jLf.of o1⟩
-- PolyRegistersLaw.areSame(LPolyRegisters;II[J)I
theorem jw_332 {D n p0 q : Nat} {tm : Int} {h : mj_H} {K L : Nat → Nat} {R : Nat → Nat → Nat} {p1 : Int} {p2 : Int} (ty : jTY K L R) (w : jLw K L R q n tm h) (kp0 : K p0 = 19) (rp1 : -2147483648 ≤ p1 ∧ p1 ≤ 2147483647) (rp2 : -2147483648 ≤ p2 ∧ p2 ≤ 2147483647) : mj_Ok (D + 3) 332 [.ref p0, .int (jn p1), .int (jn p2), .ref q] h (jWr K L R q n tm h) := by
  have hg : h.length ≤ n := Nat.le_of_eq w.1.1
  refine mj_Ok.of (M := mj_m332) (loc := [some (.ref p0), some (.int (jn p1)), some (.int (jn p2)), some (.ref q), none]) rfl rfl rfl ?_
  iterate 5 refine mj_T.pl rfl rfl rfl rfl ?_
  refine mj_T.call rfl rfl (Nat.le_of_ble_eq_true rfl) (Nat.le_of_ble_eq_true rfl) (jrv_of w.1 kp0 (by decide) rfl (by decide) rfl _) rfl (mj_Ok.to (jc_126 (D := D) ty hg w.1 kp0 rp1 rp2) (fun _ k => jQp.toQ w.1 k)) (fun v h1 hq => ?_) (fun i h1 hq => ?_)
  · obtain ⟨hv, o1⟩ := hq
    obtain ⟨z, _, _, rfl⟩ := hv
    refine mj_T.eq (pc2 := 8) (st2 := [.int (jn z), .int (jn 0), .ref q]) ?_ rfl rfl rfl rfl
    refine jT.if0 rfl ⟨by omega, by omega⟩ (fun _ => ?_) (fun _ => ?_)
    · refine mj_T.pl rfl rfl rfl rfl ?_
      refine jW.last w o1 rfl (fun h2 w2 f2 _ => ?_)
      iterate 2 refine mj_T.pl rfl rfl rfl rfl ?_
      exact mj_T.ret rfl rfl rfl ⟨0, rfl, ⟨n, by omega, by omega, w2⟩, f2⟩
    · iterate 2 refine mj_T.pl rfl rfl rfl rfl ?_
      refine jW.last w o1 rfl (fun h2 w2 f2 _ => ?_)
      iterate 2 refine mj_T.pl rfl rfl rfl rfl ?_
      exact mj_T.ret rfl rfl rfl ⟨0, rfl, ⟨n, by omega, by omega, w2⟩, f2⟩
  · obtain ⟨hi, o1⟩ := hq
    simp only [List.mem_cons, List.not_mem_nil, or_false] at hi
    · subst hi
      refine Or.inr ⟨4, 22, rfl, (Nat.le_of_ble_eq_true rfl), ?_⟩
      refine mj_T.pl rfl rfl rfl rfl ?_
      exact mj_T.ret rfl rfl rfl ⟨1, rfl, ⟨n + 1, by omega, by omega, w.thr o1⟩, jLf.of o1⟩
-- PolyRegistersLaw.agreements(LPolyRegisters;II[J)I
theorem jw_333 {D n p0 q : Nat} {tm : Int} {h : mj_H} {K L : Nat → Nat} {R : Nat → Nat → Nat} {p1 : Int} {p2 : Int} (ty : jTY K L R) (w : jLw K L R q n tm h) (kp0 : K p0 = 19) (rp1 : -2147483648 ≤ p1 ∧ p1 ≤ 2147483647) (rp2 : -2147483648 ≤ p2 ∧ p2 ≤ 2147483647) : mj_Ok (D + 6) 333 [.ref p0, .int (jn p1), .int (jn p2), .ref q] h (jWr K L R q n tm h) := by
  have hg : h.length ≤ n := Nat.le_of_eq w.1.1
  refine mj_Ok.of (M := mj_m333) (loc := [some (.ref p0), some (.int (jn p1)), some (.int (jn p2)), some (.ref q), none]) rfl rfl rfl ?_
  iterate 5 refine mj_T.pl rfl rfl rfl rfl ?_
  refine mj_T.call rfl rfl (Nat.le_of_ble_eq_true rfl) (Nat.le_of_ble_eq_true rfl) (jrv_of w.1 kp0 (by decide) rfl (by decide) rfl _) rfl (jc_127 (D := D) ty hg w.1 kp0 rp1 rp2) (fun v h1 hq => ?_) (fun i h1 hq => ?_)
  · obtain ⟨hv, o1⟩ := hq
    obtain ⟨z, _, _, rfl⟩ := hv
    refine mj_T.step rfl rfl rfl ?_
    refine jW.last w o1 rfl (fun h2 w2 f2 _ => ?_)
    iterate 2 refine mj_T.pl rfl rfl rfl rfl ?_
    exact mj_T.ret rfl rfl rfl ⟨0, rfl, ⟨n, by omega, by omega, w2⟩, f2⟩
  · obtain ⟨hi, o1⟩ := hq
    simp only [List.mem_cons, List.not_mem_nil, or_false] at hi
    · subst hi
      refine Or.inr ⟨4, 15, rfl, (Nat.le_of_ble_eq_true rfl), ?_⟩
      refine mj_T.pl rfl rfl rfl rfl ?_
      exact mj_T.ret rfl rfl rfl ⟨1, rfl, ⟨n + 1, by omega, by omega, w.thr o1⟩, jLf.of o1⟩
-- PolyRegistersLaw.digit(LPolyRegisters;ZI[J)I
theorem jw_334 {D n p0 q : Nat} {tm : Int} {h : mj_H} {K L : Nat → Nat} {R : Nat → Nat → Nat} {p1 : Int} {p2 : Int} (ty : jTY K L R) (w : jLw K L R q n tm h) (kp0 : K p0 = 19) (ap1 : 0 ≤ p1 ∧ p1 ≤ 1) (rp2 : -2147483648 ≤ p2 ∧ p2 ≤ 2147483647) : mj_Ok (D + 4) 334 [.ref p0, .int (jn p1), .int (jn p2), .ref q] h (jWr K L R q n tm h) := by
  have hg : h.length ≤ n := Nat.le_of_eq w.1.1
  refine mj_Ok.of (M := mj_m334) (loc := [some (.ref p0), some (.int (jn p1)), some (.int (jn p2)), some (.ref q), none]) rfl rfl rfl ?_
  iterate 5 refine mj_T.pl rfl rfl rfl rfl ?_
  refine mj_T.call rfl rfl (Nat.le_of_ble_eq_true rfl) (Nat.le_of_ble_eq_true rfl) (jrv_of w.1 kp0 (by decide) rfl (by decide) rfl _) rfl (mj_Ok.to (jc_129 (D := D) ty hg w.1 kp0 ap1 rp2) (fun _ k => jQp.toQ w.1 k)) (fun v h1 hq => ?_) (fun i h1 hq => ?_)
  · obtain ⟨hv, o1⟩ := hq
    obtain ⟨z, _, _, rfl⟩ := hv
    refine mj_T.step rfl rfl rfl ?_
    refine jW.last w o1 rfl (fun h2 w2 f2 _ => ?_)
    iterate 2 refine mj_T.pl rfl rfl rfl rfl ?_
    exact mj_T.ret rfl rfl rfl ⟨0, rfl, ⟨n, by omega, by omega, w2⟩, f2⟩
  · obtain ⟨hi, o1⟩ := hq
    simp only [List.mem_cons, List.not_mem_nil, or_false] at hi
    · subst hi
      refine Or.inr ⟨4, 15, rfl, (Nat.le_of_ble_eq_true rfl), ?_⟩
      refine mj_T.pl rfl rfl rfl rfl ?_
      exact mj_T.ret rfl rfl rfl ⟨1, rfl, ⟨n + 1, by omega, by omega, w.thr o1⟩, jLf.of o1⟩
-- PolyRegistersLaw.realRoots(LPolyRegisters;I[J)I
theorem jw_335 {D n p0 q : Nat} {tm : Int} {h : mj_H} {K L : Nat → Nat} {R : Nat → Nat → Nat} {p1 : Int} (ty : jTY K L R) (w : jLw K L R q n tm h) (kp0 : K p0 = 19) (rp1 : -2147483648 ≤ p1 ∧ p1 ≤ 2147483647) : mj_Ok (D + 8) 335 [.ref p0, .int (jn p1), .ref q] h (jWr K L R q n tm h) := by
  have hg : h.length ≤ n := Nat.le_of_eq w.1.1
  refine mj_Ok.of (M := mj_m335) (loc := [some (.ref p0), some (.int (jn p1)), some (.ref q), none]) rfl rfl rfl ?_
  iterate 4 refine mj_T.pl rfl rfl rfl rfl ?_
  refine mj_T.call rfl rfl (Nat.le_of_ble_eq_true rfl) (Nat.le_of_ble_eq_true rfl) (jrv_of w.1 kp0 (by decide) rfl (by decide) rfl _) rfl (jc_131 (D := D) ty hg w.1 kp0 rp1) (fun v h1 hq => ?_) (fun i h1 hq => ?_)
  · obtain ⟨hv, o1⟩ := hq
    obtain ⟨z, _, _, rfl⟩ := hv
    refine mj_T.step rfl rfl rfl ?_
    refine jW.last w o1 rfl (fun h2 w2 f2 _ => ?_)
    iterate 2 refine mj_T.pl rfl rfl rfl rfl ?_
    exact mj_T.ret rfl rfl rfl ⟨0, rfl, ⟨n, by omega, by omega, w2⟩, f2⟩
  · obtain ⟨hi, o1⟩ := hq
    simp only [List.mem_cons, List.not_mem_nil, or_false] at hi
    rcases hi with hi | hi
    · subst hi
      refine Or.inr ⟨3, 13, rfl, (Nat.le_of_ble_eq_true rfl), ?_⟩
      refine mj_T.pl rfl rfl rfl rfl ?_
      exact mj_T.ret rfl rfl rfl ⟨1, rfl, ⟨n + 1, by omega, by omega, w.thr o1⟩, jLf.of o1⟩
    · subst hi
      refine Or.inr ⟨3, 16, rfl, (Nat.le_of_ble_eq_true rfl), ?_⟩
      refine mj_T.pl rfl rfl rfl rfl ?_
      exact mj_T.ret rfl rfl rfl ⟨2, rfl, ⟨n + 1, by omega, by omega, w.thr o1⟩, jLf.of o1⟩
-- PolyRegistersLaw.rootsBetween(LPolyRegisters;IIIII[J)I
theorem jw_336 {D n p0 q : Nat} {tm : Int} {h : mj_H} {K L : Nat → Nat} {R : Nat → Nat → Nat} {p1 : Int} {p2 : Int} {p3 : Int} {p4 : Int} {p5 : Int} (ty : jTY K L R) (w : jLw K L R q n tm h) (kp0 : K p0 = 19) (rp1 : -2147483648 ≤ p1 ∧ p1 ≤ 2147483647) (rp2 : -2147483648 ≤ p2 ∧ p2 ≤ 2147483647) (rp3 : -2147483648 ≤ p3 ∧ p3 ≤ 2147483647) (rp4 : -2147483648 ≤ p4 ∧ p4 ≤ 2147483647) (rp5 : -2147483648 ≤ p5 ∧ p5 ≤ 2147483647) : mj_Ok (D + 8) 336 [.ref p0, .int (jn p1), .int (jn p2), .int (jn p3), .int (jn p4), .int (jn p5), .ref q] h (jWr K L R q n tm h) := by
  have hg : h.length ≤ n := Nat.le_of_eq w.1.1
  refine mj_Ok.of (M := mj_m336) (loc := [some (.ref p0), some (.int (jn p1)), some (.int (jn p2)), some (.int (jn p3)), some (.int (jn p4)), some (.int (jn p5)), some (.ref q), none]) rfl rfl rfl ?_
  iterate 8 refine mj_T.pl rfl rfl rfl rfl ?_
  refine mj_T.call rfl rfl (Nat.le_of_ble_eq_true rfl) (Nat.le_of_ble_eq_true rfl) (jrv_of w.1 kp0 (by decide) rfl (by decide) rfl _) rfl (jc_132 (D := D) ty hg w.1 kp0 rp1 rp2 rp3 rp4 rp5) (fun v h1 hq => ?_) (fun i h1 hq => ?_)
  · obtain ⟨hv, o1⟩ := hq
    obtain ⟨z, _, _, rfl⟩ := hv
    refine mj_T.step rfl rfl rfl ?_
    refine jW.last w o1 rfl (fun h2 w2 f2 _ => ?_)
    iterate 2 refine mj_T.pl rfl rfl rfl rfl ?_
    exact mj_T.ret rfl rfl rfl ⟨0, rfl, ⟨n, by omega, by omega, w2⟩, f2⟩
  · obtain ⟨hi, o1⟩ := hq
    simp only [List.mem_cons, List.not_mem_nil, or_false] at hi
    rcases hi with hi | hi | hi | hi
    · subst hi
      refine Or.inr ⟨7, 21, rfl, (Nat.le_of_ble_eq_true rfl), ?_⟩
      refine mj_T.pl rfl rfl rfl rfl ?_
      exact mj_T.ret rfl rfl rfl ⟨1, rfl, ⟨n + 1, by omega, by omega, w.thr o1⟩, jLf.of o1⟩
    · subst hi
      refine Or.inr ⟨7, 25, rfl, (Nat.le_of_ble_eq_true rfl), ?_⟩
      refine mj_T.pl rfl rfl rfl rfl ?_
      exact mj_T.ret rfl rfl rfl ⟨2, rfl, ⟨n + 1, by omega, by omega, w.thr o1⟩, jLf.of o1⟩
    · subst hi
      refine Or.inr ⟨7, 29, rfl, (Nat.le_of_ble_eq_true rfl), ?_⟩
      refine mj_T.pl rfl rfl rfl rfl ?_
      exact mj_T.ret rfl rfl rfl ⟨3, rfl, ⟨n + 1, by omega, by omega, w.thr o1⟩, jLf.of o1⟩
    · subst hi
      refine Or.inr ⟨7, 33, rfl, (Nat.le_of_ble_eq_true rfl), ?_⟩
      refine mj_T.pl rfl rfl rfl rfl ?_
      exact mj_T.ret rfl rfl rfl ⟨4, rfl, ⟨n + 1, by omega, by omega, w.thr o1⟩, jLf.of o1⟩
-- PolyRegistersLaw.sturmLength(LPolyRegisters;I[J)I
theorem jw_337 {D n p0 q : Nat} {tm : Int} {h : mj_H} {K L : Nat → Nat} {R : Nat → Nat → Nat} {p1 : Int} (ty : jTY K L R) (w : jLw K L R q n tm h) (kp0 : K p0 = 19) (rp1 : -2147483648 ≤ p1 ∧ p1 ≤ 2147483647) : mj_Ok (D + 8) 337 [.ref p0, .int (jn p1), .ref q] h (jWr K L R q n tm h) := by
  have hg : h.length ≤ n := Nat.le_of_eq w.1.1
  refine mj_Ok.of (M := mj_m337) (loc := [some (.ref p0), some (.int (jn p1)), some (.ref q), none]) rfl rfl rfl ?_
  iterate 4 refine mj_T.pl rfl rfl rfl rfl ?_
  refine mj_T.call rfl rfl (Nat.le_of_ble_eq_true rfl) (Nat.le_of_ble_eq_true rfl) (jrv_of w.1 kp0 (by decide) rfl (by decide) rfl _) rfl (jc_133 (D := D) ty hg w.1 kp0 rp1) (fun v h1 hq => ?_) (fun i h1 hq => ?_)
  · obtain ⟨hv, o1⟩ := hq
    obtain ⟨z, _, _, rfl⟩ := hv
    refine mj_T.step rfl rfl rfl ?_
    refine jW.last w o1 rfl (fun h2 w2 f2 _ => ?_)
    iterate 2 refine mj_T.pl rfl rfl rfl rfl ?_
    exact mj_T.ret rfl rfl rfl ⟨0, rfl, ⟨n, by omega, by omega, w2⟩, f2⟩
  · obtain ⟨hi, o1⟩ := hq
    simp only [List.mem_cons, List.not_mem_nil, or_false] at hi
    rcases hi with hi | hi
    · subst hi
      refine Or.inr ⟨3, 13, rfl, (Nat.le_of_ble_eq_true rfl), ?_⟩
      refine mj_T.pl rfl rfl rfl rfl ?_
      exact mj_T.ret rfl rfl rfl ⟨1, rfl, ⟨n + 1, by omega, by omega, w.thr o1⟩, jLf.of o1⟩
    · subst hi
      refine Or.inr ⟨3, 16, rfl, (Nat.le_of_ble_eq_true rfl), ?_⟩
      refine mj_T.pl rfl rfl rfl rfl ?_
      exact mj_T.ret rfl rfl rfl ⟨2, rfl, ⟨n + 1, by omega, by omega, w.thr o1⟩, jLf.of o1⟩
-- PolyRegistersLaw.changes(LPolyRegisters;III[J)I
theorem jw_338 {D n p0 q : Nat} {tm : Int} {h : mj_H} {K L : Nat → Nat} {R : Nat → Nat → Nat} {p1 : Int} {p2 : Int} {p3 : Int} (ty : jTY K L R) (w : jLw K L R q n tm h) (kp0 : K p0 = 19) (rp1 : -2147483648 ≤ p1 ∧ p1 ≤ 2147483647) (rp2 : -2147483648 ≤ p2 ∧ p2 ≤ 2147483647) (rp3 : -2147483648 ≤ p3 ∧ p3 ≤ 2147483647) : mj_Ok (D + 8) 338 [.ref p0, .int (jn p1), .int (jn p2), .int (jn p3), .ref q] h (jWr K L R q n tm h) := by
  have hg : h.length ≤ n := Nat.le_of_eq w.1.1
  refine mj_Ok.of (M := mj_m338) (loc := [some (.ref p0), some (.int (jn p1)), some (.int (jn p2)), some (.int (jn p3)), some (.ref q), none]) rfl rfl rfl ?_
  iterate 6 refine mj_T.pl rfl rfl rfl rfl ?_
  refine mj_T.call rfl rfl (Nat.le_of_ble_eq_true rfl) (Nat.le_of_ble_eq_true rfl) (jrv_of w.1 kp0 (by decide) rfl (by decide) rfl _) rfl (jc_134 (D := D) ty hg w.1 kp0 rp1 rp2 rp3) (fun v h1 hq => ?_) (fun i h1 hq => ?_)
  · obtain ⟨hv, o1⟩ := hq
    obtain ⟨z, _, _, rfl⟩ := hv
    refine mj_T.step rfl rfl rfl ?_
    refine jW.last w o1 rfl (fun h2 w2 f2 _ => ?_)
    iterate 2 refine mj_T.pl rfl rfl rfl rfl ?_
    exact mj_T.ret rfl rfl rfl ⟨0, rfl, ⟨n, by omega, by omega, w2⟩, f2⟩
  · obtain ⟨hi, o1⟩ := hq
    simp only [List.mem_cons, List.not_mem_nil, or_false] at hi
    rcases hi with hi | hi | hi
    · subst hi
      refine Or.inr ⟨5, 17, rfl, (Nat.le_of_ble_eq_true rfl), ?_⟩
      refine mj_T.pl rfl rfl rfl rfl ?_
      exact mj_T.ret rfl rfl rfl ⟨1, rfl, ⟨n + 1, by omega, by omega, w.thr o1⟩, jLf.of o1⟩
    · subst hi
      refine Or.inr ⟨5, 21, rfl, (Nat.le_of_ble_eq_true rfl), ?_⟩
      refine mj_T.pl rfl rfl rfl rfl ?_
      exact mj_T.ret rfl rfl rfl ⟨2, rfl, ⟨n + 1, by omega, by omega, w.thr o1⟩, jLf.of o1⟩
    · subst hi
      refine Or.inr ⟨5, 25, rfl, (Nat.le_of_ble_eq_true rfl), ?_⟩
      refine mj_T.pl rfl rfl rfl rfl ?_
      exact mj_T.ret rfl rfl rfl ⟨3, rfl, ⟨n + 1, by omega, by omega, w.thr o1⟩, jLf.of o1⟩
-- PolyRegistersLaw.closeIn(LPolyRegisters;III[J)I
theorem jw_339 {D n p0 q : Nat} {tm : Int} {h : mj_H} {K L : Nat → Nat} {R : Nat → Nat → Nat} {p1 : Int} {p2 : Int} {p3 : Int} (ty : jTY K L R) (w : jLw K L R q n tm h) (kp0 : K p0 = 19) (rp1 : -2147483648 ≤ p1 ∧ p1 ≤ 2147483647) (rp2 : -2147483648 ≤ p2 ∧ p2 ≤ 2147483647) (rp3 : -2147483648 ≤ p3 ∧ p3 ≤ 2147483647) : mj_Ok (D + 8) 339 [.ref p0, .int (jn p1), .int (jn p2), .int (jn p3), .ref q] h (jWr K L R q n tm h) := by
  have hg : h.length ≤ n := Nat.le_of_eq w.1.1
  refine mj_Ok.of (M := mj_m339) (loc := [some (.ref p0), some (.int (jn p1)), some (.int (jn p2)), some (.int (jn p3)), some (.ref q), none]) rfl rfl rfl ?_
  iterate 6 refine mj_T.pl rfl rfl rfl rfl ?_
  refine mj_T.call rfl rfl (Nat.le_of_ble_eq_true rfl) (Nat.le_of_ble_eq_true rfl) (jrv_of w.1 kp0 (by decide) rfl (by decide) rfl _) rfl (jc_135 (D := D) ty hg w.1 kp0 rp1 rp2 rp3) (fun v h1 hq => ?_) (fun i h1 hq => ?_)
  · obtain ⟨hv, o1⟩ := hq
    obtain ⟨z, _, _, rfl⟩ := hv
    refine mj_T.step rfl rfl rfl ?_
    refine jW.last w o1 rfl (fun h2 w2 f2 _ => ?_)
    iterate 2 refine mj_T.pl rfl rfl rfl rfl ?_
    exact mj_T.ret rfl rfl rfl ⟨0, rfl, ⟨n, by omega, by omega, w2⟩, f2⟩
  · obtain ⟨hi, o1⟩ := hq
    simp only [List.mem_cons, List.not_mem_nil, or_false] at hi
    rcases hi with hi | hi
    · subst hi
      refine Or.inr ⟨5, 17, rfl, (Nat.le_of_ble_eq_true rfl), ?_⟩
      refine mj_T.pl rfl rfl rfl rfl ?_
      exact mj_T.ret rfl rfl rfl ⟨1, rfl, ⟨n + 1, by omega, by omega, w.thr o1⟩, jLf.of o1⟩
    · subst hi
      refine Or.inr ⟨5, 21, rfl, (Nat.le_of_ble_eq_true rfl), ?_⟩
      refine mj_T.pl rfl rfl rfl rfl ?_
      exact mj_T.ret rfl rfl rfl ⟨2, rfl, ⟨n + 1, by omega, by omega, w.thr o1⟩, jLf.of o1⟩
-- PolyRegistersLaw.fractionRoots(LPolyRegisters;I[J)I
theorem jw_340 {D n p0 q : Nat} {tm : Int} {h : mj_H} {K L : Nat → Nat} {R : Nat → Nat → Nat} {p1 : Int} (ty : jTY K L R) (w : jLw K L R q n tm h) (kp0 : K p0 = 19) (rp1 : -2147483648 ≤ p1 ∧ p1 ≤ 2147483647) : mj_Ok (D + 8) 340 [.ref p0, .int (jn p1), .ref q] h (jWr K L R q n tm h) := by
  have hg : h.length ≤ n := Nat.le_of_eq w.1.1
  refine mj_Ok.of (M := mj_m340) (loc := [some (.ref p0), some (.int (jn p1)), some (.ref q), none]) rfl rfl rfl ?_
  iterate 4 refine mj_T.pl rfl rfl rfl rfl ?_
  refine mj_T.call rfl rfl (Nat.le_of_ble_eq_true rfl) (Nat.le_of_ble_eq_true rfl) (jrv_of w.1 kp0 (by decide) rfl (by decide) rfl _) rfl (jc_136 (D := D) ty hg w.1 kp0 rp1) (fun v h1 hq => ?_) (fun i h1 hq => ?_)
  · obtain ⟨hv, o1⟩ := hq
    obtain ⟨z, _, _, rfl⟩ := hv
    refine mj_T.step rfl rfl rfl ?_
    refine jW.last w o1 rfl (fun h2 w2 f2 _ => ?_)
    iterate 2 refine mj_T.pl rfl rfl rfl rfl ?_
    exact mj_T.ret rfl rfl rfl ⟨0, rfl, ⟨n, by omega, by omega, w2⟩, f2⟩
  · obtain ⟨hi, o1⟩ := hq
    simp only [List.mem_cons, List.not_mem_nil, or_false] at hi
    rcases hi with hi | hi
    · subst hi
      refine Or.inr ⟨3, 13, rfl, (Nat.le_of_ble_eq_true rfl), ?_⟩
      refine mj_T.pl rfl rfl rfl rfl ?_
      exact mj_T.ret rfl rfl rfl ⟨1, rfl, ⟨n + 1, by omega, by omega, w.thr o1⟩, jLf.of o1⟩
    · subst hi
      refine Or.inr ⟨3, 16, rfl, (Nat.le_of_ble_eq_true rfl), ?_⟩
      refine mj_T.pl rfl rfl rfl rfl ?_
      exact mj_T.ret rfl rfl rfl ⟨2, rfl, ⟨n + 1, by omega, by omega, w.thr o1⟩, jLf.of o1⟩
-- PolyRegistersLaw.fractionRoot(LPolyRegisters;II[J)I
theorem jw_341 {D n p0 q : Nat} {tm : Int} {h : mj_H} {K L : Nat → Nat} {R : Nat → Nat → Nat} {p1 : Int} {p2 : Int} (ty : jTY K L R) (w : jLw K L R q n tm h) (kp0 : K p0 = 19) (rp1 : -2147483648 ≤ p1 ∧ p1 ≤ 2147483647) (rp2 : -2147483648 ≤ p2 ∧ p2 ≤ 2147483647) : mj_Ok (D + 8) 341 [.ref p0, .int (jn p1), .int (jn p2), .ref q] h (jWr K L R q n tm h) := by
  have hg : h.length ≤ n := Nat.le_of_eq w.1.1
  refine mj_Ok.of (M := mj_m341) (loc := [some (.ref p0), some (.int (jn p1)), some (.int (jn p2)), some (.ref q), none]) rfl rfl rfl ?_
  iterate 5 refine mj_T.pl rfl rfl rfl rfl ?_
  refine mj_T.call rfl rfl (Nat.le_of_ble_eq_true rfl) (Nat.le_of_ble_eq_true rfl) (jrv_of w.1 kp0 (by decide) rfl (by decide) rfl _) rfl (jc_137 (D := D) ty hg w.1 kp0 rp1 rp2) (fun v h1 hq => ?_) (fun i h1 hq => ?_)
  · obtain ⟨hv, o1⟩ := hq
    obtain ⟨z, _, _, rfl⟩ := hv
    refine mj_T.step rfl rfl rfl ?_
    refine jW.last w o1 rfl (fun h2 w2 f2 _ => ?_)
    iterate 2 refine mj_T.pl rfl rfl rfl rfl ?_
    exact mj_T.ret rfl rfl rfl ⟨0, rfl, ⟨n, by omega, by omega, w2⟩, f2⟩
  · obtain ⟨hi, o1⟩ := hq
    simp only [List.mem_cons, List.not_mem_nil, or_false] at hi
    · subst hi
      refine Or.inr ⟨4, 15, rfl, (Nat.le_of_ble_eq_true rfl), ?_⟩
      refine mj_T.pl rfl rfl rfl rfl ?_
      exact mj_T.ret rfl rfl rfl ⟨1, rfl, ⟨n + 1, by omega, by omega, w.thr o1⟩, jLf.of o1⟩
-- PolyRegistersLaw.rootsBy(LPolyRegisters;II[J)I
theorem jw_342 {D n p0 q : Nat} {tm : Int} {h : mj_H} {K L : Nat → Nat} {R : Nat → Nat → Nat} {p1 : Int} {p2 : Int} (ty : jTY K L R) (w : jLw K L R q n tm h) (kp0 : K p0 = 19) (rp1 : -2147483648 ≤ p1 ∧ p1 ≤ 2147483647) (rp2 : -2147483648 ≤ p2 ∧ p2 ≤ 2147483647) : mj_Ok (D + 4) 342 [.ref p0, .int (jn p1), .int (jn p2), .ref q] h (jWr K L R q n tm h) := by
  have hg : h.length ≤ n := Nat.le_of_eq w.1.1
  refine mj_Ok.of (M := mj_m342) (loc := [some (.ref p0), some (.int (jn p1)), some (.int (jn p2)), some (.ref q), none]) rfl rfl rfl ?_
  iterate 5 refine mj_T.pl rfl rfl rfl rfl ?_
  refine mj_T.call rfl rfl (Nat.le_of_ble_eq_true rfl) (Nat.le_of_ble_eq_true rfl) (jrv_of w.1 kp0 (by decide) rfl (by decide) rfl _) rfl (mj_Ok.to (jc_138 (D := D) ty hg w.1 kp0 rp1 rp2) (fun _ k => jQp.toQ w.1 k)) (fun v h1 hq => ?_) (fun i h1 hq => ?_)
  · obtain ⟨hv, o1⟩ := hq
    obtain ⟨z, _, _, rfl⟩ := hv
    refine mj_T.step rfl rfl rfl ?_
    refine jW.last w o1 rfl (fun h2 w2 f2 _ => ?_)
    iterate 2 refine mj_T.pl rfl rfl rfl rfl ?_
    exact mj_T.ret rfl rfl rfl ⟨0, rfl, ⟨n, by omega, by omega, w2⟩, f2⟩
  · obtain ⟨hi, o1⟩ := hq
    simp only [List.mem_cons, List.not_mem_nil, or_false] at hi
    rcases hi with hi | hi
    · subst hi
      refine Or.inr ⟨4, 15, rfl, (Nat.le_of_ble_eq_true rfl), ?_⟩
      refine mj_T.pl rfl rfl rfl rfl ?_
      exact mj_T.ret rfl rfl rfl ⟨1, rfl, ⟨n + 1, by omega, by omega, w.thr o1⟩, jLf.of o1⟩
    · subst hi
      refine Or.inr ⟨4, 19, rfl, (Nat.le_of_ble_eq_true rfl), ?_⟩
      refine mj_T.pl rfl rfl rfl rfl ?_
      exact mj_T.ret rfl rfl rfl ⟨2, rfl, ⟨n + 1, by omega, by omega, w.thr o1⟩, jLf.of o1⟩
-- PolyRegistersLaw.rootBy(LPolyRegisters;II[J)I
theorem jw_343 {D n p0 q : Nat} {tm : Int} {h : mj_H} {K L : Nat → Nat} {R : Nat → Nat → Nat} {p1 : Int} {p2 : Int} (ty : jTY K L R) (w : jLw K L R q n tm h) (kp0 : K p0 = 19) (rp1 : -2147483648 ≤ p1 ∧ p1 ≤ 2147483647) (rp2 : -2147483648 ≤ p2 ∧ p2 ≤ 2147483647) : mj_Ok (D + 4) 343 [.ref p0, .int (jn p1), .int (jn p2), .ref q] h (jWr K L R q n tm h) := by
  have hg : h.length ≤ n := Nat.le_of_eq w.1.1
  refine mj_Ok.of (M := mj_m343) (loc := [some (.ref p0), some (.int (jn p1)), some (.int (jn p2)), some (.ref q), none]) rfl rfl rfl ?_
  iterate 5 refine mj_T.pl rfl rfl rfl rfl ?_
  refine mj_T.call rfl rfl (Nat.le_of_ble_eq_true rfl) (Nat.le_of_ble_eq_true rfl) (jrv_of w.1 kp0 (by decide) rfl (by decide) rfl _) rfl (mj_Ok.to (jc_139 (D := D) ty hg w.1 kp0 rp1 rp2) (fun _ k => jQp.toQ w.1 k)) (fun v h1 hq => ?_) (fun i h1 hq => ?_)
  · obtain ⟨hv, o1⟩ := hq
    obtain ⟨z, _, _, rfl⟩ := hv
    refine mj_T.step rfl rfl rfl ?_
    refine jW.last w o1 rfl (fun h2 w2 f2 _ => ?_)
    iterate 2 refine mj_T.pl rfl rfl rfl rfl ?_
    exact mj_T.ret rfl rfl rfl ⟨0, rfl, ⟨n, by omega, by omega, w2⟩, f2⟩
  · obtain ⟨hi, o1⟩ := hq
    simp only [List.mem_cons, List.not_mem_nil, or_false] at hi
    rcases hi with hi | hi | hi
    · subst hi
      refine Or.inr ⟨4, 15, rfl, (Nat.le_of_ble_eq_true rfl), ?_⟩
      refine mj_T.pl rfl rfl rfl rfl ?_
      exact mj_T.ret rfl rfl rfl ⟨1, rfl, ⟨n + 1, by omega, by omega, w.thr o1⟩, jLf.of o1⟩
    · subst hi
      refine Or.inr ⟨4, 19, rfl, (Nat.le_of_ble_eq_true rfl), ?_⟩
      refine mj_T.pl rfl rfl rfl rfl ?_
      exact mj_T.ret rfl rfl rfl ⟨2, rfl, ⟨n + 1, by omega, by omega, w.thr o1⟩, jLf.of o1⟩
    · subst hi
      refine Or.inr ⟨4, 23, rfl, (Nat.le_of_ble_eq_true rfl), ?_⟩
      refine mj_T.pl rfl rfl rfl rfl ?_
      exact mj_T.ret rfl rfl rfl ⟨3, rfl, ⟨n + 1, by omega, by omega, w.thr o1⟩, jLf.of o1⟩
-- PolyRegistersLaw.write(LPolyRegisters;I[J)I
theorem jw_345 {D n p0 q : Nat} {tm : Int} {h : mj_H} {K L : Nat → Nat} {R : Nat → Nat → Nat} {p1 : Int} (ty : jTY K L R) (w : jLw K L R q n tm h) (kp0 : K p0 = 19) (rp1 : -2147483648 ≤ p1 ∧ p1 ≤ 2147483647) : mj_Ok (D + 6) 345 [.ref p0, .int (jn p1), .ref q] h (jWr K L R q n tm h) := by
  have hg : h.length ≤ n := Nat.le_of_eq w.1.1
  refine mj_Ok.of (M := mj_m345) (loc := [some (.ref p0), some (.int (jn p1)), some (.ref q), none]) rfl rfl rfl ?_
  iterate 4 refine mj_T.pl rfl rfl rfl rfl ?_
  refine mj_T.call rfl rfl (Nat.le_of_ble_eq_true rfl) (Nat.le_of_ble_eq_true rfl) (jrv_of w.1 kp0 (by decide) rfl (by decide) rfl _) rfl (jc_144 (D := D) ty hg w.1 kp0 rp1) (fun v h1 hq => ?_) (fun i h1 hq => ?_)
  · obtain ⟨hv, o1⟩ := hq
    obtain ⟨z, _, _, rfl⟩ := hv
    refine mj_T.step rfl rfl rfl ?_
    refine jW.last w o1 rfl (fun h2 w2 f2 _ => ?_)
    iterate 2 refine mj_T.pl rfl rfl rfl rfl ?_
    exact mj_T.ret rfl rfl rfl ⟨0, rfl, ⟨n, by omega, by omega, w2⟩, f2⟩
  · obtain ⟨hi, o1⟩ := hq
    simp only [List.mem_cons, List.not_mem_nil, or_false] at hi
    · subst hi
      refine Or.inr ⟨3, 13, rfl, (Nat.le_of_ble_eq_true rfl), ?_⟩
      refine mj_T.pl rfl rfl rfl rfl ?_
      exact mj_T.ret rfl rfl rfl ⟨1, rfl, ⟨n + 1, by omega, by omega, w.thr o1⟩, jLf.of o1⟩
-- PolyRegistersLaw.writtenAt(LPolyRegisters;I[J)I
theorem jw_346 {D n p0 q : Nat} {tm : Int} {h : mj_H} {K L : Nat → Nat} {R : Nat → Nat → Nat} {p1 : Int} (ty : jTY K L R) (w : jLw K L R q n tm h) (kp0 : K p0 = 19) (rp1 : -2147483648 ≤ p1 ∧ p1 ≤ 2147483647) : mj_Ok (D + 3) 346 [.ref p0, .int (jn p1), .ref q] h (jWr K L R q n tm h) := by
  have hg : h.length ≤ n := Nat.le_of_eq w.1.1
  refine mj_Ok.of (M := mj_m346) (loc := [some (.ref p0), some (.int (jn p1)), some (.ref q), none]) rfl rfl rfl ?_
  iterate 4 refine mj_T.pl rfl rfl rfl rfl ?_
  refine mj_T.call rfl rfl (Nat.le_of_ble_eq_true rfl) (Nat.le_of_ble_eq_true rfl) (jrv_of w.1 kp0 (by decide) rfl (by decide) rfl _) rfl (mj_Ok.to (jc_145 (D := D) ty hg w.1 kp0 rp1) (fun _ k => jQp.toQ w.1 k)) (fun v h1 hq => ?_) (fun i h1 hq => ?_)
  · obtain ⟨hv, o1⟩ := hq
    obtain ⟨z, _, _, rfl⟩ := hv
    refine mj_T.step rfl rfl rfl ?_
    refine jW.last w o1 rfl (fun h2 w2 f2 _ => ?_)
    iterate 2 refine mj_T.pl rfl rfl rfl rfl ?_
    exact mj_T.ret rfl rfl rfl ⟨0, rfl, ⟨n, by omega, by omega, w2⟩, f2⟩
  · obtain ⟨hi, o1⟩ := hq
    simp only [List.mem_cons, List.not_mem_nil, or_false] at hi
    · subst hi
      refine Or.inr ⟨3, 13, rfl, (Nat.le_of_ble_eq_true rfl), ?_⟩
      refine mj_T.pl rfl rfl rfl rfl ?_
      exact mj_T.ret rfl rfl rfl ⟨1, rfl, ⟨n + 1, by omega, by omega, w.thr o1⟩, jLf.of o1⟩
