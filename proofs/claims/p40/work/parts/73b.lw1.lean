/-! The law's small methods, each around a call of the class. -/
-- PolyRegistersLaw.add(LPolyRegisters;III[J)I
theorem jw_310 {D n p0 q : Nat} {tm : Int} {h : mj_H} {K L : Nat → Nat} {R : Nat → Nat → Nat} {p1 : Int} {p2 : Int} {p3 : Int} (ty : jTY K L R) (w : jLw K L R q n tm h) (kp0 : K p0 = 19) (rp1 : -2147483648 ≤ p1 ∧ p1 ≤ 2147483647) (rp2 : -2147483648 ≤ p2 ∧ p2 ≤ 2147483647) (rp3 : -2147483648 ≤ p3 ∧ p3 ≤ 2147483647) : mj_Ok (D + 6) 310 [.ref p0, .int (jn p1), .int (jn p2), .int (jn p3), .ref q] h (jWr K L R q n tm h) := by
  have hg : h.length ≤ n := Nat.le_of_eq w.1.1
  refine mj_Ok.of (M := mj_m310) (loc := [some (.ref p0), some (.int (jn p1)), some (.int (jn p2)), some (.int (jn p3)), some (.ref q), none]) rfl rfl rfl ?_
  iterate 6 refine mj_T.pl rfl rfl rfl rfl ?_
  refine mj_T.call rfl rfl (Nat.le_of_ble_eq_true rfl) (Nat.le_of_ble_eq_true rfl) (jrv_of w.1 kp0 (by decide) rfl (by decide) rfl _) rfl (jc_102 (D := D) ty hg w.1 kp0 rp1 rp2 rp3) (fun v h1 hq => ?_) (fun i h1 hq => ?_)
  · obtain ⟨hv, o1⟩ := hq
    obtain ⟨z, _, _, rfl⟩ := hv
    refine mj_T.step rfl rfl rfl ?_
    refine jW.last w o1 rfl (fun h2 w2 f2 _ => ?_)
    iterate 2 refine mj_T.pl rfl rfl rfl rfl ?_
    exact mj_T.ret rfl rfl rfl ⟨0, rfl, ⟨n, by omega, by omega, w2⟩, f2⟩
  · obtain ⟨hi, o1⟩ := hq
    simp only [List.mem_cons, List.not_mem_nil, or_false] at hi
    rcases hi with hi | hi
    · subst hi
      refine Or.inr ⟨5, 17, rfl, (Nat.le_of_ble_eq_true rfl), ?_⟩
      refine mj_T.pl rfl rfl rfl rfl ?_
      exact mj_T.ret rfl rfl rfl ⟨1, rfl, ⟨n + 1, by omega, by omega, w.thr o1⟩, jLf.of o1⟩
    · subst hi
      refine Or.inr ⟨5, 21, rfl, (Nat.le_of_ble_eq_true rfl), ?_⟩
      refine mj_T.pl rfl rfl rfl rfl ?_
      exact mj_T.ret rfl rfl rfl ⟨2, rfl, ⟨n + 1, by omega, by omega, w.thr o1⟩, jLf.of o1⟩
-- PolyRegistersLaw.subtract(LPolyRegisters;III[J)I
theorem jw_311 {D n p0 q : Nat} {tm : Int} {h : mj_H} {K L : Nat → Nat} {R : Nat → Nat → Nat} {p1 : Int} {p2 : Int} {p3 : Int} (ty : jTY K L R) (w : jLw K L R q n tm h) (kp0 : K p0 = 19) (rp1 : -2147483648 ≤ p1 ∧ p1 ≤ 2147483647) (rp2 : -2147483648 ≤ p2 ∧ p2 ≤ 2147483647) (rp3 : -2147483648 ≤ p3 ∧ p3 ≤ 2147483647) : mj_Ok (D + 6) 311 [.ref p0, .int (jn p1), .int (jn p2), .int (jn p3), .ref q] h (jWr K L R q n tm h) := by
  have hg : h.length ≤ n := Nat.le_of_eq w.1.1
  refine mj_Ok.of (M := mj_m311) (loc := [some (.ref p0), some (.int (jn p1)), some (.int (jn p2)), some (.int (jn p3)), some (.ref q), none]) rfl rfl rfl ?_
  iterate 6 refine mj_T.pl rfl rfl rfl rfl ?_
  refine mj_T.call rfl rfl (Nat.le_of_ble_eq_true rfl) (Nat.le_of_ble_eq_true rfl) (jrv_of w.1 kp0 (by decide) rfl (by decide) rfl _) rfl (jc_103 (D := D) ty hg w.1 kp0 rp1 rp2 rp3) (fun v h1 hq => ?_) (fun i h1 hq => ?_)
  · obtain ⟨hv, o1⟩ := hq
    obtain ⟨z, _, _, rfl⟩ := hv
    refine mj_T.step rfl rfl rfl ?_
    refine jW.last w o1 rfl (fun h2 w2 f2 _ => ?_)
    iterate 2 refine mj_T.pl rfl rfl rfl rfl ?_
    exact mj_T.ret rfl rfl rfl ⟨0, rfl, ⟨n, by omega, by omega, w2⟩, f2⟩
  · obtain ⟨hi, o1⟩ := hq
    simp only [List.mem_cons, List.not_mem_nil, or_false] at hi
    rcases hi with hi | hi
    · subst hi
      refine Or.inr ⟨5, 17, rfl, (Nat.le_of_ble_eq_true rfl), ?_⟩
      refine mj_T.pl rfl rfl rfl rfl ?_
      exact mj_T.ret rfl rfl rfl ⟨1, rfl, ⟨n + 1, by omega, by omega, w.thr o1⟩, jLf.of o1⟩
    · subst hi
      refine Or.inr ⟨5, 21, rfl, (Nat.le_of_ble_eq_true rfl), ?_⟩
      refine mj_T.pl rfl rfl rfl rfl ?_
      exact mj_T.ret rfl rfl rfl ⟨2, rfl, ⟨n + 1, by omega, by omega, w.thr o1⟩, jLf.of o1⟩
-- PolyRegistersLaw.multiply(LPolyRegisters;III[J)I
theorem jw_312 {D n p0 q : Nat} {tm : Int} {h : mj_H} {K L : Nat → Nat} {R : Nat → Nat → Nat} {p1 : Int} {p2 : Int} {p3 : Int} (ty : jTY K L R) (w : jLw K L R q n tm h) (kp0 : K p0 = 19) (rp1 : -2147483648 ≤ p1 ∧ p1 ≤ 2147483647) (rp2 : -2147483648 ≤ p2 ∧ p2 ≤ 2147483647) (rp3 : -2147483648 ≤ p3 ∧ p3 ≤ 2147483647) : mj_Ok (D + 6) 312 [.ref p0, .int (jn p1), .int (jn p2), .int (jn p3), .ref q] h (jWr K L R q n tm h) := by
  have hg : h.length ≤ n := Nat.le_of_eq w.1.1
  refine mj_Ok.of (M := mj_m312) (loc := [some (.ref p0), some (.int (jn p1)), some (.int (jn p2)), some (.int (jn p3)), some (.ref q), none]) rfl rfl rfl ?_
  iterate 6 refine mj_T.pl rfl rfl rfl rfl ?_
  refine mj_T.call rfl rfl (Nat.le_of_ble_eq_true rfl) (Nat.le_of_ble_eq_true rfl) (jrv_of w.1 kp0 (by decide) rfl (by decide) rfl _) rfl (jc_104 (D := D) ty hg w.1 kp0 rp1 rp2 rp3) (fun v h1 hq => ?_) (fun i h1 hq => ?_)
  · obtain ⟨hv, o1⟩ := hq
    obtain ⟨z, _, _, rfl⟩ := hv
    refine mj_T.step rfl rfl rfl ?_
    refine jW.last w o1 rfl (fun h2 w2 f2 _ => ?_)
    iterate 2 refine mj_T.pl rfl rfl rfl rfl ?_
    exact mj_T.ret rfl rfl rfl ⟨0, rfl, ⟨n, by omega, by omega, w2⟩, f2⟩
  · obtain ⟨hi, o1⟩ := hq
    simp only [List.mem_cons, List.not_mem_nil, or_false] at hi
    rcases hi with hi | hi
    · subst hi
      refine Or.inr ⟨5, 17, rfl, (Nat.le_of_ble_eq_true rfl), ?_⟩
      refine mj_T.pl rfl rfl rfl rfl ?_
      exact mj_T.ret rfl rfl rfl ⟨1, rfl, ⟨n + 1, by omega, by omega, w.thr o1⟩, jLf.of o1⟩
    · subst hi
      refine Or.inr ⟨5, 21, rfl, (Nat.le_of_ble_eq_true rfl), ?_⟩
      refine mj_T.pl rfl rfl rfl rfl ?_
      exact mj_T.ret rfl rfl rfl ⟨2, rfl, ⟨n + 1, by omega, by omega, w.thr o1⟩, jLf.of o1⟩
-- PolyRegistersLaw.power(LPolyRegisters;III[J)I
theorem jw_313 {D n p0 q : Nat} {tm : Int} {h : mj_H} {K L : Nat → Nat} {R : Nat → Nat → Nat} {p1 : Int} {p2 : Int} {p3 : Int} (ty : jTY K L R) (w : jLw K L R q n tm h) (kp0 : K p0 = 19) (rp1 : -2147483648 ≤ p1 ∧ p1 ≤ 2147483647) (rp2 : -2147483648 ≤ p2 ∧ p2 ≤ 2147483647) (rp3 : -2147483648 ≤ p3 ∧ p3 ≤ 2147483647) : mj_Ok (D + 6) 313 [.ref p0, .int (jn p1), .int (jn p2), .int (jn p3), .ref q] h (jWr K L R q n tm h) := by
  have hg : h.length ≤ n := Nat.le_of_eq w.1.1
  refine mj_Ok.of (M := mj_m313) (loc := [some (.ref p0), some (.int (jn p1)), some (.int (jn p2)), some (.int (jn p3)), some (.ref q), none]) rfl rfl rfl ?_
  iterate 6 refine mj_T.pl rfl rfl rfl rfl ?_
  refine mj_T.call rfl rfl (Nat.le_of_ble_eq_true rfl) (Nat.le_of_ble_eq_true rfl) (jrv_of w.1 kp0 (by decide) rfl (by decide) rfl _) rfl (jc_105 (D := D) ty hg w.1 kp0 rp1 rp2 rp3) (fun v h1 hq => ?_) (fun i h1 hq => ?_)
  · obtain ⟨hv, o1⟩ := hq
    obtain ⟨z, _, _, rfl⟩ := hv
    refine mj_T.step rfl rfl rfl ?_
    refine jW.last w o1 rfl (fun h2 w2 f2 _ => ?_)
    iterate 2 refine mj_T.pl rfl rfl rfl rfl ?_
    exact mj_T.ret rfl rfl rfl ⟨0, rfl, ⟨n, by omega, by omega, w2⟩, f2⟩
  · obtain ⟨hi, o1⟩ := hq
    simp only [List.mem_cons, List.not_mem_nil, or_false] at hi
    rcases hi with hi | hi | hi
    · subst hi
      refine Or.inr ⟨5, 17, rfl, (Nat.le_of_ble_eq_true rfl), ?_⟩
      refine mj_T.pl rfl rfl rfl rfl ?_
      exact mj_T.ret rfl rfl rfl ⟨1, rfl, ⟨n + 1, by omega, by omega, w.thr o1⟩, jLf.of o1⟩
    · subst hi
      refine Or.inr ⟨5, 21, rfl, (Nat.le_of_ble_eq_true rfl), ?_⟩
      refine mj_T.pl rfl rfl rfl rfl ?_
      exact mj_T.ret rfl rfl rfl ⟨2, rfl, ⟨n + 1, by omega, by omega, w.thr o1⟩, jLf.of o1⟩
    · subst hi
      refine Or.inr ⟨5, 25, rfl, (Nat.le_of_ble_eq_true rfl), ?_⟩
      refine mj_T.pl rfl rfl rfl rfl ?_
      exact mj_T.ret rfl rfl rfl ⟨3, rfl, ⟨n + 1, by omega, by omega, w.thr o1⟩, jLf.of o1⟩
-- PolyRegistersLaw.derive(LPolyRegisters;II[J)I
theorem jw_314 {D n p0 q : Nat} {tm : Int} {h : mj_H} {K L : Nat → Nat} {R : Nat → Nat → Nat} {p1 : Int} {p2 : Int} (ty : jTY K L R) (w : jLw K L R q n tm h) (kp0 : K p0 = 19) (rp1 : -2147483648 ≤ p1 ∧ p1 ≤ 2147483647) (rp2 : -2147483648 ≤ p2 ∧ p2 ≤ 2147483647) : mj_Ok (D + 6) 314 [.ref p0, .int (jn p1), .int (jn p2), .ref q] h (jWr K L R q n tm h) := by
  have hg : h.length ≤ n := Nat.le_of_eq w.1.1
  refine mj_Ok.of (M := mj_m314) (loc := [some (.ref p0), some (.int (jn p1)), some (.int (jn p2)), some (.ref q), none]) rfl rfl rfl ?_
  iterate 5 refine mj_T.pl rfl rfl rfl rfl ?_
  refine mj_T.call rfl rfl (Nat.le_of_ble_eq_true rfl) (Nat.le_of_ble_eq_true rfl) (jrv_of w.1 kp0 (by decide) rfl (by decide) rfl _) rfl (jc_106 (D := D) ty hg w.1 kp0 rp1 rp2) (fun v h1 hq => ?_) (fun i h1 hq => ?_)
  · obtain ⟨hv, o1⟩ := hq
    obtain ⟨z, _, _, rfl⟩ := hv
    refine mj_T.step rfl rfl rfl ?_
    refine jW.last w o1 rfl (fun h2 w2 f2 _ => ?_)
    iterate 2 refine mj_T.pl rfl rfl rfl rfl ?_
    exact mj_T.ret rfl rfl rfl ⟨0, rfl, ⟨n, by omega, by omega, w2⟩, f2⟩
  · obtain ⟨hi, o1⟩ := hq
    simp only [List.mem_cons, List.not_mem_nil, or_false] at hi
    rcases hi with hi | hi
    · subst hi
      refine Or.inr ⟨4, 15, rfl, (Nat.le_of_ble_eq_true rfl), ?_⟩
      refine mj_T.pl rfl rfl rfl rfl ?_
      exact mj_T.ret rfl rfl rfl ⟨1, rfl, ⟨n + 1, by omega, by omega, w.thr o1⟩, jLf.of o1⟩
    · subst hi
      refine Or.inr ⟨4, 19, rfl, (Nat.le_of_ble_eq_true rfl), ?_⟩
      refine mj_T.pl rfl rfl rfl rfl ?_
      exact mj_T.ret rfl rfl rfl ⟨2, rfl, ⟨n + 1, by omega, by omega, w.thr o1⟩, jLf.of o1⟩
-- PolyRegistersLaw.substitute(LPolyRegisters;III[J)I
theorem jw_315 {D n p0 q : Nat} {tm : Int} {h : mj_H} {K L : Nat → Nat} {R : Nat → Nat → Nat} {p1 : Int} {p2 : Int} {p3 : Int} (ty : jTY K L R) (w : jLw K L R q n tm h) (kp0 : K p0 = 19) (rp1 : -2147483648 ≤ p1 ∧ p1 ≤ 2147483647) (rp2 : -2147483648 ≤ p2 ∧ p2 ≤ 2147483647) (rp3 : -2147483648 ≤ p3 ∧ p3 ≤ 2147483647) : mj_Ok (D + 6) 315 [.ref p0, .int (jn p1), .int (jn p2), .int (jn p3), .ref q] h (jWr K L R q n tm h) := by
  have hg : h.length ≤ n := Nat.le_of_eq w.1.1
  refine mj_Ok.of (M := mj_m315) (loc := [some (.ref p0), some (.int (jn p1)), some (.int (jn p2)), some (.int (jn p3)), some (.ref q), none]) rfl rfl rfl ?_
  iterate 6 refine mj_T.pl rfl rfl rfl rfl ?_
  refine mj_T.call rfl rfl (Nat.le_of_ble_eq_true rfl) (Nat.le_of_ble_eq_true rfl) (jrv_of w.1 kp0 (by decide) rfl (by decide) rfl _) rfl (jc_107 (D := D) ty hg w.1 kp0 rp1 rp2 rp3) (fun v h1 hq => ?_) (fun i h1 hq => ?_)
  · obtain ⟨hv, o1⟩ := hq
    obtain ⟨z, _, _, rfl⟩ := hv
    refine mj_T.step rfl rfl rfl ?_
    refine jW.last w o1 rfl (fun h2 w2 f2 _ => ?_)
    iterate 2 refine mj_T.pl rfl rfl rfl rfl ?_
    exact mj_T.ret rfl rfl rfl ⟨0, rfl, ⟨n, by omega, by omega, w2⟩, f2⟩
  · obtain ⟨hi, o1⟩ := hq
    simp only [List.mem_cons, List.not_mem_nil, or_false] at hi
    rcases hi with hi | hi
    · subst hi
      refine Or.inr ⟨5, 17, rfl, (Nat.le_of_ble_eq_true rfl), ?_⟩
      refine mj_T.pl rfl rfl rfl rfl ?_
      exact mj_T.ret rfl rfl rfl ⟨1, rfl, ⟨n + 1, by omega, by omega, w.thr o1⟩, jLf.of o1⟩
    · subst hi
      refine Or.inr ⟨5, 21, rfl, (Nat.le_of_ble_eq_true rfl), ?_⟩
      refine mj_T.pl rfl rfl rfl rfl ?_
      exact mj_T.ret rfl rfl rfl ⟨2, rfl, ⟨n + 1, by omega, by omega, w.thr o1⟩, jLf.of o1⟩
-- PolyRegistersLaw.divide(LPolyRegisters;IIII[J)I
theorem jw_316 {D n p0 q : Nat} {tm : Int} {h : mj_H} {K L : Nat → Nat} {R : Nat → Nat → Nat} {p1 : Int} {p2 : Int} {p3 : Int} {p4 : Int} (ty : jTY K L R) (w : jLw K L R q n tm h) (kp0 : K p0 = 19) (rp1 : -2147483648 ≤ p1 ∧ p1 ≤ 2147483647) (rp2 : -2147483648 ≤ p2 ∧ p2 ≤ 2147483647) (rp3 : -2147483648 ≤ p3 ∧ p3 ≤ 2147483647) (rp4 : -2147483648 ≤ p4 ∧ p4 ≤ 2147483647) : mj_Ok (D + 6) 316 [.ref p0, .int (jn p1), .int (jn p2), .int (jn p3), .int (jn p4), .ref q] h (jWr K L R q n tm h) := by
  have hg : h.length ≤ n := Nat.le_of_eq w.1.1
  refine mj_Ok.of (M := mj_m316) (loc := [some (.ref p0), some (.int (jn p1)), some (.int (jn p2)), some (.int (jn p3)), some (.int (jn p4)), some (.ref q), none]) rfl rfl rfl ?_
  iterate 7 refine mj_T.pl rfl rfl rfl rfl ?_
  refine mj_T.call rfl rfl (Nat.le_of_ble_eq_true rfl) (Nat.le_of_ble_eq_true rfl) (jrv_of w.1 kp0 (by decide) rfl (by decide) rfl _) rfl (jc_108 (D := D) ty hg w.1 kp0 rp1 rp2 rp3 rp4) (fun v h1 hq => ?_) (fun i h1 hq => ?_)
  · obtain ⟨hv, o1⟩ := hq
    obtain ⟨z, _, _, rfl⟩ := hv
    refine mj_T.step rfl rfl rfl ?_
    refine jW.last w o1 rfl (fun h2 w2 f2 _ => ?_)
    iterate 2 refine mj_T.pl rfl rfl rfl rfl ?_
    exact mj_T.ret rfl rfl rfl ⟨0, rfl, ⟨n, by omega, by omega, w2⟩, f2⟩
  · obtain ⟨hi, o1⟩ := hq
    simp only [List.mem_cons, List.not_mem_nil, or_false] at hi
    rcases hi with hi | hi | hi | hi
    · subst hi
      refine Or.inr ⟨6, 19, rfl, (Nat.le_of_ble_eq_true rfl), ?_⟩
      refine mj_T.pl rfl rfl rfl rfl ?_
      exact mj_T.ret rfl rfl rfl ⟨1, rfl, ⟨n + 1, by omega, by omega, w.thr o1⟩, jLf.of o1⟩
    · subst hi
      refine Or.inr ⟨6, 23, rfl, (Nat.le_of_ble_eq_true rfl), ?_⟩
      refine mj_T.pl rfl rfl rfl rfl ?_
      exact mj_T.ret rfl rfl rfl ⟨2, rfl, ⟨n + 1, by omega, by omega, w.thr o1⟩, jLf.of o1⟩
    · subst hi
      refine Or.inr ⟨6, 27, rfl, (Nat.le_of_ble_eq_true rfl), ?_⟩
      refine mj_T.pl rfl rfl rfl rfl ?_
      exact mj_T.ret rfl rfl rfl ⟨3, rfl, ⟨n + 1, by omega, by omega, w.thr o1⟩, jLf.of o1⟩
    · subst hi
      refine Or.inr ⟨6, 31, rfl, (Nat.le_of_ble_eq_true rfl), ?_⟩
      refine mj_T.pl rfl rfl rfl rfl ?_
      exact mj_T.ret rfl rfl rfl ⟨4, rfl, ⟨n + 1, by omega, by omega, w.thr o1⟩, jLf.of o1⟩
-- PolyRegistersLaw.gcd(LPolyRegisters;III[J)I
theorem jw_317 {D n p0 q : Nat} {tm : Int} {h : mj_H} {K L : Nat → Nat} {R : Nat → Nat → Nat} {p1 : Int} {p2 : Int} {p3 : Int} (ty : jTY K L R) (w : jLw K L R q n tm h) (kp0 : K p0 = 19) (rp1 : -2147483648 ≤ p1 ∧ p1 ≤ 2147483647) (rp2 : -2147483648 ≤ p2 ∧ p2 ≤ 2147483647) (rp3 : -2147483648 ≤ p3 ∧ p3 ≤ 2147483647) : mj_Ok (D + 8) 317 [.ref p0, .int (jn p1), .int (jn p2), .int (jn p3), .ref q] h (jWr K L R q n tm h) := by
  have hg : h.length ≤ n := Nat.le_of_eq w.1.1
  refine mj_Ok.of (M := mj_m317) (loc := [some (.ref p0), some (.int (jn p1)), some (.int (jn p2)), some (.int (jn p3)), some (.ref q), none]) rfl rfl rfl ?_
  iterate 6 refine mj_T.pl rfl rfl rfl rfl ?_
  refine mj_T.call rfl rfl (Nat.le_of_ble_eq_true rfl) (Nat.le_of_ble_eq_true rfl) (jrv_of w.1 kp0 (by decide) rfl (by decide) rfl _) rfl (jc_109 (D := D) ty hg w.1 kp0 rp1 rp2 rp3) (fun v h1 hq => ?_) (fun i h1 hq => ?_)
  · obtain ⟨hv, o1⟩ := hq
    obtain ⟨z, _, _, rfl⟩ := hv
    refine mj_T.step rfl rfl rfl ?_
    refine jW.last w o1 rfl (fun h2 w2 f2 _ => ?_)
    iterate 2 refine mj_T.pl rfl rfl rfl rfl ?_
    exact mj_T.ret rfl rfl rfl ⟨0, rfl, ⟨n, by omega, by omega, w2⟩, f2⟩
  · obtain ⟨hi, o1⟩ := hq
    simp only [List.mem_cons, List.not_mem_nil, or_false] at hi
    rcases hi with hi | hi
    · subst hi
      refine Or.inr ⟨5, 17, rfl, (Nat.le_of_ble_eq_true rfl), ?_⟩
      refine mj_T.pl rfl rfl rfl rfl ?_
      exact mj_T.ret rfl rfl rfl ⟨1, rfl, ⟨n + 1, by omega, by omega, w.thr o1⟩, jLf.of o1⟩
    · subst hi
      refine Or.inr ⟨5, 21, rfl, (Nat.le_of_ble_eq_true rfl), ?_⟩
      refine mj_T.pl rfl rfl rfl rfl ?_
      exact mj_T.ret rfl rfl rfl ⟨2, rfl, ⟨n + 1, by omega, by omega, w.thr o1⟩, jLf.of o1⟩
-- PolyRegistersLaw.primitive(LPolyRegisters;II[J)I
theorem jw_318 {D n p0 q : Nat} {tm : Int} {h : mj_H} {K L : Nat → Nat} {R : Nat → Nat → Nat} {p1 : Int} {p2 : Int} (ty : jTY K L R) (w : jLw K L R q n tm h) (kp0 : K p0 = 19) (rp1 : -2147483648 ≤ p1 ∧ p1 ≤ 2147483647) (rp2 : -2147483648 ≤ p2 ∧ p2 ≤ 2147483647) : mj_Ok (D + 6) 318 [.ref p0, .int (jn p1), .int (jn p2), .ref q] h (jWr K L R q n tm h) := by
  have hg : h.length ≤ n := Nat.le_of_eq w.1.1
  refine mj_Ok.of (M := mj_m318) (loc := [some (.ref p0), some (.int (jn p1)), some (.int (jn p2)), some (.ref q), none]) rfl rfl rfl ?_
  iterate 5 refine mj_T.pl rfl rfl rfl rfl ?_
  refine mj_T.call rfl rfl (Nat.le_of_ble_eq_true rfl) (Nat.le_of_ble_eq_true rfl) (jrv_of w.1 kp0 (by decide) rfl (by decide) rfl _) rfl (jc_110 (D := D) ty hg w.1 kp0 rp1 rp2) (fun v h1 hq => ?_) (fun i h1 hq => ?_)
  · obtain ⟨hv, o1⟩ := hq
    obtain ⟨z, _, _, rfl⟩ := hv
    refine mj_T.step rfl rfl rfl ?_
    refine jW.last w o1 rfl (fun h2 w2 f2 _ => ?_)
    iterate 2 refine mj_T.pl rfl rfl rfl rfl ?_
    exact mj_T.ret rfl rfl rfl ⟨0, rfl, ⟨n, by omega, by omega, w2⟩, f2⟩
  · obtain ⟨hi, o1⟩ := hq
    simp only [List.mem_cons, List.not_mem_nil, or_false] at hi
    · subst hi
      refine Or.inr ⟨4, 15, rfl, (Nat.le_of_ble_eq_true rfl), ?_⟩
      refine mj_T.pl rfl rfl rfl rfl ?_
      exact mj_T.ret rfl rfl rfl ⟨1, rfl, ⟨n + 1, by omega, by omega, w.thr o1⟩, jLf.of o1⟩
-- PolyRegistersLaw.simple(LPolyRegisters;II[J)I
theorem jw_319 {D n p0 q : Nat} {tm : Int} {h : mj_H} {K L : Nat → Nat} {R : Nat → Nat → Nat} {p1 : Int} {p2 : Int} (ty : jTY K L R) (w : jLw K L R q n tm h) (kp0 : K p0 = 19) (rp1 : -2147483648 ≤ p1 ∧ p1 ≤ 2147483647) (rp2 : -2147483648 ≤ p2 ∧ p2 ≤ 2147483647) : mj_Ok (D + 8) 319 [.ref p0, .int (jn p1), .int (jn p2), .ref q] h (jWr K L R q n tm h) := by
  have hg : h.length ≤ n := Nat.le_of_eq w.1.1
  refine mj_Ok.of (M := mj_m319) (loc := [some (.ref p0), some (.int (jn p1)), some (.int (jn p2)), some (.ref q), none]) rfl rfl rfl ?_
  iterate 5 refine mj_T.pl rfl rfl rfl rfl ?_
  refine mj_T.call rfl rfl (Nat.le_of_ble_eq_true rfl) (Nat.le_of_ble_eq_true rfl) (jrv_of w.1 kp0 (by decide) rfl (by decide) rfl _) rfl (jc_111 (D := D) ty hg w.1 kp0 rp1 rp2) (fun v h1 hq => ?_) (fun i h1 hq => ?_)
  · obtain ⟨hv, o1⟩ := hq
    obtain ⟨z, _, _, rfl⟩ := hv
    refine mj_T.step rfl rfl rfl ?_
    refine jW.last w o1 rfl (fun h2 w2 f2 _ => ?_)
    iterate 2 refine mj_T.pl rfl rfl rfl rfl ?_
    exact mj_T.ret rfl rfl rfl ⟨0, rfl, ⟨n, by omega, by omega, w2⟩, f2⟩
  · obtain ⟨hi, o1⟩ := hq
    simp only [List.mem_cons, List.not_mem_nil, or_false] at hi
    rcases hi with hi | hi | hi
    · subst hi
      refine Or.inr ⟨4, 15, rfl, (Nat.le_of_ble_eq_true rfl), ?_⟩
      refine mj_T.pl rfl rfl rfl rfl ?_
      exact mj_T.ret rfl rfl rfl ⟨1, rfl, ⟨n + 1, by omega, by omega, w.thr o1⟩, jLf.of o1⟩
    · subst hi
      refine Or.inr ⟨4, 19, rfl, (Nat.le_of_ble_eq_true rfl), ?_⟩
      refine mj_T.pl rfl rfl rfl rfl ?_
      exact mj_T.ret rfl rfl rfl ⟨2, rfl, ⟨n + 1, by omega, by omega, w.thr o1⟩, jLf.of o1⟩
    · subst hi
      refine Or.inr ⟨4, 23, rfl, (Nat.le_of_ble_eq_true rfl), ?_⟩
      refine mj_T.pl rfl rfl rfl rfl ?_
      exact mj_T.ret rfl rfl rfl ⟨3, rfl, ⟨n + 1, by omega, by omega, w.thr o1⟩, jLf.of o1⟩
-- PolyRegistersLaw.residue(LPolyRegisters;III[J)I
theorem jw_320 {D n p0 q : Nat} {tm : Int} {h : mj_H} {K L : Nat → Nat} {R : Nat → Nat → Nat} {p1 : Int} {p2 : Int} {p3 : Int} (ty : jTY K L R) (w : jLw K L R q n tm h) (kp0 : K p0 = 19) (rp1 : -2147483648 ≤ p1 ∧ p1 ≤ 2147483647) (rp2 : -2147483648 ≤ p2 ∧ p2 ≤ 2147483647) (rp3 : -2147483648 ≤ p3 ∧ p3 ≤ 2147483647) : mj_Ok (D + 6) 320 [.ref p0, .int (jn p1), .int (jn p2), .int (jn p3), .ref q] h (jWr K L R q n tm h) := by
  have hg : h.length ≤ n := Nat.le_of_eq w.1.1
  refine mj_Ok.of (M := mj_m320) (loc := [some (.ref p0), some (.int (jn p1)), some (.int (jn p2)), some (.int (jn p3)), some (.ref q), none]) rfl rfl rfl ?_
  iterate 6 refine mj_T.pl rfl rfl rfl rfl ?_
  refine mj_T.call rfl rfl (Nat.le_of_ble_eq_true rfl) (Nat.le_of_ble_eq_true rfl) (jrv_of w.1 kp0 (by decide) rfl (by decide) rfl _) rfl (jc_112 (D := D) ty hg w.1 kp0 rp1 rp2 rp3) (fun v h1 hq => ?_) (fun i h1 hq => ?_)
  · obtain ⟨hv, o1⟩ := hq
    obtain ⟨z, _, _, rfl⟩ := hv
    refine mj_T.step rfl rfl rfl ?_
    refine jW.last w o1 rfl (fun h2 w2 f2 _ => ?_)
    iterate 2 refine mj_T.pl rfl rfl rfl rfl ?_
    exact mj_T.ret rfl rfl rfl ⟨0, rfl, ⟨n, by omega, by omega, w2⟩, f2⟩
  · obtain ⟨hi, o1⟩ := hq
    simp only [List.mem_cons, List.not_mem_nil, or_false] at hi
    rcases hi with hi | hi
    · subst hi
      refine Or.inr ⟨5, 17, rfl, (Nat.le_of_ble_eq_true rfl), ?_⟩
      refine mj_T.pl rfl rfl rfl rfl ?_
      exact mj_T.ret rfl rfl rfl ⟨1, rfl, ⟨n + 1, by omega, by omega, w.thr o1⟩, jLf.of o1⟩
    · subst hi
      refine Or.inr ⟨5, 21, rfl, (Nat.le_of_ble_eq_true rfl), ?_⟩
      refine mj_T.pl rfl rfl rfl rfl ?_
      exact mj_T.ret rfl rfl rfl ⟨2, rfl, ⟨n + 1, by omega, by omega, w.thr o1⟩, jLf.of o1⟩
-- PolyRegistersLaw.setTerm(LPolyRegisters;IIJ[J)I
theorem jw_321 {D n p0 q : Nat} {tm : Int} {h : mj_H} {K L : Nat → Nat} {R : Nat → Nat → Nat} {p1 : Int} {p2 : Int} {p3 : Int} (ty : jTY K L R) (w : jLw K L R q n tm h) (kp0 : K p0 = 19) (rp1 : -2147483648 ≤ p1 ∧ p1 ≤ 2147483647) (rp2 : -2147483648 ≤ p2 ∧ p2 ≤ 2147483647) (jp3 : jR p3) : mj_Ok (D + 6) 321 [.ref p0, .int (jn p1), .int (jn p2), .long (jl p3), .ref q] h (jWr K L R q n tm h) := by
  have hg : h.length ≤ n := Nat.le_of_eq w.1.1
  refine mj_Ok.of (M := mj_m321) (loc := [some (.ref p0), some (.int (jn p1)), some (.int (jn p2)), some (.long (jl p3)), none, some (.ref q), none]) rfl rfl rfl ?_
  iterate 6 refine mj_T.pl rfl rfl rfl rfl ?_
  refine mj_T.call rfl rfl (Nat.le_of_ble_eq_true rfl) (Nat.le_of_ble_eq_true rfl) (jrv_of w.1 kp0 (by decide) rfl (by decide) rfl _) rfl (jc_113 (D := D) ty hg w.1 kp0 rp1 rp2 jp3) (fun v h1 hq => ?_) (fun i h1 hq => ?_)
  · obtain ⟨hv, o1⟩ := hq
    obtain ⟨z, _, _, rfl⟩ := hv
    refine mj_T.step rfl rfl rfl ?_
    refine jW.last w o1 rfl (fun h2 w2 f2 _ => ?_)
    iterate 2 refine mj_T.pl rfl rfl rfl rfl ?_
    exact mj_T.ret rfl rfl rfl ⟨0, rfl, ⟨n, by omega, by omega, w2⟩, f2⟩
  · obtain ⟨hi, o1⟩ := hq
    simp only [List.mem_cons, List.not_mem_nil, or_false] at hi
    rcases hi with hi | hi | hi
    · subst hi
      refine Or.inr ⟨6, 17, rfl, (Nat.le_of_ble_eq_true rfl), ?_⟩
      refine mj_T.pl rfl rfl rfl rfl ?_
      exact mj_T.ret rfl rfl rfl ⟨1, rfl, ⟨n + 1, by omega, by omega, w.thr o1⟩, jLf.of o1⟩
    · subst hi
      refine Or.inr ⟨6, 21, rfl, (Nat.le_of_ble_eq_true rfl), ?_⟩
      refine mj_T.pl rfl rfl rfl rfl ?_
      exact mj_T.ret rfl rfl rfl ⟨2, rfl, ⟨n + 1, by omega, by omega, w.thr o1⟩, jLf.of o1⟩
    · subst hi
      refine Or.inr ⟨6, 25, rfl, (Nat.le_of_ble_eq_true rfl), ?_⟩
      refine mj_T.pl rfl rfl rfl rfl ?_
      exact mj_T.ret rfl rfl rfl ⟨3, rfl, ⟨n + 1, by omega, by omega, w.thr o1⟩, jLf.of o1⟩
-- PolyRegistersLaw.addPoint(LPolyRegisters;II[J)I
theorem jw_323 {D n p0 q : Nat} {tm : Int} {h : mj_H} {K L : Nat → Nat} {R : Nat → Nat → Nat} {p1 : Int} {p2 : Int} (ty : jTY K L R) (w : jLw K L R q n tm h) (kp0 : K p0 = 19) (rp1 : -2147483648 ≤ p1 ∧ p1 ≤ 2147483647) (rp2 : -2147483648 ≤ p2 ∧ p2 ≤ 2147483647) : mj_Ok (D + 5) 323 [.ref p0, .int (jn p1), .int (jn p2), .ref q] h (jWr K L R q n tm h) := by
  have hg : h.length ≤ n := Nat.le_of_eq w.1.1
  refine mj_Ok.of (M := mj_m323) (loc := [some (.ref p0), some (.int (jn p1)), some (.int (jn p2)), some (.ref q), none]) rfl rfl rfl ?_
  iterate 5 refine mj_T.pl rfl rfl rfl rfl ?_
  refine mj_T.call rfl rfl (Nat.le_of_ble_eq_true rfl) (Nat.le_of_ble_eq_true rfl) (jrv_of w.1 kp0 (by decide) rfl (by decide) rfl _) rfl (jc_115 (D := D) ty hg w.1 kp0 rp1 rp2) (fun v h1 hq => ?_) (fun i h1 hq => ?_)
  · obtain ⟨hv, o1⟩ := hq
    obtain ⟨z, _, _, rfl⟩ := hv
    refine mj_T.step rfl rfl rfl ?_
    refine jW.last w o1 rfl (fun h2 w2 f2 _ => ?_)
    iterate 2 refine mj_T.pl rfl rfl rfl rfl ?_
    exact mj_T.ret rfl rfl rfl ⟨0, rfl, ⟨n, by omega, by omega, w2⟩, f2⟩
  · obtain ⟨hi, o1⟩ := hq
    simp only [List.mem_cons, List.not_mem_nil, or_false] at hi
    rcases hi with hi | hi
    · subst hi
      refine Or.inr ⟨4, 15, rfl, (Nat.le_of_ble_eq_true rfl), ?_⟩
      refine mj_T.pl rfl rfl rfl rfl ?_
      exact mj_T.ret rfl rfl rfl ⟨1, rfl, ⟨n + 1, by omega, by omega, w.thr o1⟩, jLf.of o1⟩
    · subst hi
      refine Or.inr ⟨4, 19, rfl, (Nat.le_of_ble_eq_true rfl), ?_⟩
      refine mj_T.pl rfl rfl rfl rfl ?_
      exact mj_T.ret rfl rfl rfl ⟨2, rfl, ⟨n + 1, by omega, by omega, w.thr o1⟩, jLf.of o1⟩
-- PolyRegistersLaw.interpolate(LPolyRegisters;I[J)I
theorem jw_324 {D n p0 q : Nat} {tm : Int} {h : mj_H} {K L : Nat → Nat} {R : Nat → Nat → Nat} {p1 : Int} (ty : jTY K L R) (w : jLw K L R q n tm h) (kp0 : K p0 = 19) (rp1 : -2147483648 ≤ p1 ∧ p1 ≤ 2147483647) : mj_Ok (D + 6) 324 [.ref p0, .int (jn p1), .ref q] h (jWr K L R q n tm h) := by
  have hg : h.length ≤ n := Nat.le_of_eq w.1.1
  refine mj_Ok.of (M := mj_m324) (loc := [some (.ref p0), some (.int (jn p1)), some (.ref q), none]) rfl rfl rfl ?_
  iterate 4 refine mj_T.pl rfl rfl rfl rfl ?_
  refine mj_T.call rfl rfl (Nat.le_of_ble_eq_true rfl) (Nat.le_of_ble_eq_true rfl) (jrv_of w.1 kp0 (by decide) rfl (by decide) rfl _) rfl (jc_117 (D := D) ty hg w.1 kp0 rp1) (fun v h1 hq => ?_) (fun i h1 hq => ?_)
  · obtain ⟨hv, o1⟩ := hq
    obtain ⟨z, _, rfl⟩ := hv
    refine jW.last w o1 rfl (fun h2 w2 f2 _ => ?_)
    iterate 2 refine mj_T.pl rfl rfl rfl rfl ?_
    exact mj_T.ret rfl rfl rfl ⟨0, rfl, ⟨n, by omega, by omega, w2⟩, f2⟩
  · obtain ⟨hi, o1⟩ := hq
    simp only [List.mem_cons, List.not_mem_nil, or_false] at hi
    rcases hi with hi | hi
    · subst hi
      refine Or.inr ⟨3, 12, rfl, (Nat.le_of_ble_eq_true rfl), ?_⟩
      refine mj_T.pl rfl rfl rfl rfl ?_
      exact mj_T.ret rfl rfl rfl ⟨1, rfl, ⟨n + 1, by omega, by omega, w.thr o1⟩, jLf.of o1⟩
    · subst hi
      refine Or.inr ⟨3, 15, rfl, (Nat.le_of_ble_eq_true rfl), ?_⟩
      refine mj_T.pl rfl rfl rfl rfl ?_
      exact mj_T.ret rfl rfl rfl ⟨2, rfl, ⟨n + 1, by omega, by omega, w.thr o1⟩, jLf.of o1⟩
-- PolyRegistersLaw.degree(LPolyRegisters;I[J)I
theorem jw_325 {D n p0 q : Nat} {tm : Int} {h : mj_H} {K L : Nat → Nat} {R : Nat → Nat → Nat} {p1 : Int} (ty : jTY K L R) (w : jLw K L R q n tm h) (kp0 : K p0 = 19) (rp1 : -2147483648 ≤ p1 ∧ p1 ≤ 2147483647) : mj_Ok (D + 3) 325 [.ref p0, .int (jn p1), .ref q] h (jWr K L R q n tm h) := by
  have hg : h.length ≤ n := Nat.le_of_eq w.1.1
  refine mj_Ok.of (M := mj_m325) (loc := [some (.ref p0), some (.int (jn p1)), some (.ref q), none]) rfl rfl rfl ?_
  iterate 4 refine mj_T.pl rfl rfl rfl rfl ?_
  refine mj_T.call rfl rfl (Nat.le_of_ble_eq_true rfl) (Nat.le_of_ble_eq_true rfl) (jrv_of w.1 kp0 (by decide) rfl (by decide) rfl _) rfl (mj_Ok.to (jc_119 (D := D) ty hg w.1 kp0 rp1) (fun _ k => jQp.toQ w.1 k)) (fun v h1 hq => ?_) (fun i h1 hq => ?_)
  · obtain ⟨hv, o1⟩ := hq
    obtain ⟨z, _, _, rfl⟩ := hv
    refine mj_T.step rfl rfl rfl ?_
    refine jW.last w o1 rfl (fun h2 w2 f2 _ => ?_)
    iterate 2 refine mj_T.pl rfl rfl rfl rfl ?_
    exact mj_T.ret rfl rfl rfl ⟨0, rfl, ⟨n, by omega, by omega, w2⟩, f2⟩
  · obtain ⟨hi, o1⟩ := hq
    simp only [List.mem_cons, List.not_mem_nil, or_false] at hi
    · subst hi
      refine Or.inr ⟨3, 13, rfl, (Nat.le_of_ble_eq_true rfl), ?_⟩
      refine mj_T.pl rfl rfl rfl rfl ?_
      exact mj_T.ret rfl rfl rfl ⟨1, rfl, ⟨n + 1, by omega, by omega, w.thr o1⟩, jLf.of o1⟩
-- PolyRegistersLaw.terms(LPolyRegisters;I[J)I
theorem jw_326 {D n p0 q : Nat} {tm : Int} {h : mj_H} {K L : Nat → Nat} {R : Nat → Nat → Nat} {p1 : Int} (ty : jTY K L R) (w : jLw K L R q n tm h) (kp0 : K p0 = 19) (rp1 : -2147483648 ≤ p1 ∧ p1 ≤ 2147483647) : mj_Ok (D + 3) 326 [.ref p0, .int (jn p1), .ref q] h (jWr K L R q n tm h) := by
  have hg : h.length ≤ n := Nat.le_of_eq w.1.1
  refine mj_Ok.of (M := mj_m326) (loc := [some (.ref p0), some (.int (jn p1)), some (.ref q), none]) rfl rfl rfl ?_
  iterate 4 refine mj_T.pl rfl rfl rfl rfl ?_
  refine mj_T.call rfl rfl (Nat.le_of_ble_eq_true rfl) (Nat.le_of_ble_eq_true rfl) (jrv_of w.1 kp0 (by decide) rfl (by decide) rfl _) rfl (mj_Ok.to (jc_120 (D := D) ty hg w.1 kp0 rp1) (fun _ k => jQp.toQ w.1 k)) (fun v h1 hq => ?_) (fun i h1 hq => ?_)
  · obtain ⟨hv, o1⟩ := hq
    obtain ⟨z, _, _, rfl⟩ := hv
    refine mj_T.step rfl rfl rfl ?_
    refine jW.last w o1 rfl (fun h2 w2 f2 _ => ?_)
    iterate 2 refine mj_T.pl rfl rfl rfl rfl ?_
    exact mj_T.ret rfl rfl rfl ⟨0, rfl, ⟨n, by omega, by omega, w2⟩, f2⟩
  · obtain ⟨hi, o1⟩ := hq
    simp only [List.mem_cons, List.not_mem_nil, or_false] at hi
    · subst hi
      refine Or.inr ⟨3, 13, rfl, (Nat.le_of_ble_eq_true rfl), ?_⟩
      refine mj_T.pl rfl rfl rfl rfl ?_
      exact mj_T.ret rfl rfl rfl ⟨1, rfl, ⟨n + 1, by omega, by omega, w.thr o1⟩, jLf.of o1⟩
-- PolyRegistersLaw.exponent(LPolyRegisters;II[J)I
theorem jw_327 {D n p0 q : Nat} {tm : Int} {h : mj_H} {K L : Nat → Nat} {R : Nat → Nat → Nat} {p1 : Int} {p2 : Int} (ty : jTY K L R) (w : jLw K L R q n tm h) (kp0 : K p0 = 19) (rp1 : -2147483648 ≤ p1 ∧ p1 ≤ 2147483647) (rp2 : -2147483648 ≤ p2 ∧ p2 ≤ 2147483647) : mj_Ok (D + 3) 327 [.ref p0, .int (jn p1), .int (jn p2), .ref q] h (jWr K L R q n tm h) := by
  have hg : h.length ≤ n := Nat.le_of_eq w.1.1
  refine mj_Ok.of (M := mj_m327) (loc := [some (.ref p0), some (.int (jn p1)), some (.int (jn p2)), some (.ref q), none]) rfl rfl rfl ?_
  iterate 5 refine mj_T.pl rfl rfl rfl rfl ?_
  refine mj_T.call rfl rfl (Nat.le_of_ble_eq_true rfl) (Nat.le_of_ble_eq_true rfl) (jrv_of w.1 kp0 (by decide) rfl (by decide) rfl _) rfl (mj_Ok.to (jc_121 (D := D) ty hg w.1 kp0 rp1 rp2) (fun _ k => jQp.toQ w.1 k)) (fun v h1 hq => ?_) (fun i h1 hq => ?_)
  · obtain ⟨hv, o1⟩ := hq
    obtain ⟨z, _, _, rfl⟩ := hv
    refine mj_T.step rfl rfl rfl ?_
    refine jW.last w o1 rfl (fun h2 w2 f2 _ => ?_)
    iterate 2 refine mj_T.pl rfl rfl rfl rfl ?_
    exact mj_T.ret rfl rfl rfl ⟨0, rfl, ⟨n, by omega, by omega, w2⟩, f2⟩
  · obtain ⟨hi, o1⟩ := hq
    simp only [List.mem_cons, List.not_mem_nil, or_false] at hi
    · subst hi
      refine Or.inr ⟨4, 15, rfl, (Nat.le_of_ble_eq_true rfl), ?_⟩
      refine mj_T.pl rfl rfl rfl rfl ?_
      exact mj_T.ret rfl rfl rfl ⟨1, rfl, ⟨n + 1, by omega, by omega, w.thr o1⟩, jLf.of o1⟩
-- PolyRegistersLaw.coefficient(LPolyRegisters;II[J)I
theorem jw_328 {D n p0 q : Nat} {tm : Int} {h : mj_H} {K L : Nat → Nat} {R : Nat → Nat → Nat} {p1 : Int} {p2 : Int} (ty : jTY K L R) (w : jLw K L R q n tm h) (kp0 : K p0 = 19) (rp1 : -2147483648 ≤ p1 ∧ p1 ≤ 2147483647) (rp2 : -2147483648 ≤ p2 ∧ p2 ≤ 2147483647) : mj_Ok (D + 4) 328 [.ref p0, .int (jn p1), .int (jn p2), .ref q] h (jWr K L R q n tm h) := by
  have hg : h.length ≤ n := Nat.le_of_eq w.1.1
  refine mj_Ok.of (M := mj_m328) (loc := [some (.ref p0), some (.int (jn p1)), some (.int (jn p2)), some (.ref q), none]) rfl rfl rfl ?_
  iterate 5 refine mj_T.pl rfl rfl rfl rfl ?_
  refine mj_T.call rfl rfl (Nat.le_of_ble_eq_true rfl) (Nat.le_of_ble_eq_true rfl) (jrv_of w.1 kp0 (by decide) rfl (by decide) rfl _) rfl (jc_122 (D := D) ty hg w.1 kp0 rp1 rp2) (fun v h1 hq => ?_) (fun i h1 hq => ?_)
  · obtain ⟨hv, o1⟩ := hq
    obtain ⟨z, _, _, rfl⟩ := hv
    refine mj_T.step rfl rfl rfl ?_
    refine jW.last w o1 rfl (fun h2 w2 f2 _ => ?_)
    iterate 2 refine mj_T.pl rfl rfl rfl rfl ?_
    exact mj_T.ret rfl rfl rfl ⟨0, rfl, ⟨n, by omega, by omega, w2⟩, f2⟩
  · obtain ⟨hi, o1⟩ := hq
    simp only [List.mem_cons, List.not_mem_nil, or_false] at hi
    rcases hi with hi | hi
    · subst hi
      refine Or.inr ⟨4, 15, rfl, (Nat.le_of_ble_eq_true rfl), ?_⟩
      refine mj_T.pl rfl rfl rfl rfl ?_
      exact mj_T.ret rfl rfl rfl ⟨1, rfl, ⟨n + 1, by omega, by omega, w.thr o1⟩, jLf.of o1⟩
    · subst hi
      refine Or.inr ⟨4, 19, rfl, (Nat.le_of_ble_eq_true rfl), ?_⟩
      refine mj_T.pl rfl rfl rfl rfl ?_
      exact mj_T.ret rfl rfl rfl ⟨2, rfl, ⟨n + 1, by omega, by omega, w.thr o1⟩, jLf.of o1⟩
