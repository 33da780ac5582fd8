/-! The class by kinds: what others call. -/
-- PolyRegisters.add(III)I
theorem jc_102 {D n : Nat} {tm : Int} {h g : mj_H} {K L : Nat → Nat} {R : Nat → Nat → Nat} {p0 : Nat} {p1 : Int} {p2 : Int} {p3 : Int} (ty : jTY K L R) (hg : g.length ≤ n) (o : jO K L R g n tm h) (kp0 : K p0 = 19) (rp1 : -2147483648 ≤ p1 ∧ p1 ≤ 2147483647) (rp2 : -2147483648 ≤ p2 ∧ p2 ≤ 2147483647) (rp3 : -2147483648 ≤ p3 ∧ p3 ≤ 2147483647) : mj_Ok (D + 5) 102 [.ref p0, .int (jn p1), .int (jn p2), .int (jn p3)] h (jQ K L R g n tm [0, 1] (jVi (-2147483648) 2147483647)) := by
  refine mj_Ok.of (M := mj_m102) (loc := [some (.ref p0), some (.int (jn p1)), some (.int (jn p2)), some (.int (jn p3))]) rfl rfl rfl ?_
  iterate 2 refine mj_T.pl rfl rfl rfl rfl ?_
  refine jT.callp rfl rfl (Nat.le_of_ble_eq_true rfl) (Nat.le_of_ble_eq_true rfl) (jrv_of o kp0 (by decide) rfl (by decide) rfl _) rfl (mj_Ok.up (Nat.add_le_add_left (by decide) D) (jc_149 (D := D) ty hg o kp0 rp1)) rfl rfl (fun v1 qv1 => ?_)
  obtain ⟨a2, ka2, rfl⟩ := qv1
  refine mj_T.eq (pc2 := 5) (st2 := [.ref a2]) ?_ rfl rfl rfl rfl
  iterate 3 refine mj_T.pl rfl rfl rfl rfl ?_
  refine jT.callp rfl rfl (Nat.le_of_ble_eq_true rfl) (Nat.le_of_ble_eq_true rfl) (jrv_of o kp0 (by decide) rfl (by decide) rfl _) rfl (mj_Ok.up (Nat.add_le_add_left (by decide) D) (jc_149 (D := D) ty hg o kp0 rp2)) rfl rfl (fun v3 qv3 => ?_)
  obtain ⟨a4, ka4, rfl⟩ := qv3
  refine mj_T.eq (pc2 := 11) (st2 := [.ref a4]) ?_ rfl rfl rfl rfl
  iterate 2 refine mj_T.pl rfl rfl rfl rfl ?_
  refine jT.callp rfl rfl (Nat.le_of_ble_eq_true rfl) (Nat.le_of_ble_eq_true rfl) (jrv_of o kp0 (by decide) rfl (by decide) rfl _) rfl (mj_Ok.up (Nat.add_le_add_left (by decide) D) (jc_149 (D := D) ty hg o kp0 rp3)) rfl rfl (fun v5 qv5 => ?_)
  obtain ⟨a6, ka6, rfl⟩ := qv5
  refine mj_T.eq (pc2 := 16) (st2 := [.ref a6, .ref a4]) ?_ rfl rfl rfl rfl
  iterate 2 refine mj_T.pl rfl rfl rfl rfl ?_
  refine jT.getR 19 102 2 ty o rfl kp0 (by decide) rfl rfl rfl (fun k7 => ?_)
  refine jT.call rfl rfl (Nat.le_of_ble_eq_true rfl) (Nat.le_of_ble_eq_true rfl) rfl rfl (mj_Ok.up (Nat.add_le_add_left (by decide) D) (jc_167 (D := D) ty hg o ka4 ka6 ⟨by decide, by decide⟩ k7)) rfl rfl (fun v8 h9 qv8 oh9 => ?_)
  obtain ⟨z10, az10, bz10, rfl⟩ := qv8
  have rz10 : -2147483648 ≤ z10 ∧ z10 ≤ 2147483647 := ⟨by omega, by omega⟩
  refine mj_T.eq (pc2 := 24) (st2 := [.int (jn z10)]) ?_ rfl rfl rfl rfl
  refine jT.if0 rfl rz10 (fun c24 => ?_) (fun c24 => ?_)
  · have c24 := jne1 c24
    iterate 2 refine mj_T.pl rfl rfl rfl rfl ?_
    refine jT.call rfl rfl (Nat.le_of_ble_eq_true rfl) (Nat.le_of_ble_eq_true rfl) (jrv_of oh9 kp0 (by decide) rfl (by decide) rfl _) rfl (mj_Ok.up (Nat.add_le_add_left (by decide) D) (jc_154 (D := D) ty hg oh9 kp0 rp1)) rfl rfl (fun v11 h12 qv11 oh12 => ?_)
    obtain ⟨z13, az13, bz13, rfl⟩ := qv11
    have rz13 : -2147483648 ≤ z13 ∧ z13 ≤ 2147483647 := ⟨by omega, by omega⟩
    refine mj_T.eq (pc2 := 40) (st2 := [.int (jn z13)]) ?_ rfl rfl rfl rfl
    exact jT.ret oh12 rfl rfl rfl ⟨z13, by omega, by omega, rfl⟩
  · have c24 := jne2 c24
    exact jT.thr oh9 hg rfl rfl rfl (Nat.le_of_ble_eq_true rfl) rfl
-- PolyRegisters.subtract(III)I
theorem jc_103 {D n : Nat} {tm : Int} {h g : mj_H} {K L : Nat → Nat} {R : Nat → Nat → Nat} {p0 : Nat} {p1 : Int} {p2 : Int} {p3 : Int} (ty : jTY K L R) (hg : g.length ≤ n) (o : jO K L R g n tm h) (kp0 : K p0 = 19) (rp1 : -2147483648 ≤ p1 ∧ p1 ≤ 2147483647) (rp2 : -2147483648 ≤ p2 ∧ p2 ≤ 2147483647) (rp3 : -2147483648 ≤ p3 ∧ p3 ≤ 2147483647) : mj_Ok (D + 5) 103 [.ref p0, .int (jn p1), .int (jn p2), .int (jn p3)] h (jQ K L R g n tm [0, 1] (jVi (-2147483648) 2147483647)) := by
  refine mj_Ok.of (M := mj_m103) (loc := [some (.ref p0), some (.int (jn p1)), some (.int (jn p2)), some (.int (jn p3))]) rfl rfl rfl ?_
  iterate 2 refine mj_T.pl rfl rfl rfl rfl ?_
  refine jT.callp rfl rfl (Nat.le_of_ble_eq_true rfl) (Nat.le_of_ble_eq_true rfl) (jrv_of o kp0 (by decide) rfl (by decide) rfl _) rfl (mj_Ok.up (Nat.add_le_add_left (by decide) D) (jc_149 (D := D) ty hg o kp0 rp1)) rfl rfl (fun v1 qv1 => ?_)
  obtain ⟨a2, ka2, rfl⟩ := qv1
  refine mj_T.eq (pc2 := 5) (st2 := [.ref a2]) ?_ rfl rfl rfl rfl
  iterate 3 refine mj_T.pl rfl rfl rfl rfl ?_
  refine jT.callp rfl rfl (Nat.le_of_ble_eq_true rfl) (Nat.le_of_ble_eq_true rfl) (jrv_of o kp0 (by decide) rfl (by decide) rfl _) rfl (mj_Ok.up (Nat.add_le_add_left (by decide) D) (jc_149 (D := D) ty hg o kp0 rp2)) rfl rfl (fun v3 qv3 => ?_)
  obtain ⟨a4, ka4, rfl⟩ := qv3
  refine mj_T.eq (pc2 := 11) (st2 := [.ref a4]) ?_ rfl rfl rfl rfl
  iterate 2 refine mj_T.pl rfl rfl rfl rfl ?_
  refine jT.callp rfl rfl (Nat.le_of_ble_eq_true rfl) (Nat.le_of_ble_eq_true rfl) (jrv_of o kp0 (by decide) rfl (by decide) rfl _) rfl (mj_Ok.up (Nat.add_le_add_left (by decide) D) (jc_149 (D := D) ty hg o kp0 rp3)) rfl rfl (fun v5 qv5 => ?_)
  obtain ⟨a6, ka6, rfl⟩ := qv5
  refine mj_T.eq (pc2 := 16) (st2 := [.ref a6, .ref a4]) ?_ rfl rfl rfl rfl
  iterate 2 refine mj_T.pl rfl rfl rfl rfl ?_
  refine jT.getR 19 102 2 ty o rfl kp0 (by decide) rfl rfl rfl (fun k7 => ?_)
  refine jT.call rfl rfl (Nat.le_of_ble_eq_true rfl) (Nat.le_of_ble_eq_true rfl) rfl rfl (mj_Ok.up (Nat.add_le_add_left (by decide) D) (jc_167 (D := D) ty hg o ka4 ka6 ⟨by decide, by decide⟩ k7)) rfl rfl (fun v8 h9 qv8 oh9 => ?_)
  obtain ⟨z10, az10, bz10, rfl⟩ := qv8
  have rz10 : -2147483648 ≤ z10 ∧ z10 ≤ 2147483647 := ⟨by omega, by omega⟩
  refine mj_T.eq (pc2 := 24) (st2 := [.int (jn z10)]) ?_ rfl rfl rfl rfl
  refine jT.if0 rfl rz10 (fun c24 => ?_) (fun c24 => ?_)
  · have c24 := jne1 c24
    iterate 2 refine mj_T.pl rfl rfl rfl rfl ?_
    refine jT.call rfl rfl (Nat.le_of_ble_eq_true rfl) (Nat.le_of_ble_eq_true rfl) (jrv_of oh9 kp0 (by decide) rfl (by decide) rfl _) rfl (mj_Ok.up (Nat.add_le_add_left (by decide) D) (jc_154 (D := D) ty hg oh9 kp0 rp1)) rfl rfl (fun v11 h12 qv11 oh12 => ?_)
    obtain ⟨z13, az13, bz13, rfl⟩ := qv11
    have rz13 : -2147483648 ≤ z13 ∧ z13 ≤ 2147483647 := ⟨by omega, by omega⟩
    refine mj_T.eq (pc2 := 40) (st2 := [.int (jn z13)]) ?_ rfl rfl rfl rfl
    exact jT.ret oh12 rfl rfl rfl ⟨z13, by omega, by omega, rfl⟩
  · have c24 := jne2 c24
    exact jT.thr oh9 hg rfl rfl rfl (Nat.le_of_ble_eq_true rfl) rfl
-- PolyRegisters.multiply(III)I
theorem jc_104 {D n : Nat} {tm : Int} {h g : mj_H} {K L : Nat → Nat} {R : Nat → Nat → Nat} {p0 : Nat} {p1 : Int} {p2 : Int} {p3 : Int} (ty : jTY K L R) (hg : g.length ≤ n) (o : jO K L R g n tm h) (kp0 : K p0 = 19) (rp1 : -2147483648 ≤ p1 ∧ p1 ≤ 2147483647) (rp2 : -2147483648 ≤ p2 ∧ p2 ≤ 2147483647) (rp3 : -2147483648 ≤ p3 ∧ p3 ≤ 2147483647) : mj_Ok (D + 5) 104 [.ref p0, .int (jn p1), .int (jn p2), .int (jn p3)] h (jQ K L R g n tm [0, 1] (jVi (-2147483648) 2147483647)) := by
  refine mj_Ok.of (M := mj_m104) (loc := [some (.ref p0), some (.int (jn p1)), some (.int (jn p2)), some (.int (jn p3))]) rfl rfl rfl ?_
  iterate 2 refine mj_T.pl rfl rfl rfl rfl ?_
  refine jT.callp rfl rfl (Nat.le_of_ble_eq_true rfl) (Nat.le_of_ble_eq_true rfl) (jrv_of o kp0 (by decide) rfl (by decide) rfl _) rfl (mj_Ok.up (Nat.add_le_add_left (by decide) D) (jc_149 (D := D) ty hg o kp0 rp1)) rfl rfl (fun v1 qv1 => ?_)
  obtain ⟨a2, ka2, rfl⟩ := qv1
  refine mj_T.eq (pc2 := 5) (st2 := [.ref a2]) ?_ rfl rfl rfl rfl
  iterate 2 refine mj_T.pl rfl rfl rfl rfl ?_
  refine jT.getR 19 111 11 ty o rfl kp0 (by decide) rfl rfl rfl (fun k3 => ?_)
  iterate 2 refine mj_T.pl rfl rfl rfl rfl ?_
  refine jT.callp rfl rfl (Nat.le_of_ble_eq_true rfl) (Nat.le_of_ble_eq_true rfl) (jrv_of o kp0 (by decide) rfl (by decide) rfl _) rfl (mj_Ok.up (Nat.add_le_add_left (by decide) D) (jc_149 (D := D) ty hg o kp0 rp2)) rfl rfl (fun v4 qv4 => ?_)
  obtain ⟨a5, ka5, rfl⟩ := qv4
  refine mj_T.eq (pc2 := 15) (st2 := [.ref a5, .ref (R p0 7)]) ?_ rfl rfl rfl rfl
  iterate 2 refine mj_T.pl rfl rfl rfl rfl ?_
  refine jT.callp rfl rfl (Nat.le_of_ble_eq_true rfl) (Nat.le_of_ble_eq_true rfl) (jrv_of o kp0 (by decide) rfl (by decide) rfl _) rfl (mj_Ok.up (Nat.add_le_add_left (by decide) D) (jc_149 (D := D) ty hg o kp0 rp3)) rfl rfl (fun v6 qv6 => ?_)
  obtain ⟨a7, ka7, rfl⟩ := qv6
  refine mj_T.eq (pc2 := 20) (st2 := [.ref a7, .ref a5, .ref (R p0 7)]) ?_ rfl rfl rfl rfl
  refine mj_T.pl rfl rfl rfl rfl ?_
  refine jT.getR 19 102 2 ty o rfl kp0 (by decide) rfl rfl rfl (fun k8 => ?_)
  refine jT.call rfl rfl (Nat.le_of_ble_eq_true rfl) (Nat.le_of_ble_eq_true rfl) (jrv_of o k3 (by decide) rfl (by decide) rfl _) rfl (mj_Ok.up (Nat.add_le_add_left (by decide) D) (jc_11 (D := D) ty hg o k3 ka5 ka7 k8)) rfl rfl (fun v9 h10 qv9 oh10 => ?_)
  obtain ⟨z11, az11, bz11, rfl⟩ := qv9
  have rz11 : -2147483648 ≤ z11 ∧ z11 ≤ 2147483647 := ⟨by omega, by omega⟩
  refine mj_T.eq (pc2 := 27) (st2 := [.int (jn z11)]) ?_ rfl rfl rfl rfl
  refine jT.if0 rfl rz11 (fun c27 => ?_) (fun c27 => ?_)
  · have c27 := jne1 c27
    iterate 2 refine mj_T.pl rfl rfl rfl rfl ?_
    refine jT.call rfl rfl (Nat.le_of_ble_eq_true rfl) (Nat.le_of_ble_eq_true rfl) (jrv_of oh10 kp0 (by decide) rfl (by decide) rfl _) rfl (mj_Ok.up (Nat.add_le_add_left (by decide) D) (jc_154 (D := D) ty hg oh10 kp0 rp1)) rfl rfl (fun v12 h13 qv12 oh13 => ?_)
    obtain ⟨z14, az14, bz14, rfl⟩ := qv12
    have rz14 : -2147483648 ≤ z14 ∧ z14 ≤ 2147483647 := ⟨by omega, by omega⟩
    refine mj_T.eq (pc2 := 43) (st2 := [.int (jn z14)]) ?_ rfl rfl rfl rfl
    exact jT.ret oh13 rfl rfl rfl ⟨z14, by omega, by omega, rfl⟩
  · have c27 := jne2 c27
    exact jT.thr oh10 hg rfl rfl rfl (Nat.le_of_ble_eq_true rfl) rfl
-- PolyRegisters.power(III)I
theorem jc_105 {D n : Nat} {tm : Int} {h g : mj_H} {K L : Nat → Nat} {R : Nat → Nat → Nat} {p0 : Nat} {p1 : Int} {p2 : Int} {p3 : Int} (ty : jTY K L R) (hg : g.length ≤ n) (o : jO K L R g n tm h) (kp0 : K p0 = 19) (rp1 : -2147483648 ≤ p1 ∧ p1 ≤ 2147483647) (rp2 : -2147483648 ≤ p2 ∧ p2 ≤ 2147483647) (rp3 : -2147483648 ≤ p3 ∧ p3 ≤ 2147483647) : mj_Ok (D + 5) 105 [.ref p0, .int (jn p1), .int (jn p2), .int (jn p3)] h (jQ K L R g n tm [0, 2, 1] (jVi (-2147483648) 2147483647)) := by
  refine mj_Ok.of (M := mj_m105) (loc := [some (.ref p0), some (.int (jn p1)), some (.int (jn p2)), some (.int (jn p3)), none]) rfl rfl rfl ?_
  iterate 2 refine mj_T.pl rfl rfl rfl rfl ?_
  refine jT.callp rfl rfl (Nat.le_of_ble_eq_true rfl) (Nat.le_of_ble_eq_true rfl) (jrv_of o kp0 (by decide) rfl (by decide) rfl _) rfl (mj_Ok.up (Nat.add_le_add_left (by decide) D) (jc_149 (D := D) ty hg o kp0 rp1)) rfl rfl (fun v1 qv1 => ?_)
  obtain ⟨a2, ka2, rfl⟩ := qv1
  refine mj_T.eq (pc2 := 5) (st2 := [.ref a2]) ?_ rfl rfl rfl rfl
  iterate 3 refine mj_T.pl rfl rfl rfl rfl ?_
  refine jT.callp rfl rfl (Nat.le_of_ble_eq_true rfl) (Nat.le_of_ble_eq_true rfl) (jrv_of o kp0 (by decide) rfl (by decide) rfl _) rfl (mj_Ok.up (Nat.add_le_add_left (by decide) D) (jc_149 (D := D) ty hg o kp0 rp2)) rfl rfl (fun v3 qv3 => ?_)
  obtain ⟨a4, ka4, rfl⟩ := qv3
  refine mj_T.eq (pc2 := 11) (st2 := [.ref a4]) ?_ rfl rfl rfl rfl
  refine mj_T.pl (loc' := [some (.ref p0), some (.int (jn p1)), some (.int (jn p2)), some (.int (jn p3)), some (.ref a4)]) rfl rfl rfl rfl ?_
  refine mj_T.pl rfl rfl rfl rfl ?_
  refine jT.callp rfl rfl (Nat.le_of_ble_eq_true rfl) (Nat.le_of_ble_eq_true rfl) rfl rfl (mj_Ok.up (Nat.add_le_add_left (by decide) D) (jc_150 (D := D) ty hg o rp3)) rfl rfl (fun v5 qv5 => ?_)
  obtain ⟨rfl, fv5⟩ := qv5
  refine mj_T.eq (pc2 := 17) (st2 := []) ?_ rfl rfl rfl rfl
  refine mj_T.pl rfl rfl rfl rfl ?_
  refine jT.getR 19 111 11 ty o rfl kp0 (by decide) rfl rfl rfl (fun k6 => ?_)
  iterate 3 refine mj_T.pl rfl rfl rfl rfl ?_
  refine jT.getR 19 102 2 ty o rfl kp0 (by decide) rfl rfl rfl (fun k7 => ?_)
  refine jT.call rfl rfl (Nat.le_of_ble_eq_true rfl) (Nat.le_of_ble_eq_true rfl) (jrv_of o k6 (by decide) rfl (by decide) rfl _) rfl (mj_Ok.up (Nat.add_le_add_left (by decide) D) (jc_12 (D := D) ty hg o k6 ka4 rp3 k7)) rfl rfl (fun v8 h9 qv8 oh9 => ?_)
  obtain ⟨z10, az10, bz10, rfl⟩ := qv8
  have rz10 : -2147483648 ≤ z10 ∧ z10 ≤ 2147483647 := ⟨by omega, by omega⟩
  refine mj_T.eq (pc2 := 31) (st2 := [.int (jn z10)]) ?_ rfl rfl rfl rfl
  refine jT.if0 rfl rz10 (fun c31 => ?_) (fun c31 => ?_)
  · have c31 := jne1 c31
    iterate 2 refine mj_T.pl rfl rfl rfl rfl ?_
    refine jT.call rfl rfl (Nat.le_of_ble_eq_true rfl) (Nat.le_of_ble_eq_true rfl) (jrv_of oh9 kp0 (by decide) rfl (by decide) rfl _) rfl (mj_Ok.up (Nat.add_le_add_left (by decide) D) (jc_154 (D := D) ty hg oh9 kp0 rp1)) rfl rfl (fun v11 h12 qv11 oh12 => ?_)
    obtain ⟨z13, az13, bz13, rfl⟩ := qv11
    have rz13 : -2147483648 ≤ z13 ∧ z13 ≤ 2147483647 := ⟨by omega, by omega⟩
    refine mj_T.eq (pc2 := 47) (st2 := [.int (jn z13)]) ?_ rfl rfl rfl rfl
    exact jT.ret oh12 rfl rfl rfl ⟨z13, by omega, by omega, rfl⟩
  · have c31 := jne2 c31
    exact jT.thr oh9 hg rfl rfl rfl (Nat.le_of_ble_eq_true rfl) rfl
-- PolyRegisters.derive(II)I
theorem jc_106 {D n : Nat} {tm : Int} {h g : mj_H} {K L : Nat → Nat} {R : Nat → Nat → Nat} {p0 : Nat} {p1 : Int} {p2 : Int} (ty : jTY K L R) (hg : g.length ≤ n) (o : jO K L R g n tm h) (kp0 : K p0 = 19) (rp1 : -2147483648 ≤ p1 ∧ p1 ≤ 2147483647) (rp2 : -2147483648 ≤ p2 ∧ p2 ≤ 2147483647) : mj_Ok (D + 5) 106 [.ref p0, .int (jn p1), .int (jn p2)] h (jQ K L R g n tm [0, 1] (jVi (-2147483648) 2147483647)) := by
  refine mj_Ok.of (M := mj_m106) (loc := [some (.ref p0), some (.int (jn p1)), some (.int (jn p2))]) rfl rfl rfl ?_
  iterate 2 refine mj_T.pl rfl rfl rfl rfl ?_
  refine jT.callp rfl rfl (Nat.le_of_ble_eq_true rfl) (Nat.le_of_ble_eq_true rfl) (jrv_of o kp0 (by decide) rfl (by decide) rfl _) rfl (mj_Ok.up (Nat.add_le_add_left (by decide) D) (jc_149 (D := D) ty hg o kp0 rp1)) rfl rfl (fun v1 qv1 => ?_)
  obtain ⟨a2, ka2, rfl⟩ := qv1
  refine mj_T.eq (pc2 := 5) (st2 := [.ref a2]) ?_ rfl rfl rfl rfl
  iterate 3 refine mj_T.pl rfl rfl rfl rfl ?_
  refine jT.callp rfl rfl (Nat.le_of_ble_eq_true rfl) (Nat.le_of_ble_eq_true rfl) (jrv_of o kp0 (by decide) rfl (by decide) rfl _) rfl (mj_Ok.up (Nat.add_le_add_left (by decide) D) (jc_149 (D := D) ty hg o kp0 rp2)) rfl rfl (fun v3 qv3 => ?_)
  obtain ⟨a4, ka4, rfl⟩ := qv3
  refine mj_T.eq (pc2 := 11) (st2 := [.ref a4]) ?_ rfl rfl rfl rfl
  refine mj_T.pl rfl rfl rfl rfl ?_
  refine jT.getR 19 102 2 ty o rfl kp0 (by decide) rfl rfl rfl (fun k5 => ?_)
  refine jT.call rfl rfl (Nat.le_of_ble_eq_true rfl) (Nat.le_of_ble_eq_true rfl) rfl rfl (mj_Ok.up (Nat.add_le_add_left (by decide) D) (jc_168 (D := D) ty hg o ka4 k5)) rfl rfl (fun v6 h7 qv6 oh7 => ?_)
  obtain ⟨z8, az8, bz8, rfl⟩ := qv6
  have rz8 : -2147483648 ≤ z8 ∧ z8 ≤ 2147483647 := ⟨by omega, by omega⟩
  refine mj_T.eq (pc2 := 18) (st2 := [.int (jn z8)]) ?_ rfl rfl rfl rfl
  refine jT.if0 rfl rz8 (fun c18 => ?_) (fun c18 => ?_)
  · have c18 := jne1 c18
    iterate 2 refine mj_T.pl rfl rfl rfl rfl ?_
    refine jT.call rfl rfl (Nat.le_of_ble_eq_true rfl) (Nat.le_of_ble_eq_true rfl) (jrv_of oh7 kp0 (by decide) rfl (by decide) rfl _) rfl (mj_Ok.up (Nat.add_le_add_left (by decide) D) (jc_154 (D := D) ty hg oh7 kp0 rp1)) rfl rfl (fun v9 h10 qv9 oh10 => ?_)
    obtain ⟨z11, az11, bz11, rfl⟩ := qv9
    have rz11 : -2147483648 ≤ z11 ∧ z11 ≤ 2147483647 := ⟨by omega, by omega⟩
    refine mj_T.eq (pc2 := 34) (st2 := [.int (jn z11)]) ?_ rfl rfl rfl rfl
    exact jT.ret oh10 rfl rfl rfl ⟨z11, by omega, by omega, rfl⟩
  · have c18 := jne2 c18
    exact jT.thr oh7 hg rfl rfl rfl (Nat.le_of_ble_eq_true rfl) rfl
-- PolyRegisters.substitute(III)I
theorem jc_107 {D n : Nat} {tm : Int} {h g : mj_H} {K L : Nat → Nat} {R : Nat → Nat → Nat} {p0 : Nat} {p1 : Int} {p2 : Int} {p3 : Int} (ty : jTY K L R) (hg : g.length ≤ n) (o : jO K L R g n tm h) (kp0 : K p0 = 19) (rp1 : -2147483648 ≤ p1 ∧ p1 ≤ 2147483647) (rp2 : -2147483648 ≤ p2 ∧ p2 ≤ 2147483647) (rp3 : -2147483648 ≤ p3 ∧ p3 ≤ 2147483647) : mj_Ok (D + 5) 107 [.ref p0, .int (jn p1), .int (jn p2), .int (jn p3)] h (jQ K L R g n tm [0, 1] (jVi (-2147483648) 2147483647)) := by
  refine mj_Ok.of (M := mj_m107) (loc := [some (.ref p0), some (.int (jn p1)), some (.int (jn p2)), some (.int (jn p3))]) rfl rfl rfl ?_
  iterate 2 refine mj_T.pl rfl rfl rfl rfl ?_
  refine jT.callp rfl rfl (Nat.le_of_ble_eq_true rfl) (Nat.le_of_ble_eq_true rfl) (jrv_of o kp0 (by decide) rfl (by decide) rfl _) rfl (mj_Ok.up (Nat.add_le_add_left (by decide) D) (jc_149 (D := D) ty hg o kp0 rp1)) rfl rfl (fun v1 qv1 => ?_)
  obtain ⟨a2, ka2, rfl⟩ := qv1
  refine mj_T.eq (pc2 := 5) (st2 := [.ref a2]) ?_ rfl rfl rfl rfl
  iterate 2 refine mj_T.pl rfl rfl rfl rfl ?_
  refine jT.getR 19 111 11 ty o rfl kp0 (by decide) rfl rfl rfl (fun k3 => ?_)
  iterate 2 refine mj_T.pl rfl rfl rfl rfl ?_
  refine jT.callp rfl rfl (Nat.le_of_ble_eq_true rfl) (Nat.le_of_ble_eq_true rfl) (jrv_of o kp0 (by decide) rfl (by decide) rfl _) rfl (mj_Ok.up (Nat.add_le_add_left (by decide) D) (jc_149 (D := D) ty hg o kp0 rp2)) rfl rfl (fun v4 qv4 => ?_)
  obtain ⟨a5, ka5, rfl⟩ := qv4
  refine mj_T.eq (pc2 := 15) (st2 := [.ref a5, .ref (R p0 7)]) ?_ rfl rfl rfl rfl
  iterate 2 refine mj_T.pl rfl rfl rfl rfl ?_
  refine jT.callp rfl rfl (Nat.le_of_ble_eq_true rfl) (Nat.le_of_ble_eq_true rfl) (jrv_of o kp0 (by decide) rfl (by decide) rfl _) rfl (mj_Ok.up (Nat.add_le_add_left (by decide) D) (jc_149 (D := D) ty hg o kp0 rp3)) rfl rfl (fun v6 qv6 => ?_)
  obtain ⟨a7, ka7, rfl⟩ := qv6
  refine mj_T.eq (pc2 := 20) (st2 := [.ref a7, .ref a5, .ref (R p0 7)]) ?_ rfl rfl rfl rfl
  refine mj_T.pl rfl rfl rfl rfl ?_
  refine jT.getR 19 102 2 ty o rfl kp0 (by decide) rfl rfl rfl (fun k8 => ?_)
  refine jT.call rfl rfl (Nat.le_of_ble_eq_true rfl) (Nat.le_of_ble_eq_true rfl) (jrv_of o k3 (by decide) rfl (by decide) rfl _) rfl (mj_Ok.up (Nat.add_le_add_left (by decide) D) (jc_13 (D := D) ty hg o k3 ka5 ka7 k8)) rfl rfl (fun v9 h10 qv9 oh10 => ?_)
  obtain ⟨z11, az11, bz11, rfl⟩ := qv9
  have rz11 : -2147483648 ≤ z11 ∧ z11 ≤ 2147483647 := ⟨by omega, by omega⟩
  refine mj_T.eq (pc2 := 27) (st2 := [.int (jn z11)]) ?_ rfl rfl rfl rfl
  refine jT.if0 rfl rz11 (fun c27 => ?_) (fun c27 => ?_)
  · have c27 := jne1 c27
    iterate 2 refine mj_T.pl rfl rfl rfl rfl ?_
    refine jT.call rfl rfl (Nat.le_of_ble_eq_true rfl) (Nat.le_of_ble_eq_true rfl) (jrv_of oh10 kp0 (by decide) rfl (by decide) rfl _) rfl (mj_Ok.up (Nat.add_le_add_left (by decide) D) (jc_154 (D := D) ty hg oh10 kp0 rp1)) rfl rfl (fun v12 h13 qv12 oh13 => ?_)
    obtain ⟨z14, az14, bz14, rfl⟩ := qv12
    have rz14 : -2147483648 ≤ z14 ∧ z14 ≤ 2147483647 := ⟨by omega, by omega⟩
    refine mj_T.eq (pc2 := 43) (st2 := [.int (jn z14)]) ?_ rfl rfl rfl rfl
    exact jT.ret oh13 rfl rfl rfl ⟨z14, by omega, by omega, rfl⟩
  · have c27 := jne2 c27
    exact jT.thr oh10 hg rfl rfl rfl (Nat.le_of_ble_eq_true rfl) rfl
-- PolyRegisters.divide(IIII)I
theorem jc_108 {D n : Nat} {tm : Int} {h g : mj_H} {K L : Nat → Nat} {R : Nat → Nat → Nat} {p0 : Nat} {p1 : Int} {p2 : Int} {p3 : Int} {p4 : Int} (ty : jTY K L R) (hg : g.length ≤ n) (o : jO K L R g n tm h) (kp0 : K p0 = 19) (rp1 : -2147483648 ≤ p1 ∧ p1 ≤ 2147483647) (rp2 : -2147483648 ≤ p2 ∧ p2 ≤ 2147483647) (rp3 : -2147483648 ≤ p3 ∧ p3 ≤ 2147483647) (rp4 : -2147483648 ≤ p4 ∧ p4 ≤ 2147483647) : mj_Ok (D + 5) 108 [.ref p0, .int (jn p1), .int (jn p2), .int (jn p3), .int (jn p4)] h (jQ K L R g n tm [0, 2, 3, 1] (jVi (-2147483648) 2147483647)) := by
  refine mj_Ok.of (M := mj_m108) (loc := [some (.ref p0), some (.int (jn p1)), some (.int (jn p2)), some (.int (jn p3)), some (.int (jn p4)), none, none, none]) rfl rfl rfl ?_
  iterate 2 refine mj_T.pl rfl rfl rfl rfl ?_
  refine jT.callp rfl rfl (Nat.le_of_ble_eq_true rfl) (Nat.le_of_ble_eq_true rfl) (jrv_of o kp0 (by decide) rfl (by decide) rfl _) rfl (mj_Ok.up (Nat.add_le_add_left (by decide) D) (jc_149 (D := D) ty hg o kp0 rp1)) rfl rfl (fun v1 qv1 => ?_)
  obtain ⟨a2, ka2, rfl⟩ := qv1
  refine mj_T.eq (pc2 := 5) (st2 := [.ref a2]) ?_ rfl rfl rfl rfl
  iterate 3 refine mj_T.pl rfl rfl rfl rfl ?_
  refine jT.callp rfl rfl (Nat.le_of_ble_eq_true rfl) (Nat.le_of_ble_eq_true rfl) (jrv_of o kp0 (by decide) rfl (by decide) rfl _) rfl (mj_Ok.up (Nat.add_le_add_left (by decide) D) (jc_149 (D := D) ty hg o kp0 rp2)) rfl rfl (fun v3 qv3 => ?_)
  obtain ⟨a4, ka4, rfl⟩ := qv3
  refine mj_T.eq (pc2 := 11) (st2 := [.ref a4]) ?_ rfl rfl rfl rfl
  iterate 3 refine mj_T.pl rfl rfl rfl rfl ?_
  refine jT.callp rfl rfl (Nat.le_of_ble_eq_true rfl) (Nat.le_of_ble_eq_true rfl) (jrv_of o kp0 (by decide) rfl (by decide) rfl _) rfl (mj_Ok.up (Nat.add_le_add_left (by decide) D) (jc_149 (D := D) ty hg o kp0 rp3)) rfl rfl (fun v5 qv5 => ?_)
  obtain ⟨a6, ka6, rfl⟩ := qv5
  refine mj_T.eq (pc2 := 17) (st2 := [.ref a6]) ?_ rfl rfl rfl rfl
  refine mj_T.pl (loc' := [some (.ref p0), some (.int (jn p1)), some (.int (jn p2)), some (.int (jn p3)), some (.int (jn p4)), some (.ref a6), none, none]) rfl rfl rfl rfl ?_
  iterate 2 refine mj_T.pl rfl rfl rfl rfl ?_
  refine jT.callp rfl rfl (Nat.le_of_ble_eq_true rfl) (Nat.le_of_ble_eq_true rfl) (jrv_of o kp0 (by decide) rfl (by decide) rfl _) rfl (mj_Ok.up (Nat.add_le_add_left (by decide) D) (jc_149 (D := D) ty hg o kp0 rp4)) rfl rfl (fun v7 qv7 => ?_)
  obtain ⟨a8, ka8, rfl⟩ := qv7
  refine mj_T.eq (pc2 := 25) (st2 := [.ref a8]) ?_ rfl rfl rfl rfl
  refine mj_T.pl (loc' := [some (.ref p0), some (.int (jn p1)), some (.int (jn p2)), some (.int (jn p3)), some (.int (jn p4)), some (.ref a6), some (.ref a8), none]) rfl rfl rfl rfl ?_
  iterate 2 refine mj_T.pl rfl rfl rfl rfl ?_
  refine jT.icmp rfl rp1 rp2 (fun c29 => ?_) (fun c29 => ?_)
  · have c29 := jne1 c29
    refine mj_T.pl rfl rfl rfl rfl ?_
    refine jT.callp rfl rfl (Nat.le_of_ble_eq_true rfl) (Nat.le_of_ble_eq_true rfl) rfl rfl (mj_Ok.up (Nat.add_le_add_left (by decide) D) (jc_153 (D := D) ty hg o ka8)) rfl rfl (fun v9 qv9 => ?_)
    obtain rfl : v9 = none := qv9
    refine mj_T.eq (pc2 := 45) (st2 := []) ?_ rfl rfl rfl rfl
    refine mj_T.pl rfl rfl rfl rfl ?_
    refine jT.callp rfl rfl (Nat.le_of_ble_eq_true rfl) (Nat.le_of_ble_eq_true rfl) rfl rfl (mj_Ok.up (Nat.add_le_add_left (by decide) D) (jc_162 (D := D) ty hg o ka6)) rfl rfl (fun v10 qv10 => ?_)
    obtain ⟨z11, az11, bz11, rfl⟩ := qv10
    have rz11 : -2147483648 ≤ z11 ∧ z11 ≤ 2147483647 := ⟨by omega, by omega⟩
    refine mj_T.eq (pc2 := 50) (st2 := [.int (jn z11)]) ?_ rfl rfl rfl rfl
    refine mj_T.pl rfl rfl rfl rfl ?_
    refine jT.callp rfl rfl (Nat.le_of_ble_eq_true rfl) (Nat.le_of_ble_eq_true rfl) rfl rfl (mj_Ok.up (Nat.add_le_add_left (by decide) D) (jc_162 (D := D) ty hg o ka8)) rfl rfl (fun v12 qv12 => ?_)
    obtain ⟨z13, az13, bz13, rfl⟩ := qv12
    have rz13 : -2147483648 ≤ z13 ∧ z13 ≤ 2147483647 := ⟨by omega, by omega⟩
    refine mj_T.eq (pc2 := 55) (st2 := [.int (jn z13), .int (jn z11)]) ?_ rfl rfl rfl rfl
    refine jT.isub rfl (fun z14 rz14 ez14 => ?_)
    replace ez14 := ez14 ⟨by omega, by omega⟩
    refine mj_T.pl rfl rfl rfl rfl ?_
    refine jT.iadd rfl (fun z15 rz15 ez15 => ?_)
    replace ez15 := ez15 ⟨by omega, by omega⟩
    refine mj_T.pl rfl rfl rfl rfl ?_
    refine jT.imax rfl rfl (Nat.le_of_ble_eq_true rfl) rz15 ⟨by decide, by decide⟩ (fun z16 ez16 => ?_)
    have rz16 : -2147483648 ≤ z16 ∧ z16 ≤ 2147483647 := ⟨by omega, by omega⟩
    refine mj_T.pl (loc' := [some (.ref p0), some (.int (jn p1)), some (.int (jn p2)), some (.int (jn p3)), some (.int (jn p4)), some (.ref a6), some (.ref a8), some (.int (jn z16))]) rfl rfl rfl rfl ?_
    refine mj_T.pl rfl rfl rfl rfl ?_
    refine jT.getR 19 111 11 ty o rfl kp0 (by decide) rfl rfl rfl (fun k17 => ?_)
    iterate 3 refine mj_T.pl rfl rfl rfl rfl ?_
    refine jT.getR 19 102 2 ty o rfl kp0 (by decide) rfl rfl rfl (fun k18 => ?_)
    refine mj_T.pl rfl rfl rfl rfl ?_
    refine jT.getR 19 102 2 ty o rfl kp0 (by decide) rfl rfl rfl (fun k19 => ?_)
    refine jT.call rfl rfl (Nat.le_of_ble_eq_true rfl) (Nat.le_of_ble_eq_true rfl) (jrv_of o k17 (by decide) rfl (by decide) rfl _) rfl (mj_Ok.up (Nat.add_le_add_left (by decide) D) (jc_16 (D := D) ty hg o k17 ka6 ka8 k18 k19)) rfl rfl (fun v20 h21 qv20 oh21 => ?_)
    obtain ⟨z22, az22, bz22, rfl⟩ := qv20
    have rz22 : -2147483648 ≤ z22 ∧ z22 ≤ 2147483647 := ⟨by omega, by omega⟩
    refine mj_T.eq (pc2 := 83) (st2 := [.int (jn z22)]) ?_ rfl rfl rfl rfl
    refine jT.if0 rfl rz22 (fun c83 => ?_) (fun c83 => ?_)
    · have c83 := jne1 c83
      iterate 2 refine mj_T.pl rfl rfl rfl rfl ?_
      refine jT.call rfl rfl (Nat.le_of_ble_eq_true rfl) (Nat.le_of_ble_eq_true rfl) (jrv_of oh21 kp0 (by decide) rfl (by decide) rfl _) rfl (mj_Ok.up (Nat.add_le_add_left (by decide) D) (jc_154 (D := D) ty hg oh21 kp0 rp1)) rfl rfl (fun v23 h24 qv23 oh24 => ?_)
      obtain ⟨z25, az25, bz25, rfl⟩ := qv23
      have rz25 : -2147483648 ≤ z25 ∧ z25 ≤ 2147483647 := ⟨by omega, by omega⟩
      refine mj_T.eq (pc2 := 99) (st2 := [.int (jn z25)]) ?_ rfl rfl rfl rfl
      iterate 2 refine mj_T.pl rfl rfl rfl rfl ?_
      refine jT.getR 19 102 2 ty oh24 rfl kp0 (by decide) rfl rfl rfl (fun k26 => ?_)
      iterate 2 refine mj_T.pl rfl rfl rfl rfl ?_
      refine jT.callp rfl rfl (Nat.le_of_ble_eq_true rfl) (Nat.le_of_ble_eq_true rfl) (jrv_of oh24 kp0 (by decide) rfl (by decide) rfl _) rfl (mj_Ok.up (Nat.add_le_add_left (by decide) D) (jc_149 (D := D) ty hg oh24 kp0 rp2)) rfl rfl (fun v27 qv27 => ?_)
      obtain ⟨a28, ka28, rfl⟩ := qv27
      refine mj_T.eq (pc2 := 109) (st2 := [.ref a28, .ref (R p0 14)]) ?_ rfl rfl rfl rfl
      refine jT.call rfl rfl (Nat.le_of_ble_eq_true rfl) (Nat.le_of_ble_eq_true rfl) rfl rfl (mj_Ok.up (Nat.add_le_add_left (by decide) D) (jc_164 (D := D) ty hg oh24 k26 ka28)) rfl rfl (fun v29 h30 qv29 oh30 => ?_)
      obtain rfl : v29 = none := qv29
      refine mj_T.eq (pc2 := 112) (st2 := []) ?_ rfl rfl rfl rfl
      refine mj_T.pl rfl rfl rfl rfl ?_
      exact jT.ret oh30 rfl rfl rfl ⟨z16, by omega, by omega, rfl⟩
    · have c83 := jne2 c83
      exact jT.thr oh21 hg rfl rfl rfl (Nat.le_of_ble_eq_true rfl) rfl
  · have c29 := jne2 c29
    exact jT.thr o hg rfl rfl rfl (Nat.le_of_ble_eq_true rfl) rfl
-- PolyRegisters.gcd(III)I
theorem jc_109 {D n : Nat} {tm : Int} {h g : mj_H} {K L : Nat → Nat} {R : Nat → Nat → Nat} {p0 : Nat} {p1 : Int} {p2 : Int} {p3 : Int} (ty : jTY K L R) (hg : g.length ≤ n) (o : jO K L R g n tm h) (kp0 : K p0 = 19) (rp1 : -2147483648 ≤ p1 ∧ p1 ≤ 2147483647) (rp2 : -2147483648 ≤ p2 ∧ p2 ≤ 2147483647) (rp3 : -2147483648 ≤ p3 ∧ p3 ≤ 2147483647) : mj_Ok (D + 7) 109 [.ref p0, .int (jn p1), .int (jn p2), .int (jn p3)] h (jQ K L R g n tm [0, 1] (jVi (-2147483648) 2147483647)) := by
  refine mj_Ok.of (M := mj_m109) (loc := [some (.ref p0), some (.int (jn p1)), some (.int (jn p2)), some (.int (jn p3))]) rfl rfl rfl ?_
  iterate 2 refine mj_T.pl rfl rfl rfl rfl ?_
  refine jT.callp rfl rfl (Nat.le_of_ble_eq_true rfl) (Nat.le_of_ble_eq_true rfl) (jrv_of o kp0 (by decide) rfl (by decide) rfl _) rfl (mj_Ok.up (Nat.add_le_add_left (by decide) D) (jc_149 (D := D) ty hg o kp0 rp1)) rfl rfl (fun v1 qv1 => ?_)
  obtain ⟨a2, ka2, rfl⟩ := qv1
  refine mj_T.eq (pc2 := 5) (st2 := [.ref a2]) ?_ rfl rfl rfl rfl
  iterate 2 refine mj_T.pl rfl rfl rfl rfl ?_
  refine jT.getR 19 115 15 ty o rfl kp0 (by decide) rfl rfl rfl (fun k3 => ?_)
  iterate 2 refine mj_T.pl rfl rfl rfl rfl ?_
  refine jT.callp rfl rfl (Nat.le_of_ble_eq_true rfl) (Nat.le_of_ble_eq_true rfl) (jrv_of o kp0 (by decide) rfl (by decide) rfl _) rfl (mj_Ok.up (Nat.add_le_add_left (by decide) D) (jc_149 (D := D) ty hg o kp0 rp2)) rfl rfl (fun v4 qv4 => ?_)
  obtain ⟨a5, ka5, rfl⟩ := qv4
  refine mj_T.eq (pc2 := 15) (st2 := [.ref a5, .ref (R p0 9)]) ?_ rfl rfl rfl rfl
  iterate 2 refine mj_T.pl rfl rfl rfl rfl ?_
  refine jT.callp rfl rfl (Nat.le_of_ble_eq_true rfl) (Nat.le_of_ble_eq_true rfl) (jrv_of o kp0 (by decide) rfl (by decide) rfl _) rfl (mj_Ok.up (Nat.add_le_add_left (by decide) D) (jc_149 (D := D) ty hg o kp0 rp3)) rfl rfl (fun v6 qv6 => ?_)
  obtain ⟨a7, ka7, rfl⟩ := qv6
  refine mj_T.eq (pc2 := 20) (st2 := [.ref a7, .ref a5, .ref (R p0 9)]) ?_ rfl rfl rfl rfl
  refine mj_T.pl rfl rfl rfl rfl ?_
  refine jT.getR 19 102 2 ty o rfl kp0 (by decide) rfl rfl rfl (fun k8 => ?_)
  refine jT.call rfl rfl (Nat.le_of_ble_eq_true rfl) (Nat.le_of_ble_eq_true rfl) (jrv_of o k3 (by decide) rfl (by decide) rfl _) rfl (mj_Ok.up (Nat.add_le_add_left (by decide) D) (jc_59 (D := D) ty hg o k3 ka5 ka7 k8)) rfl rfl (fun v9 h10 qv9 oh10 => ?_)
  obtain ⟨z11, az11, bz11, rfl⟩ := qv9
  have rz11 : -2147483648 ≤ z11 ∧ z11 ≤ 2147483647 := ⟨by omega, by omega⟩
  refine mj_T.eq (pc2 := 27) (st2 := [.int (jn z11)]) ?_ rfl rfl rfl rfl
  refine jT.if0 rfl rz11 (fun c27 => ?_) (fun c27 => ?_)
  · have c27 := jne1 c27
    iterate 2 refine mj_T.pl rfl rfl rfl rfl ?_
    refine jT.call rfl rfl (Nat.le_of_ble_eq_true rfl) (Nat.le_of_ble_eq_true rfl) (jrv_of oh10 kp0 (by decide) rfl (by decide) rfl _) rfl (mj_Ok.up (Nat.add_le_add_left (by decide) D) (jc_154 (D := D) ty hg oh10 kp0 rp1)) rfl rfl (fun v12 h13 qv12 oh13 => ?_)
    obtain ⟨z14, az14, bz14, rfl⟩ := qv12
    have rz14 : -2147483648 ≤ z14 ∧ z14 ≤ 2147483647 := ⟨by omega, by omega⟩
    refine mj_T.eq (pc2 := 43) (st2 := [.int (jn z14)]) ?_ rfl rfl rfl rfl
    exact jT.ret oh13 rfl rfl rfl ⟨z14, by omega, by omega, rfl⟩
  · have c27 := jne2 c27
    exact jT.thr oh10 hg rfl rfl rfl (Nat.le_of_ble_eq_true rfl) rfl
-- PolyRegisters.primitive(II)I
theorem jc_110 {D n : Nat} {tm : Int} {h g : mj_H} {K L : Nat → Nat} {R : Nat → Nat → Nat} {p0 : Nat} {p1 : Int} {p2 : Int} (ty : jTY K L R) (hg : g.length ≤ n) (o : jO K L R g n tm h) (kp0 : K p0 = 19) (rp1 : -2147483648 ≤ p1 ∧ p1 ≤ 2147483647) (rp2 : -2147483648 ≤ p2 ∧ p2 ≤ 2147483647) : mj_Ok (D + 5) 110 [.ref p0, .int (jn p1), .int (jn p2)] h (jQ K L R g n tm [0] (jVi (-2147483648) 2147483647)) := by
  refine mj_Ok.of (M := mj_m110) (loc := [some (.ref p0), some (.int (jn p1)), some (.int (jn p2)), none, none, none, none]) rfl rfl rfl ?_
  iterate 2 refine mj_T.pl rfl rfl rfl rfl ?_
  refine jT.callp rfl rfl (Nat.le_of_ble_eq_true rfl) (Nat.le_of_ble_eq_true rfl) (jrv_of o kp0 (by decide) rfl (by decide) rfl _) rfl (mj_Ok.up (Nat.add_le_add_left (by decide) D) (jc_149 (D := D) ty hg o kp0 rp1)) rfl rfl (fun v1 qv1 => ?_)
  obtain ⟨a2, ka2, rfl⟩ := qv1
  refine mj_T.eq (pc2 := 5) (st2 := [.ref a2]) ?_ rfl rfl rfl rfl
  iterate 3 refine mj_T.pl rfl rfl rfl rfl ?_
  refine jT.callp rfl rfl (Nat.le_of_ble_eq_true rfl) (Nat.le_of_ble_eq_true rfl) (jrv_of o kp0 (by decide) rfl (by decide) rfl _) rfl (mj_Ok.up (Nat.add_le_add_left (by decide) D) (jc_149 (D := D) ty hg o kp0 rp2)) rfl rfl (fun v3 qv3 => ?_)
  obtain ⟨a4, ka4, rfl⟩ := qv3
  refine mj_T.eq (pc2 := 11) (st2 := [.ref a4]) ?_ rfl rfl rfl rfl
  refine mj_T.pl (loc' := [some (.ref p0), some (.int (jn p1)), some (.int (jn p2)), some (.ref a4), none, none, none]) rfl rfl rfl rfl ?_
  refine mj_T.pl rfl rfl rfl rfl ?_
  refine jT.callp rfl rfl (Nat.le_of_ble_eq_true rfl) (Nat.le_of_ble_eq_true rfl) rfl rfl (mj_Ok.up (Nat.add_le_add_left (by decide) D) (jc_170 (D := D) ty hg o ka4)) rfl rfl (fun v5 qv5 => ?_)
  obtain ⟨z6, jz6, rfl⟩ := qv5
  refine mj_T.eq (pc2 := 16) (st2 := [.long (jl z6)]) ?_ rfl rfl rfl rfl
  refine mj_T.pl (loc' := [some (.ref p0), some (.int (jn p1)), some (.int (jn p2)), some (.ref a4), some (.long (jl z6)), none, none]) rfl rfl rfl rfl ?_
  refine mj_T.pl rfl rfl rfl rfl ?_
  refine mj_T.pl (loc' := [some (.ref p0), some (.int (jn p1)), some (.int (jn p2)), some (.ref a4), some (.long (jl z6)), none, some (.int (jn 0))]) rfl rfl rfl rfl ?_
  have t21_9 : ∀ (k10 : Nat) (x7 : Int) (h8 : mj_H), (-2147483648 ≤ x7 ∧ x7 ≤ 2147483647) → (jO K L R g n tm h8) → (0 ≤ x7) → (2147483647 - x7 : Int).toNat = k10 → mj_T (D + 4) mj_m110 21 [some (.ref p0), some (.int (jn p1)), some (.int (jn p2)), some (.ref a4), some (.long (jl z6)), none, some (.int (jn x7))] [] h8 (jQ K L R g n tm [0] (jVi (-2147483648) 2147483647)) := by
    refine jInd (fun k10 ih11 => ?_)
    intro x7 h8 rx7 oh8 ix7 hm12
    refine mj_T.pl rfl rfl rfl rfl ?_
    refine mj_T.pl rfl rfl rfl rfl ?_
    refine jT.icmp rfl rx7 ⟨by decide, by decide⟩ (fun c25 => ?_) (fun c25 => ?_)
    · have c25 := of_decide_eq_true c25
      iterate 2 refine mj_T.pl rfl rfl rfl rfl ?_
      refine jT.call rfl rfl (Nat.le_of_ble_eq_true rfl) (Nat.le_of_ble_eq_true rfl) (jrv_of oh8 kp0 (by decide) rfl (by decide) rfl _) rfl (mj_Ok.up (Nat.add_le_add_left (by decide) D) (jc_154 (D := D) ty hg oh8 kp0 rp1)) rfl rfl (fun v13 h14 qv13 oh14 => ?_)
      obtain ⟨z15, az15, bz15, rfl⟩ := qv13
      have rz15 : -2147483648 ≤ z15 ∧ z15 ≤ 2147483647 := ⟨by omega, by omega⟩
      refine mj_T.eq (pc2 := 71) (st2 := [.int (jn z15)]) ?_ rfl rfl rfl rfl
      exact jT.ret oh14 rfl rfl rfl ⟨z15, by omega, by omega, rfl⟩
    · have c25 := of_decide_eq_false c25
      iterate 2 refine mj_T.pl rfl rfl rfl rfl ?_
      refine jT.alen 2 ty oh8 rfl ka4 (by decide) (by decide) (fun z16 ez16 (az16 : 13 ≤ z16) (bz16 : z16 ≤ 13) => ?_)
      have rz16 : -2147483648 ≤ z16 ∧ z16 ≤ 2147483647 := ⟨by omega, by omega⟩
      refine jT.icmp rfl rx7 rz16 (fun c32 => ?_) (fun c32 => ?_)
      · have c32 := of_decide_eq_true c32
        iterate 2 refine mj_T.pl rfl rfl rfl rfl ?_
        refine jT.call rfl rfl (Nat.le_of_ble_eq_true rfl) (Nat.le_of_ble_eq_true rfl) (jrv_of oh8 kp0 (by decide) rfl (by decide) rfl _) rfl (mj_Ok.up (Nat.add_le_add_left (by decide) D) (jc_154 (D := D) ty hg oh8 kp0 rp1)) rfl rfl (fun v17 h18 qv17 oh18 => ?_)
        obtain ⟨z19, az19, bz19, rfl⟩ := qv17
        have rz19 : -2147483648 ≤ z19 ∧ z19 ≤ 2147483647 := ⟨by omega, by omega⟩
        refine mj_T.eq (pc2 := 71) (st2 := [.int (jn z19)]) ?_ rfl rfl rfl rfl
        exact jT.ret oh18 rfl rfl rfl ⟨z19, by omega, by omega, rfl⟩
      · have c32 := of_decide_eq_false c32
        refine mj_T.pl rfl rfl rfl rfl ?_
        refine jT.getR 19 102 2 ty oh8 rfl kp0 (by decide) rfl rfl rfl (fun k20 => ?_)
        iterate 2 refine mj_T.pl rfl rfl rfl rfl ?_
        refine jT.lc 0 rfl rfl ?_
        refine mj_T.lif rfl rfl jz6 ⟨by decide, by decide⟩ (fun c44 => ?_) (fun c44 => ?_)
        · have c44 := jne1 c44
          iterate 2 refine mj_T.pl rfl rfl rfl rfl ?_
          refine jT.lald oh8 rfl ka4 rx7 ⟨by omega, by omega⟩ (fun z21 jz21 => ?_)
          refine mj_T.pl rfl rfl rfl rfl ?_
          refine jT.ldiv rfl jz6 (by omega) (fun z22 jz22 => ?_)
          have l23 : 13 ≤ (L (R p0 13) : Int) ∧ (L (R p0 13) : Int) ≤ 13 := jlen 2 ty k20 (by decide) (by decide)
          refine jT.last oh8 rfl k20 rx7 ⟨by omega, by omega⟩ jz22 (fun h24 oh24 uh24 => ?_)
          refine jT.iinc rfl rfl (fun z25 rz25 ez25 => ?_)
          replace ez25 := ez25 ⟨by omega, by omega⟩
          refine mj_T.eq (loc2 := [some (.ref p0), some (.int (jn p1)), some (.int (jn p2)), some (.ref a4), some (.long (jl z6)), none, some (.int (jn z25))]) ?_ rfl rfl rfl rfl
          refine mj_T.pl rfl rfl rfl rfl ?_
          exact ih11 ((2147483647 - z25 : Int).toNat) (by omega) z25 h24 rz25 oh24 (by omega) rfl
        · have c44 := jne2 c44
          refine jT.lc 0 rfl rfl ?_
          refine mj_T.pl rfl rfl rfl rfl ?_
          have l26 : 13 ≤ (L (R p0 13) : Int) ∧ (L (R p0 13) : Int) ≤ 13 := jlen 2 ty k20 (by decide) (by decide)
          refine jT.last oh8 rfl k20 rx7 ⟨by omega, by omega⟩ ⟨by decide, by decide⟩ (fun h27 oh27 uh27 => ?_)
          refine jT.iinc rfl rfl (fun z28 rz28 ez28 => ?_)
          replace ez28 := ez28 ⟨by omega, by omega⟩
          refine mj_T.eq (loc2 := [some (.ref p0), some (.int (jn p1)), some (.int (jn p2)), some (.ref a4), some (.long (jl z6)), none, some (.int (jn z28))]) ?_ rfl rfl rfl rfl
          refine mj_T.pl rfl rfl rfl rfl ?_
          exact ih11 ((2147483647 - z28 : Int).toNat) (by omega) z28 h27 rz28 oh27 (by omega) rfl
  exact t21_9 _ 0 h ⟨by decide, by decide⟩ o (by omega) rfl
-- PolyRegisters.simple(II)I
theorem jc_111 {D n : Nat} {tm : Int} {h g : mj_H} {K L : Nat → Nat} {R : Nat → Nat → Nat} {p0 : Nat} {p1 : Int} {p2 : Int} (ty : jTY K L R) (hg : g.length ≤ n) (o : jO K L R g n tm h) (kp0 : K p0 = 19) (rp1 : -2147483648 ≤ p1 ∧ p1 ≤ 2147483647) (rp2 : -2147483648 ≤ p2 ∧ p2 ≤ 2147483647) : mj_Ok (D + 7) 111 [.ref p0, .int (jn p1), .int (jn p2)] h (jQ K L R g n tm [0, 3, 1] (jVi (-2147483648) 2147483647)) := by
  refine mj_Ok.of (M := mj_m111) (loc := [some (.ref p0), some (.int (jn p1)), some (.int (jn p2)), none]) rfl rfl rfl ?_
  iterate 2 refine mj_T.pl rfl rfl rfl rfl ?_
  refine jT.callp rfl rfl (Nat.le_of_ble_eq_true rfl) (Nat.le_of_ble_eq_true rfl) (jrv_of o kp0 (by decide) rfl (by decide) rfl _) rfl (mj_Ok.up (Nat.add_le_add_left (by decide) D) (jc_149 (D := D) ty hg o kp0 rp1)) rfl rfl (fun v1 qv1 => ?_)
  obtain ⟨a2, ka2, rfl⟩ := qv1
  refine mj_T.eq (pc2 := 5) (st2 := [.ref a2]) ?_ rfl rfl rfl rfl
  iterate 3 refine mj_T.pl rfl rfl rfl rfl ?_
  refine jT.callp rfl rfl (Nat.le_of_ble_eq_true rfl) (Nat.le_of_ble_eq_true rfl) (jrv_of o kp0 (by decide) rfl (by decide) rfl _) rfl (mj_Ok.up (Nat.add_le_add_left (by decide) D) (jc_149 (D := D) ty hg o kp0 rp2)) rfl rfl (fun v3 qv3 => ?_)
  obtain ⟨a4, ka4, rfl⟩ := qv3
  refine mj_T.eq (pc2 := 11) (st2 := [.ref a4]) ?_ rfl rfl rfl rfl
  refine mj_T.pl (loc' := [some (.ref p0), some (.int (jn p1)), some (.int (jn p2)), some (.ref a4)]) rfl rfl rfl rfl ?_
  refine mj_T.pl rfl rfl rfl rfl ?_
  refine jT.callp rfl rfl (Nat.le_of_ble_eq_true rfl) (Nat.le_of_ble_eq_true rfl) rfl rfl (mj_Ok.up (Nat.add_le_add_left (by decide) D) (jc_153 (D := D) ty hg o ka4)) rfl rfl (fun v5 qv5 => ?_)
  obtain rfl : v5 = none := qv5
  refine mj_T.eq (pc2 := 16) (st2 := []) ?_ rfl rfl rfl rfl
  refine mj_T.pl rfl rfl rfl rfl ?_
  refine jT.getR 19 115 15 ty o rfl kp0 (by decide) rfl rfl rfl (fun k6 => ?_)
  refine mj_T.pl rfl rfl rfl rfl ?_
  refine jT.call rfl rfl (Nat.le_of_ble_eq_true rfl) (Nat.le_of_ble_eq_true rfl) (jrv_of o k6 (by decide) rfl (by decide) rfl _) rfl (mj_Ok.up (Nat.add_le_add_left (by decide) D) (jc_61 (D := D) ty hg o k6 ka4)) rfl rfl (fun v7 h8 qv7 oh8 => ?_)
  obtain rfl : v7 = none := qv7
  refine mj_T.eq (pc2 := 24) (st2 := []) ?_ rfl rfl rfl rfl
  refine mj_T.pl rfl rfl rfl rfl ?_
  refine jT.getR 19 115 15 ty oh8 rfl kp0 (by decide) rfl rfl rfl (fun k9 => ?_)
  refine mj_T.pl rfl rfl rfl rfl ?_
  refine jT.getR 19 102 2 ty oh8 rfl kp0 (by decide) rfl rfl rfl (fun k10 => ?_)
  refine jT.call rfl rfl (Nat.le_of_ble_eq_true rfl) (Nat.le_of_ble_eq_true rfl) (jrv_of oh8 k9 (by decide) rfl (by decide) rfl _) rfl (mj_Ok.up (Nat.add_le_add_left (by decide) D) (jc_62 (D := D) ty hg oh8 k9 k10)) rfl rfl (fun v11 h12 qv11 oh12 => ?_)
  obtain ⟨z13, az13, bz13, rfl⟩ := qv11
  have rz13 : -2147483648 ≤ z13 ∧ z13 ≤ 2147483647 := ⟨by omega, by omega⟩
  refine mj_T.eq (pc2 := 35) (st2 := [.int (jn z13)]) ?_ rfl rfl rfl rfl
  refine jT.if0 rfl rz13 (fun c35 => ?_) (fun c35 => ?_)
  · have c35 := jne1 c35
    iterate 2 refine mj_T.pl rfl rfl rfl rfl ?_
    refine jT.call rfl rfl (Nat.le_of_ble_eq_true rfl) (Nat.le_of_ble_eq_true rfl) (jrv_of oh12 kp0 (by decide) rfl (by decide) rfl _) rfl (mj_Ok.up (Nat.add_le_add_left (by decide) D) (jc_154 (D := D) ty hg oh12 kp0 rp1)) rfl rfl (fun v14 h15 qv14 oh15 => ?_)
    obtain ⟨z16, az16, bz16, rfl⟩ := qv14
    have rz16 : -2147483648 ≤ z16 ∧ z16 ≤ 2147483647 := ⟨by omega, by omega⟩
    refine mj_T.eq (pc2 := 51) (st2 := [.int (jn z16)]) ?_ rfl rfl rfl rfl
    exact jT.ret oh15 rfl rfl rfl ⟨z16, by omega, by omega, rfl⟩
  · have c35 := jne2 c35
    exact jT.thr oh12 hg rfl rfl rfl (Nat.le_of_ble_eq_true rfl) rfl
-- PolyRegisters.residue(III)I
theorem jc_112 {D n : Nat} {tm : Int} {h g : mj_H} {K L : Nat → Nat} {R : Nat → Nat → Nat} {p0 : Nat} {p1 : Int} {p2 : Int} {p3 : Int} (ty : jTY K L R) (hg : g.length ≤ n) (o : jO K L R g n tm h) (kp0 : K p0 = 19) (rp1 : -2147483648 ≤ p1 ∧ p1 ≤ 2147483647) (rp2 : -2147483648 ≤ p2 ∧ p2 ≤ 2147483647) (rp3 : -2147483648 ≤ p3 ∧ p3 ≤ 2147483647) : mj_Ok (D + 5) 112 [.ref p0, .int (jn p1), .int (jn p2), .int (jn p3)] h (jQ K L R g n tm [0, 2] (jVi (-2147483648) 2147483647)) := by
  refine mj_Ok.of (M := mj_m112) (loc := [some (.ref p0), some (.int (jn p1)), some (.int (jn p2)), some (.int (jn p3)), none, none]) rfl rfl rfl ?_
  iterate 2 refine mj_T.pl rfl rfl rfl rfl ?_
  refine jT.callp rfl rfl (Nat.le_of_ble_eq_true rfl) (Nat.le_of_ble_eq_true rfl) (jrv_of o kp0 (by decide) rfl (by decide) rfl _) rfl (mj_Ok.up (Nat.add_le_add_left (by decide) D) (jc_149 (D := D) ty hg o kp0 rp1)) rfl rfl (fun v1 qv1 => ?_)
  obtain ⟨a2, ka2, rfl⟩ := qv1
  refine mj_T.eq (pc2 := 5) (st2 := [.ref a2]) ?_ rfl rfl rfl rfl
  iterate 3 refine mj_T.pl rfl rfl rfl rfl ?_
  refine jT.callp rfl rfl (Nat.le_of_ble_eq_true rfl) (Nat.le_of_ble_eq_true rfl) (jrv_of o kp0 (by decide) rfl (by decide) rfl _) rfl (mj_Ok.up (Nat.add_le_add_left (by decide) D) (jc_149 (D := D) ty hg o kp0 rp2)) rfl rfl (fun v3 qv3 => ?_)
  obtain ⟨a4, ka4, rfl⟩ := qv3
  refine mj_T.eq (pc2 := 11) (st2 := [.ref a4]) ?_ rfl rfl rfl rfl
  refine mj_T.pl (loc' := [some (.ref p0), some (.int (jn p1)), some (.int (jn p2)), some (.int (jn p3)), some (.ref a4), none]) rfl rfl rfl rfl ?_
  refine mj_T.pl rfl rfl rfl rfl ?_
  refine jT.callp rfl rfl (Nat.le_of_ble_eq_true rfl) (Nat.le_of_ble_eq_true rfl) rfl rfl (mj_Ok.up (Nat.add_le_add_left (by decide) D) (jc_152 (D := D) ty hg o rp3)) rfl rfl (fun v5 qv5 => ?_)
  obtain rfl : v5 = none := qv5
  refine mj_T.eq (pc2 := 17) (st2 := []) ?_ rfl rfl rfl rfl
  refine mj_T.pl rfl rfl rfl rfl ?_
  refine mj_T.pl (loc' := [some (.ref p0), some (.int (jn p1)), some (.int (jn p2)), some (.int (jn p3)), some (.ref a4), some (.int (jn 0))]) rfl rfl rfl rfl ?_
  have t20_8 : ∀ (k9 : Nat) (x6 : Int) (h7 : mj_H), (-2147483648 ≤ x6 ∧ x6 ≤ 2147483647) → (jO K L R g n tm h7) → (0 ≤ x6) → (2147483647 - x6 : Int).toNat = k9 → mj_T (D + 4) mj_m112 20 [some (.ref p0), some (.int (jn p1)), some (.int (jn p2)), some (.int (jn p3)), some (.ref a4), some (.int (jn x6))] [] h7 (jQ K L R g n tm [0, 2] (jVi (-2147483648) 2147483647)) := by
    refine jInd (fun k9 ih10 => ?_)
    intro x6 h7 rx6 oh7 ix6 hm11
    refine mj_T.pl rfl rfl rfl rfl ?_
    refine mj_T.pl rfl rfl rfl rfl ?_
    refine jT.icmp rfl rx6 ⟨by decide, by decide⟩ (fun c24 => ?_) (fun c24 => ?_)
    · have c24 := of_decide_eq_true c24
      iterate 2 refine mj_T.pl rfl rfl rfl rfl ?_
      refine jT.call rfl rfl (Nat.le_of_ble_eq_true rfl) (Nat.le_of_ble_eq_true rfl) (jrv_of oh7 kp0 (by decide) rfl (by decide) rfl _) rfl (mj_Ok.up (Nat.add_le_add_left (by decide) D) (jc_154 (D := D) ty hg oh7 kp0 rp1)) rfl rfl (fun v12 h13 qv12 oh13 => ?_)
      obtain ⟨z14, az14, bz14, rfl⟩ := qv12
      have rz14 : -2147483648 ≤ z14 ∧ z14 ≤ 2147483647 := ⟨by omega, by omega⟩
      refine mj_T.eq (pc2 := 63) (st2 := [.int (jn z14)]) ?_ rfl rfl rfl rfl
      exact jT.ret oh13 rfl rfl rfl ⟨z14, by omega, by omega, rfl⟩
    · have c24 := of_decide_eq_false c24
      iterate 2 refine mj_T.pl rfl rfl rfl rfl ?_
      refine jT.alen 2 ty oh7 rfl ka4 (by decide) (by decide) (fun z15 ez15 (az15 : 13 ≤ z15) (bz15 : z15 ≤ 13) => ?_)
      have rz15 : -2147483648 ≤ z15 ∧ z15 ≤ 2147483647 := ⟨by omega, by omega⟩
      refine jT.icmp rfl rx6 rz15 (fun c32 => ?_) (fun c32 => ?_)
      · have c32 := of_decide_eq_true c32
        iterate 2 refine mj_T.pl rfl rfl rfl rfl ?_
        refine jT.call rfl rfl (Nat.le_of_ble_eq_true rfl) (Nat.le_of_ble_eq_true rfl) (jrv_of oh7 kp0 (by decide) rfl (by decide) rfl _) rfl (mj_Ok.up (Nat.add_le_add_left (by decide) D) (jc_154 (D := D) ty hg oh7 kp0 rp1)) rfl rfl (fun v16 h17 qv16 oh17 => ?_)
        obtain ⟨z18, az18, bz18, rfl⟩ := qv16
        have rz18 : -2147483648 ≤ z18 ∧ z18 ≤ 2147483647 := ⟨by omega, by omega⟩
        refine mj_T.eq (pc2 := 63) (st2 := [.int (jn z18)]) ?_ rfl rfl rfl rfl
        exact jT.ret oh17 rfl rfl rfl ⟨z18, by omega, by omega, rfl⟩
      · have c32 := of_decide_eq_false c32
        refine mj_T.pl rfl rfl rfl rfl ?_
        refine jT.getR 19 102 2 ty oh7 rfl kp0 (by decide) rfl rfl rfl (fun k19 => ?_)
        iterate 3 refine mj_T.pl rfl rfl rfl rfl ?_
        refine jT.lald oh7 rfl ka4 rx6 ⟨by omega, by omega⟩ (fun z20 jz20 => ?_)
        refine mj_T.pl rfl rfl rfl rfl ?_
        refine jT.callp rfl rfl (Nat.le_of_ble_eq_true rfl) (Nat.le_of_ble_eq_true rfl) rfl rfl (mj_Ok.up (Nat.add_le_add_left (by decide) D) (jc_172 (D := D) ty hg oh7 jz20 rp3)) rfl rfl (fun v21 qv21 => ?_)
        obtain ⟨z22, az22, bz22, rfl⟩ := qv21
        have rz22 : -2147483648 ≤ z22 ∧ z22 ≤ 2147483647 := ⟨by omega, by omega⟩
        refine mj_T.eq (pc2 := 50) (st2 := [.int (jn z22), .int (jn x6), .ref (R p0 13)]) ?_ rfl rfl rfl rfl
        refine jT.i2l rfl rz22 ?_
        have j23 : jR z22 := ⟨by omega, by omega⟩
        have l24 : 13 ≤ (L (R p0 13) : Int) ∧ (L (R p0 13) : Int) ≤ 13 := jlen 2 ty k19 (by decide) (by decide)
        refine jT.last oh7 rfl k19 rx6 ⟨by omega, by omega⟩ j23 (fun h25 oh25 uh25 => ?_)
        refine jT.iinc rfl rfl (fun z26 rz26 ez26 => ?_)
        replace ez26 := ez26 ⟨by omega, by omega⟩
        refine mj_T.eq (loc2 := [some (.ref p0), some (.int (jn p1)), some (.int (jn p2)), some (.int (jn p3)), some (.ref a4), some (.int (jn z26))]) ?_ rfl rfl rfl rfl
        refine mj_T.pl rfl rfl rfl rfl ?_
        exact ih10 ((2147483647 - z26 : Int).toNat) (by omega) z26 h25 rz26 oh25 (by omega) rfl
  exact t20_8 _ 0 h ⟨by decide, by decide⟩ o (by omega) rfl
-- PolyRegisters.setTerm(IIJ)I
theorem jc_113 {D n : Nat} {tm : Int} {h g : mj_H} {K L : Nat → Nat} {R : Nat → Nat → Nat} {p0 : Nat} {p1 : Int} {p2 : Int} {p3 : Int} (ty : jTY K L R) (hg : g.length ≤ n) (o : jO K L R g n tm h) (kp0 : K p0 = 19) (rp1 : -2147483648 ≤ p1 ∧ p1 ≤ 2147483647) (rp2 : -2147483648 ≤ p2 ∧ p2 ≤ 2147483647) (jp3 : jR p3) : mj_Ok (D + 5) 113 [.ref p0, .int (jn p1), .int (jn p2), .long (jl p3)] h (jQ K L R g n tm [0, 2, 1] (jVi (-2147483648) 2147483647)) := by
  refine mj_Ok.of (M := mj_m113) (loc := [some (.ref p0), some (.int (jn p1)), some (.int (jn p2)), some (.long (jl p3)), none, none]) rfl rfl rfl ?_
  iterate 2 refine mj_T.pl rfl rfl rfl rfl ?_
  refine jT.callp rfl rfl (Nat.le_of_ble_eq_true rfl) (Nat.le_of_ble_eq_true rfl) (jrv_of o kp0 (by decide) rfl (by decide) rfl _) rfl (mj_Ok.up (Nat.add_le_add_left (by decide) D) (jc_149 (D := D) ty hg o kp0 rp1)) rfl rfl (fun v1 qv1 => ?_)
  obtain ⟨a2, ka2, rfl⟩ := qv1
  refine mj_T.eq (pc2 := 5) (st2 := [.ref a2]) ?_ rfl rfl rfl rfl
  refine mj_T.pl (loc' := [some (.ref p0), some (.int (jn p1)), some (.int (jn p2)), some (.long (jl p3)), none, some (.ref a2)]) rfl rfl rfl rfl ?_
  refine mj_T.pl rfl rfl rfl rfl ?_
  refine jT.callp rfl rfl (Nat.le_of_ble_eq_true rfl) (Nat.le_of_ble_eq_true rfl) rfl rfl (mj_Ok.up (Nat.add_le_add_left (by decide) D) (jc_150 (D := D) ty hg o rp2)) rfl rfl (fun v3 qv3 => ?_)
  obtain ⟨rfl, fv3⟩ := qv3
  refine mj_T.eq (pc2 := 11) (st2 := []) ?_ rfl rfl rfl rfl
  refine mj_T.pl rfl rfl rfl rfl ?_
  refine jT.callp rfl rfl (Nat.le_of_ble_eq_true rfl) (Nat.le_of_ble_eq_true rfl) rfl rfl (mj_Ok.up (Nat.add_le_add_left (by decide) D) (jc_161 (D := D) ty hg o jp3)) rfl rfl (fun v4 qv4 => ?_)
  obtain ⟨z5, az5, bz5, rfl⟩ := qv4
  have rz5 : -2147483648 ≤ z5 ∧ z5 ≤ 2147483647 := ⟨by omega, by omega⟩
  refine mj_T.eq (pc2 := 15) (st2 := [.int (jn z5)]) ?_ rfl rfl rfl rfl
  refine jT.if0 rfl rz5 (fun c15 => ?_) (fun c15 => ?_)
  · have c15 := jne1 c15
    iterate 2 refine mj_T.pl rfl rfl rfl rfl ?_
    refine jT.getR 19 102 2 ty o rfl kp0 (by decide) rfl rfl rfl (fun k6 => ?_)
    refine jT.call rfl rfl (Nat.le_of_ble_eq_true rfl) (Nat.le_of_ble_eq_true rfl) rfl rfl (mj_Ok.up (Nat.add_le_add_left (by decide) D) (jc_164 (D := D) ty hg o ka2 k6)) rfl rfl (fun v7 h8 qv7 oh8 => ?_)
    obtain rfl : v7 = none := qv7
    refine mj_T.eq (pc2 := 35) (st2 := []) ?_ rfl rfl rfl rfl
    refine mj_T.pl rfl rfl rfl rfl ?_
    refine jT.getR 19 102 2 ty oh8 rfl kp0 (by decide) rfl rfl rfl (fun k9 => ?_)
    iterate 2 refine mj_T.pl rfl rfl rfl rfl ?_
    have l10 : 13 ≤ (L (R p0 13) : Int) ∧ (L (R p0 13) : Int) ≤ 13 := jlen 2 ty k9 (by decide) (by decide)
    refine jT.last oh8 rfl k9 rp2 ⟨by omega, by omega⟩ jp3 (fun h11 oh11 uh11 => ?_)
    iterate 2 refine mj_T.pl rfl rfl rfl rfl ?_
    refine jT.call rfl rfl (Nat.le_of_ble_eq_true rfl) (Nat.le_of_ble_eq_true rfl) (jrv_of oh11 kp0 (by decide) rfl (by decide) rfl _) rfl (mj_Ok.up (Nat.add_le_add_left (by decide) D) (jc_154 (D := D) ty hg oh11 kp0 rp1)) rfl rfl (fun v12 h13 qv12 oh13 => ?_)
    obtain ⟨z14, az14, bz14, rfl⟩ := qv12
    have rz14 : -2147483648 ≤ z14 ∧ z14 ≤ 2147483647 := ⟨by omega, by omega⟩
    refine mj_T.eq (pc2 := 47) (st2 := [.int (jn z14)]) ?_ rfl rfl rfl rfl
    exact jT.ret oh13 rfl rfl rfl ⟨z14, by omega, by omega, rfl⟩
  · have c15 := jne2 c15
    exact jT.thr o hg rfl rfl rfl (Nat.le_of_ble_eq_true rfl) rfl
-- PolyRegisters.addPoint(II)I
theorem jc_115 {D n : Nat} {tm : Int} {h g : mj_H} {K L : Nat → Nat} {R : Nat → Nat → Nat} {p0 : Nat} {p1 : Int} {p2 : Int} (ty : jTY K L R) (hg : g.length ≤ n) (o : jO K L R g n tm h) (kp0 : K p0 = 19) (rp1 : -2147483648 ≤ p1 ∧ p1 ≤ 2147483647) (rp2 : -2147483648 ≤ p2 ∧ p2 ≤ 2147483647) : mj_Ok (D + 4) 115 [.ref p0, .int (jn p1), .int (jn p2)] h (jQ K L R g n tm [2, 1] (jVi (-2147483648) 2147483647)) := by
  refine mj_Ok.of (M := mj_m115) (loc := [some (.ref p0), some (.int (jn p1)), some (.int (jn p2))]) rfl rfl rfl ?_
  iterate 2 refine mj_T.pl rfl rfl rfl rfl ?_
  refine jT.icmp rfl rp1 ⟨by decide, by decide⟩ (fun c3 => ?_) (fun c3 => ?_)
  · have c3 := of_decide_eq_true c3
    exact jT.thr o hg rfl rfl rfl (Nat.le_of_ble_eq_true rfl) rfl
  · have c3 := of_decide_eq_false c3
    iterate 2 refine mj_T.pl rfl rfl rfl rfl ?_
    refine jT.icmp rfl rp1 ⟨by decide, by decide⟩ (fun c9 => ?_) (fun c9 => ?_)
    · have c9 := of_decide_eq_true c9
      exact jT.thr o hg rfl rfl rfl (Nat.le_of_ble_eq_true rfl) rfl
    · have c9 := of_decide_eq_false c9
      iterate 2 refine mj_T.pl rfl rfl rfl rfl ?_
      refine jT.icmp rfl rp2 ⟨by decide, by decide⟩ (fun c16 => ?_) (fun c16 => ?_)
      · have c16 := of_decide_eq_true c16
        exact jT.thr o hg rfl rfl rfl (Nat.le_of_ble_eq_true rfl) rfl
      · have c16 := of_decide_eq_false c16
        iterate 2 refine mj_T.pl rfl rfl rfl rfl ?_
        refine jT.icmp rfl rp2 ⟨by decide, by decide⟩ (fun c23 => ?_) (fun c23 => ?_)
        · have c23 := of_decide_eq_true c23
          refine mj_T.pl rfl rfl rfl rfl ?_
          refine jT.getR 19 110 10 ty o rfl kp0 (by decide) rfl rfl rfl (fun k1 => ?_)
          refine jT.getI 10 9 o rfl k1 (by decide) rfl rfl rfl (fun z2 (az2 : 0 ≤ z2) (bz2 : z2 ≤ 2147483647) fz2 => ?_)
          have rz2 : -2147483648 ≤ z2 ∧ z2 ≤ 2147483647 := ⟨by omega, by omega⟩
          refine mj_T.pl rfl rfl rfl rfl ?_
          refine jT.icmp rfl rz2 ⟨by decide, by decide⟩ (fun c43 => ?_) (fun c43 => ?_)
          · have c43 := of_decide_eq_true c43
            exact jT.thr o hg rfl rfl rfl (Nat.le_of_ble_eq_true rfl) rfl
          · have c43 := of_decide_eq_false c43
            refine mj_T.pl rfl rfl rfl rfl ?_
            refine jT.getR 19 110 10 ty o rfl kp0 (by decide) rfl rfl rfl (fun k3 => ?_)
            refine mj_T.pl rfl rfl rfl rfl ?_
            refine jT.callp rfl rfl (Nat.le_of_ble_eq_true rfl) (Nat.le_of_ble_eq_true rfl) (jrv_of o k3 (by decide) rfl (by decide) rfl _) rfl (mj_Ok.up (Nat.add_le_add_left (by decide) D) (jc_4 (D := D) ty hg o k3 rp1)) rfl rfl (fun v4 qv4 => ?_)
            obtain ⟨z5, az5, bz5, rfl⟩ := qv4
            have rz5 : -2147483648 ≤ z5 ∧ z5 ≤ 2147483647 := ⟨by omega, by omega⟩
            refine mj_T.eq (pc2 := 54) (st2 := [.int (jn z5)]) ?_ rfl rfl rfl rfl
            refine jT.if0 rfl rz5 (fun c54 => ?_) (fun c54 => ?_)
            · have c54 := of_decide_eq_true c54
              refine mj_T.pl rfl rfl rfl rfl ?_
              refine jT.call rfl rfl (Nat.le_of_ble_eq_true rfl) (Nat.le_of_ble_eq_true rfl) (jrv_of o kp0 (by decide) rfl (by decide) rfl _) rfl (mj_Ok.up (Nat.add_le_add_left (by decide) D) (jc_156 (D := D) ty hg o kp0)) rfl rfl (fun v6 h7 qv6 oh7 => ?_)
              obtain rfl : v6 = none := qv6
              refine mj_T.eq (pc2 := 69) (st2 := []) ?_ rfl rfl rfl rfl
              refine mj_T.pl rfl rfl rfl rfl ?_
              refine jT.getR 19 110 10 ty oh7 rfl kp0 (by decide) rfl rfl rfl (fun k8 => ?_)
              iterate 2 refine mj_T.pl rfl rfl rfl rfl ?_
              refine jT.call rfl rfl (Nat.le_of_ble_eq_true rfl) (Nat.le_of_ble_eq_true rfl) (jrv_of oh7 k8 (by decide) rfl (by decide) rfl _) rfl (mj_Ok.up (Nat.add_le_add_left (by decide) D) (jc_3 (D := D) ty hg oh7 k8 rp1 rp2)) rfl rfl (fun v9 h10 qv9 oh10 => ?_)
              obtain rfl : v9 = none := qv9
              refine mj_T.eq (pc2 := 78) (st2 := []) ?_ rfl rfl rfl rfl
              refine mj_T.pl rfl rfl rfl rfl ?_
              refine jT.getR 19 110 10 ty oh10 rfl kp0 (by decide) rfl rfl rfl (fun k11 => ?_)
              refine jT.getI 10 9 oh10 rfl k11 (by decide) rfl rfl rfl (fun z12 (az12 : 0 ≤ z12) (bz12 : z12 ≤ 2147483647) fz12 => ?_)
              have rz12 : -2147483648 ≤ z12 ∧ z12 ≤ 2147483647 := ⟨by omega, by omega⟩
              exact jT.ret oh10 rfl rfl rfl ⟨z12, by omega, by omega, rfl⟩
            · have c54 := of_decide_eq_false c54
              exact jT.thr o hg rfl rfl rfl (Nat.le_of_ble_eq_true rfl) rfl
        · have c23 := of_decide_eq_false c23
          exact jT.thr o hg rfl rfl rfl (Nat.le_of_ble_eq_true rfl) rfl
-- PolyRegisters.clearPoints()I
theorem jc_116 {D n : Nat} {tm : Int} {h g : mj_H} {K L : Nat → Nat} {R : Nat → Nat → Nat} {p0 : Nat} (ty : jTY K L R) (hg : g.length ≤ n) (o : jO K L R g n tm h) (kp0 : K p0 = 19) : mj_Ok (D + 4) 116 [.ref p0] h (jQ K L R g n tm [] (jVi (-2147483648) 2147483647)) := by
  refine mj_Ok.of (M := mj_m116) (loc := [some (.ref p0), none]) rfl rfl rfl ?_
  refine mj_T.pl rfl rfl rfl rfl ?_
  refine jT.call rfl rfl (Nat.le_of_ble_eq_true rfl) (Nat.le_of_ble_eq_true rfl) (jrv_of o kp0 (by decide) rfl (by decide) rfl _) rfl (mj_Ok.up (Nat.add_le_add_left (by decide) D) (jc_156 (D := D) ty hg o kp0)) rfl rfl (fun v1 h2 qv1 oh2 => ?_)
  obtain rfl : v1 = none := qv1
  refine mj_T.eq (pc2 := 4) (st2 := []) ?_ rfl rfl rfl rfl
  refine mj_T.pl rfl rfl rfl rfl ?_
  refine jT.getR 19 110 10 ty oh2 rfl kp0 (by decide) rfl rfl rfl (fun k3 => ?_)
  refine jT.getI 10 9 oh2 rfl k3 (by decide) rfl rfl rfl (fun z4 (az4 : 0 ≤ z4) (bz4 : z4 ≤ 2147483647) fz4 => ?_)
  have rz4 : -2147483648 ≤ z4 ∧ z4 ≤ 2147483647 := ⟨by omega, by omega⟩
  refine mj_T.pl (loc' := [some (.ref p0), some (.int (jn z4))]) rfl rfl rfl rfl ?_
  refine mj_T.pl rfl rfl rfl rfl ?_
  refine jT.getR 19 110 10 ty oh2 rfl kp0 (by decide) rfl rfl rfl (fun k5 => ?_)
  refine mj_T.pl rfl rfl rfl rfl ?_
  refine jT.putI 10 9 oh2 rfl k5 (by decide) rfl rfl rfl (Or.inl rfl) (by show 0 ≤ 0; omega) (by show 0 ≤ 2147483647; omega) (fun h6 oh6 wh6 uh6 => ?_)
  refine mj_T.pl rfl rfl rfl rfl ?_
  exact jT.ret oh6 rfl rfl rfl ⟨z4, by omega, by omega, rfl⟩
