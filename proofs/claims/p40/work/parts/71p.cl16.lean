/-! The class by kinds: what others call. -/
-- PolyRegisters.realRoots(I)I
theorem jc_131 {D n : Nat} {tm : Int} {h g : mj_H} {K L : Nat → Nat} {R : Nat → Nat → Nat} {p0 : Nat} {p1 : Int} (ty : jTY K L R) (hg : g.length ≤ n) (o : jO K L R g n tm h) (kp0 : K p0 = 19) (rp1 : -2147483648 ≤ p1 ∧ p1 ≤ 2147483647) : mj_Ok (D + 7) 131 [.ref p0, .int (jn p1)] h (jQ K L R g n tm [0, 3] (jVi (-2147483648) 2147483647)) := by
  refine mj_Ok.of (M := mj_m131) (loc := [some (.ref p0), some (.int (jn p1)), none]) rfl rfl rfl ?_
  iterate 2 refine mj_T.pl rfl rfl rfl rfl ?_
  refine jT.callp rfl rfl (Nat.le_of_ble_eq_true rfl) (Nat.le_of_ble_eq_true rfl) (jrv_of o kp0 (by decide) rfl (by decide) rfl _) rfl (mj_Ok.up (Nat.add_le_add_left (by decide) D) (jc_149 (D := D) ty hg o kp0 rp1)) rfl rfl (fun v1 qv1 => ?_)
  obtain ⟨a2, ka2, rfl⟩ := qv1
  refine mj_T.eq (pc2 := 5) (st2 := [.ref a2]) ?_ rfl rfl rfl rfl
  refine mj_T.pl (loc' := [some (.ref p0), some (.int (jn p1)), some (.ref a2)]) rfl rfl rfl rfl ?_
  refine mj_T.pl rfl rfl rfl rfl ?_
  refine jT.callp rfl rfl (Nat.le_of_ble_eq_true rfl) (Nat.le_of_ble_eq_true rfl) rfl rfl (mj_Ok.up (Nat.add_le_add_left (by decide) D) (jc_153 (D := D) ty hg o ka2)) rfl rfl (fun v3 qv3 => ?_)
  obtain rfl : v3 = none := qv3
  refine mj_T.eq (pc2 := 10) (st2 := []) ?_ rfl rfl rfl rfl
  refine mj_T.pl rfl rfl rfl rfl ?_
  refine jT.getR 19 116 16 ty o rfl kp0 (by decide) rfl rfl rfl (fun k4 => ?_)
  iterate 2 refine mj_T.pl rfl rfl rfl rfl ?_
  refine jT.callp rfl rfl (Nat.le_of_ble_eq_true rfl) (Nat.le_of_ble_eq_true rfl) rfl rfl (mj_Ok.up (Nat.add_le_add_left (by decide) D) (jc_169 (D := D) ty hg o ka2)) rfl rfl (fun v5 qv5 => ?_)
  obtain ⟨z6, jz6, rfl⟩ := qv5
  refine mj_T.eq (pc2 := 19) (st2 := [.long (jl z6), .ref a2, .ref (R p0 8)]) ?_ rfl rfl rfl rfl
  refine jT.call rfl rfl (Nat.le_of_ble_eq_true rfl) (Nat.le_of_ble_eq_true rfl) (jrv_of o k4 (by decide) rfl (by decide) rfl _) rfl (mj_Ok.up (Nat.add_le_add_left (by decide) D) (jc_68 (D := D) ty hg o k4 ka2 jz6)) rfl rfl (fun v7 h8 qv7 oh8 => ?_)
  obtain rfl : v7 = none := qv7
  refine mj_T.eq (pc2 := 22) (st2 := []) ?_ rfl rfl rfl rfl
  refine mj_T.pl rfl rfl rfl rfl ?_
  refine jT.getR 19 116 16 ty oh8 rfl kp0 (by decide) rfl rfl rfl (fun k9 => ?_)
  refine mj_T.pl rfl rfl rfl rfl ?_
  refine jT.callp rfl rfl (Nat.le_of_ble_eq_true rfl) (Nat.le_of_ble_eq_true rfl) (jrv_of oh8 k9 (by decide) rfl (by decide) rfl _) rfl (mj_Ok.up (Nat.add_le_add_left (by decide) D) (jc_77 (D := D) ty hg oh8 k9 ⟨by decide, by decide⟩)) rfl rfl (fun v10 qv10 => ?_)
  obtain ⟨z11, az11, bz11, rfl⟩ := qv10
  have rz11 : -2147483648 ≤ z11 ∧ z11 ≤ 2147483647 := ⟨by omega, by omega⟩
  refine mj_T.eq (pc2 := 30) (st2 := [.int (jn z11)]) ?_ rfl rfl rfl rfl
  refine mj_T.pl rfl rfl rfl rfl ?_
  refine jT.getR 19 116 16 ty oh8 rfl kp0 (by decide) rfl rfl rfl (fun k12 => ?_)
  refine mj_T.pl rfl rfl rfl rfl ?_
  refine jT.callp rfl rfl (Nat.le_of_ble_eq_true rfl) (Nat.le_of_ble_eq_true rfl) (jrv_of oh8 k12 (by decide) rfl (by decide) rfl _) rfl (mj_Ok.up (Nat.add_le_add_left (by decide) D) (jc_77 (D := D) ty hg oh8 k12 ⟨by decide, by decide⟩)) rfl rfl (fun v13 qv13 => ?_)
  obtain ⟨z14, az14, bz14, rfl⟩ := qv13
  have rz14 : -2147483648 ≤ z14 ∧ z14 ≤ 2147483647 := ⟨by omega, by omega⟩
  refine mj_T.eq (pc2 := 38) (st2 := [.int (jn z14), .int (jn z11)]) ?_ rfl rfl rfl rfl
  refine jT.isub rfl (fun z15 rz15 ez15 => ?_)
  clear ez15
  exact jT.ret oh8 rfl rfl rfl ⟨z15, by omega, by omega, rfl⟩
-- PolyRegisters.rootsBetween(IIIII)I
theorem jc_132 {D n : Nat} {tm : Int} {h g : mj_H} {K L : Nat → Nat} {R : Nat → Nat → Nat} {p0 : Nat} {p1 : Int} {p2 : Int} {p3 : Int} {p4 : Int} {p5 : Int} (ty : jTY K L R) (hg : g.length ≤ n) (o : jO K L R g n tm h) (kp0 : K p0 = 19) (rp1 : -2147483648 ≤ p1 ∧ p1 ≤ 2147483647) (rp2 : -2147483648 ≤ p2 ∧ p2 ≤ 2147483647) (rp3 : -2147483648 ≤ p3 ∧ p3 ≤ 2147483647) (rp4 : -2147483648 ≤ p4 ∧ p4 ≤ 2147483647) (rp5 : -2147483648 ≤ p5 ∧ p5 ≤ 2147483647) : mj_Ok (D + 7) 132 [.ref p0, .int (jn p1), .int (jn p2), .int (jn p3), .int (jn p4), .int (jn p5)] h (jQ K L R g n tm [0, 2, 3, 1] (jVi (-2147483648) 2147483647)) := by
  refine mj_Ok.of (M := mj_m132) (loc := [some (.ref p0), some (.int (jn p1)), some (.int (jn p2)), some (.int (jn p3)), some (.int (jn p4)), some (.int (jn p5)), none]) rfl rfl rfl ?_
  iterate 2 refine mj_T.pl rfl rfl rfl rfl ?_
  refine jT.callp rfl rfl (Nat.le_of_ble_eq_true rfl) (Nat.le_of_ble_eq_true rfl) (jrv_of o kp0 (by decide) rfl (by decide) rfl _) rfl (mj_Ok.up (Nat.add_le_add_left (by decide) D) (jc_149 (D := D) ty hg o kp0 rp1)) rfl rfl (fun v1 qv1 => ?_)
  obtain ⟨a2, ka2, rfl⟩ := qv1
  refine mj_T.eq (pc2 := 5) (st2 := [.ref a2]) ?_ rfl rfl rfl rfl
  refine mj_T.pl (loc' := [some (.ref p0), some (.int (jn p1)), some (.int (jn p2)), some (.int (jn p3)), some (.int (jn p4)), some (.int (jn p5)), some (.ref a2)]) rfl rfl rfl rfl ?_
  iterate 2 refine mj_T.pl rfl rfl rfl rfl ?_
  refine jT.callp rfl rfl (Nat.le_of_ble_eq_true rfl) (Nat.le_of_ble_eq_true rfl) rfl rfl (mj_Ok.up (Nat.add_le_add_left (by decide) D) (jc_151 (D := D) ty hg o rp2 rp3)) rfl rfl (fun v3 qv3 => ?_)
  obtain rfl : v3 = none := qv3
  refine mj_T.eq (pc2 := 12) (st2 := []) ?_ rfl rfl rfl rfl
  iterate 2 refine mj_T.pl rfl rfl rfl rfl ?_
  refine jT.callp rfl rfl (Nat.le_of_ble_eq_true rfl) (Nat.le_of_ble_eq_true rfl) rfl rfl (mj_Ok.up (Nat.add_le_add_left (by decide) D) (jc_151 (D := D) ty hg o rp4 rp5)) rfl rfl (fun v4 qv4 => ?_)
  obtain rfl : v4 = none := qv4
  refine mj_T.eq (pc2 := 19) (st2 := []) ?_ rfl rfl rfl rfl
  iterate 2 refine mj_T.pl rfl rfl rfl rfl ?_
  refine jT.imul rfl (fun z5 rz5 ez5 => ?_)
  clear ez5
  iterate 2 refine mj_T.pl rfl rfl rfl rfl ?_
  refine jT.imul rfl (fun z6 rz6 ez6 => ?_)
  clear ez6
  refine jT.icmp rfl rz5 rz6 (fun c27 => ?_) (fun c27 => ?_)
  · have c27 := of_decide_eq_true c27
    refine mj_T.pl rfl rfl rfl rfl ?_
    refine jT.callp rfl rfl (Nat.le_of_ble_eq_true rfl) (Nat.le_of_ble_eq_true rfl) rfl rfl (mj_Ok.up (Nat.add_le_add_left (by decide) D) (jc_153 (D := D) ty hg o ka2)) rfl rfl (fun v7 qv7 => ?_)
    obtain rfl : v7 = none := qv7
    refine mj_T.eq (pc2 := 43) (st2 := []) ?_ rfl rfl rfl rfl
    refine mj_T.pl rfl rfl rfl rfl ?_
    refine jT.getR 19 111 11 ty o rfl kp0 (by decide) rfl rfl rfl (fun k8 => ?_)
    iterate 3 refine mj_T.pl rfl rfl rfl rfl ?_
    refine jT.call rfl rfl (Nat.le_of_ble_eq_true rfl) (Nat.le_of_ble_eq_true rfl) (jrv_of o k8 (by decide) rfl (by decide) rfl _) rfl (mj_Ok.up (Nat.add_le_add_left (by decide) D) (jc_27 (D := D) ty hg o k8 ka2 rp2 rp3)) rfl rfl (fun v9 h10 qv9 oh10 => ?_)
    obtain ⟨z11, az11, bz11, rfl⟩ := qv9
    have rz11 : -2147483648 ≤ z11 ∧ z11 ≤ 2147483647 := ⟨by omega, by omega⟩
    refine mj_T.eq (pc2 := 54) (st2 := [.int (jn z11)]) ?_ rfl rfl rfl rfl
    refine jT.if0 rfl rz11 (fun c54 => ?_) (fun c54 => ?_)
    · have c54 := of_decide_eq_true c54
      exact jT.thr oh10 hg rfl rfl rfl (Nat.le_of_ble_eq_true rfl) rfl
    · have c54 := of_decide_eq_false c54
      refine mj_T.pl rfl rfl rfl rfl ?_
      refine jT.getR 19 111 11 ty oh10 rfl kp0 (by decide) rfl rfl rfl (fun k12 => ?_)
      iterate 3 refine mj_T.pl rfl rfl rfl rfl ?_
      refine jT.call rfl rfl (Nat.le_of_ble_eq_true rfl) (Nat.le_of_ble_eq_true rfl) (jrv_of oh10 k12 (by decide) rfl (by decide) rfl _) rfl (mj_Ok.up (Nat.add_le_add_left (by decide) D) (jc_27 (D := D) ty hg oh10 k12 ka2 rp4 rp5)) rfl rfl (fun v13 h14 qv13 oh14 => ?_)
      obtain ⟨z15, az15, bz15, rfl⟩ := qv13
      have rz15 : -2147483648 ≤ z15 ∧ z15 ≤ 2147483647 := ⟨by omega, by omega⟩
      refine mj_T.eq (pc2 := 70) (st2 := [.int (jn z15)]) ?_ rfl rfl rfl rfl
      refine jT.if0 rfl rz15 (fun c70 => ?_) (fun c70 => ?_)
      · have c70 := jne1 c70
        refine mj_T.pl rfl rfl rfl rfl ?_
        refine jT.getR 19 116 16 ty oh14 rfl kp0 (by decide) rfl rfl rfl (fun k16 => ?_)
        iterate 2 refine mj_T.pl rfl rfl rfl rfl ?_
        refine jT.callp rfl rfl (Nat.le_of_ble_eq_true rfl) (Nat.le_of_ble_eq_true rfl) rfl rfl (mj_Ok.up (Nat.add_le_add_left (by decide) D) (jc_169 (D := D) ty hg oh14 ka2)) rfl rfl (fun v17 qv17 => ?_)
        obtain ⟨z18, jz18, rfl⟩ := qv17
        refine mj_T.eq (pc2 := 92) (st2 := [.long (jl z18), .ref a2, .ref (R p0 8)]) ?_ rfl rfl rfl rfl
        refine jT.call rfl rfl (Nat.le_of_ble_eq_true rfl) (Nat.le_of_ble_eq_true rfl) (jrv_of oh14 k16 (by decide) rfl (by decide) rfl _) rfl (mj_Ok.up (Nat.add_le_add_left (by decide) D) (jc_68 (D := D) ty hg oh14 k16 ka2 jz18)) rfl rfl (fun v19 h20 qv19 oh20 => ?_)
        obtain rfl : v19 = none := qv19
        refine mj_T.eq (pc2 := 95) (st2 := []) ?_ rfl rfl rfl rfl
        refine mj_T.pl rfl rfl rfl rfl ?_
        refine jT.getR 19 116 16 ty oh20 rfl kp0 (by decide) rfl rfl rfl (fun k21 => ?_)
        iterate 2 refine mj_T.pl rfl rfl rfl rfl ?_
        refine jT.imul rfl (fun z22 rz22 ez22 => ?_)
        clear ez22
        refine jT.i2l rfl rz22 ?_
        have j23 : jR z22 := ⟨by omega, by omega⟩
        refine jT.call rfl rfl (Nat.le_of_ble_eq_true rfl) (Nat.le_of_ble_eq_true rfl) (jrv_of oh20 k21 (by decide) rfl (by decide) rfl _) rfl (mj_Ok.up (Nat.add_le_add_left (by decide) D) (jc_74 (D := D) ty hg oh20 k21 j23)) rfl rfl (fun v24 h25 qv24 oh25 => ?_)
        obtain rfl : v24 = none := qv24
        refine mj_T.eq (pc2 := 107) (st2 := []) ?_ rfl rfl rfl rfl
        refine mj_T.pl rfl rfl rfl rfl ?_
        refine jT.getR 19 116 16 ty oh25 rfl kp0 (by decide) rfl rfl rfl (fun k26 => ?_)
        iterate 2 refine mj_T.pl rfl rfl rfl rfl ?_
        refine jT.imul rfl (fun z27 rz27 ez27 => ?_)
        clear ez27
        refine jT.i2l rfl rz27 ?_
        have j28 : jR z27 := ⟨by omega, by omega⟩
        refine jT.call rfl rfl (Nat.le_of_ble_eq_true rfl) (Nat.le_of_ble_eq_true rfl) (jrv_of oh25 k26 (by decide) rfl (by decide) rfl _) rfl (mj_Ok.up (Nat.add_le_add_left (by decide) D) (jc_75 (D := D) ty hg oh25 k26 j28)) rfl rfl (fun v29 h30 qv29 oh30 => ?_)
        obtain ⟨z31, az31, bz31, rfl⟩ := qv29
        have rz31 : -2147483648 ≤ z31 ∧ z31 ≤ 2147483647 := ⟨by omega, by omega⟩
        refine mj_T.eq (pc2 := 119) (st2 := [.int (jn z31)]) ?_ rfl rfl rfl rfl
        refine mj_T.pl rfl rfl rfl rfl ?_
        refine jT.getR 19 116 16 ty oh30 rfl kp0 (by decide) rfl rfl rfl (fun k32 => ?_)
        iterate 2 refine mj_T.pl rfl rfl rfl rfl ?_
        refine jT.imul rfl (fun z33 rz33 ez33 => ?_)
        clear ez33
        refine jT.i2l rfl rz33 ?_
        have j34 : jR z33 := ⟨by omega, by omega⟩
        refine jT.call rfl rfl (Nat.le_of_ble_eq_true rfl) (Nat.le_of_ble_eq_true rfl) (jrv_of oh30 k32 (by decide) rfl (by decide) rfl _) rfl (mj_Ok.up (Nat.add_le_add_left (by decide) D) (jc_75 (D := D) ty hg oh30 k32 j34)) rfl rfl (fun v35 h36 qv35 oh36 => ?_)
        obtain ⟨z37, az37, bz37, rfl⟩ := qv35
        have rz37 : -2147483648 ≤ z37 ∧ z37 ≤ 2147483647 := ⟨by omega, by omega⟩
        refine mj_T.eq (pc2 := 131) (st2 := [.int (jn z37), .int (jn z31)]) ?_ rfl rfl rfl rfl
        refine jT.isub rfl (fun z38 rz38 ez38 => ?_)
        clear ez38
        exact jT.ret oh36 rfl rfl rfl ⟨z38, by omega, by omega, rfl⟩
      · have c70 := jne2 c70
        exact jT.thr oh14 hg rfl rfl rfl (Nat.le_of_ble_eq_true rfl) rfl
  · have c27 := of_decide_eq_false c27
    exact jT.thr o hg rfl rfl rfl (Nat.le_of_ble_eq_true rfl) rfl
-- PolyRegisters.sturmLength(I)I
theorem jc_133 {D n : Nat} {tm : Int} {h g : mj_H} {K L : Nat → Nat} {R : Nat → Nat → Nat} {p0 : Nat} {p1 : Int} (ty : jTY K L R) (hg : g.length ≤ n) (o : jO K L R g n tm h) (kp0 : K p0 = 19) (rp1 : -2147483648 ≤ p1 ∧ p1 ≤ 2147483647) : mj_Ok (D + 7) 133 [.ref p0, .int (jn p1)] h (jQ K L R g n tm [0, 3] (jVi (-2147483648) 2147483647)) := by
  refine mj_Ok.of (M := mj_m133) (loc := [some (.ref p0), some (.int (jn p1)), none]) rfl rfl rfl ?_
  iterate 2 refine mj_T.pl rfl rfl rfl rfl ?_
  refine jT.callp rfl rfl (Nat.le_of_ble_eq_true rfl) (Nat.le_of_ble_eq_true rfl) (jrv_of o kp0 (by decide) rfl (by decide) rfl _) rfl (mj_Ok.up (Nat.add_le_add_left (by decide) D) (jc_149 (D := D) ty hg o kp0 rp1)) rfl rfl (fun v1 qv1 => ?_)
  obtain ⟨a2, ka2, rfl⟩ := qv1
  refine mj_T.eq (pc2 := 5) (st2 := [.ref a2]) ?_ rfl rfl rfl rfl
  refine mj_T.pl (loc' := [some (.ref p0), some (.int (jn p1)), some (.ref a2)]) rfl rfl rfl rfl ?_
  refine mj_T.pl rfl rfl rfl rfl ?_
  refine jT.callp rfl rfl (Nat.le_of_ble_eq_true rfl) (Nat.le_of_ble_eq_true rfl) rfl rfl (mj_Ok.up (Nat.add_le_add_left (by decide) D) (jc_153 (D := D) ty hg o ka2)) rfl rfl (fun v3 qv3 => ?_)
  obtain rfl : v3 = none := qv3
  refine mj_T.eq (pc2 := 10) (st2 := []) ?_ rfl rfl rfl rfl
  refine mj_T.pl rfl rfl rfl rfl ?_
  refine jT.getR 19 116 16 ty o rfl kp0 (by decide) rfl rfl rfl (fun k4 => ?_)
  iterate 2 refine mj_T.pl rfl rfl rfl rfl ?_
  refine jT.callp rfl rfl (Nat.le_of_ble_eq_true rfl) (Nat.le_of_ble_eq_true rfl) rfl rfl (mj_Ok.up (Nat.add_le_add_left (by decide) D) (jc_169 (D := D) ty hg o ka2)) rfl rfl (fun v5 qv5 => ?_)
  obtain ⟨z6, jz6, rfl⟩ := qv5
  refine mj_T.eq (pc2 := 19) (st2 := [.long (jl z6), .ref a2, .ref (R p0 8)]) ?_ rfl rfl rfl rfl
  refine jT.call rfl rfl (Nat.le_of_ble_eq_true rfl) (Nat.le_of_ble_eq_true rfl) (jrv_of o k4 (by decide) rfl (by decide) rfl _) rfl (mj_Ok.up (Nat.add_le_add_left (by decide) D) (jc_68 (D := D) ty hg o k4 ka2 jz6)) rfl rfl (fun v7 h8 qv7 oh8 => ?_)
  obtain rfl : v7 = none := qv7
  refine mj_T.eq (pc2 := 22) (st2 := []) ?_ rfl rfl rfl rfl
  refine mj_T.pl rfl rfl rfl rfl ?_
  refine jT.getR 19 116 16 ty oh8 rfl kp0 (by decide) rfl rfl rfl (fun k9 => ?_)
  refine jT.getI 16 0 oh8 rfl k9 (by decide) rfl rfl rfl (fun z10 (az10 : (-2147483648) ≤ z10) (bz10 : z10 ≤ 2147483647) fz10 => ?_)
  have rz10 : -2147483648 ≤ z10 ∧ z10 ≤ 2147483647 := ⟨by omega, by omega⟩
  exact jT.ret oh8 rfl rfl rfl ⟨z10, by omega, by omega, rfl⟩
-- PolyRegisters.changes(III)I
theorem jc_134 {D n : Nat} {tm : Int} {h g : mj_H} {K L : Nat → Nat} {R : Nat → Nat → Nat} {p0 : Nat} {p1 : Int} {p2 : Int} {p3 : Int} (ty : jTY K L R) (hg : g.length ≤ n) (o : jO K L R g n tm h) (kp0 : K p0 = 19) (rp1 : -2147483648 ≤ p1 ∧ p1 ≤ 2147483647) (rp2 : -2147483648 ≤ p2 ∧ p2 ≤ 2147483647) (rp3 : -2147483648 ≤ p3 ∧ p3 ≤ 2147483647) : mj_Ok (D + 7) 134 [.ref p0, .int (jn p1), .int (jn p2), .int (jn p3)] h (jQ K L R g n tm [0, 2, 3] (jVi (-2147483648) 2147483647)) := by
  refine mj_Ok.of (M := mj_m134) (loc := [some (.ref p0), some (.int (jn p1)), some (.int (jn p2)), some (.int (jn p3)), none]) rfl rfl rfl ?_
  iterate 2 refine mj_T.pl rfl rfl rfl rfl ?_
  refine jT.callp rfl rfl (Nat.le_of_ble_eq_true rfl) (Nat.le_of_ble_eq_true rfl) (jrv_of o kp0 (by decide) rfl (by decide) rfl _) rfl (mj_Ok.up (Nat.add_le_add_left (by decide) D) (jc_149 (D := D) ty hg o kp0 rp1)) rfl rfl (fun v1 qv1 => ?_)
  obtain ⟨a2, ka2, rfl⟩ := qv1
  refine mj_T.eq (pc2 := 5) (st2 := [.ref a2]) ?_ rfl rfl rfl rfl
  refine mj_T.pl (loc' := [some (.ref p0), some (.int (jn p1)), some (.int (jn p2)), some (.int (jn p3)), some (.ref a2)]) rfl rfl rfl rfl ?_
  iterate 2 refine mj_T.pl rfl rfl rfl rfl ?_
  refine jT.callp rfl rfl (Nat.le_of_ble_eq_true rfl) (Nat.le_of_ble_eq_true rfl) rfl rfl (mj_Ok.up (Nat.add_le_add_left (by decide) D) (jc_151 (D := D) ty hg o rp2 rp3)) rfl rfl (fun v3 qv3 => ?_)
  obtain rfl : v3 = none := qv3
  refine mj_T.eq (pc2 := 12) (st2 := []) ?_ rfl rfl rfl rfl
  refine mj_T.pl rfl rfl rfl rfl ?_
  refine jT.callp rfl rfl (Nat.le_of_ble_eq_true rfl) (Nat.le_of_ble_eq_true rfl) rfl rfl (mj_Ok.up (Nat.add_le_add_left (by decide) D) (jc_153 (D := D) ty hg o ka2)) rfl rfl (fun v4 qv4 => ?_)
  obtain rfl : v4 = none := qv4
  refine mj_T.eq (pc2 := 17) (st2 := []) ?_ rfl rfl rfl rfl
  refine mj_T.pl rfl rfl rfl rfl ?_
  refine jT.getR 19 116 16 ty o rfl kp0 (by decide) rfl rfl rfl (fun k5 => ?_)
  iterate 2 refine mj_T.pl rfl rfl rfl rfl ?_
  refine jT.callp rfl rfl (Nat.le_of_ble_eq_true rfl) (Nat.le_of_ble_eq_true rfl) rfl rfl (mj_Ok.up (Nat.add_le_add_left (by decide) D) (jc_169 (D := D) ty hg o ka2)) rfl rfl (fun v6 qv6 => ?_)
  obtain ⟨z7, jz7, rfl⟩ := qv6
  refine mj_T.eq (pc2 := 28) (st2 := [.long (jl z7), .ref a2, .ref (R p0 8)]) ?_ rfl rfl rfl rfl
  refine jT.call rfl rfl (Nat.le_of_ble_eq_true rfl) (Nat.le_of_ble_eq_true rfl) (jrv_of o k5 (by decide) rfl (by decide) rfl _) rfl (mj_Ok.up (Nat.add_le_add_left (by decide) D) (jc_68 (D := D) ty hg o k5 ka2 jz7)) rfl rfl (fun v8 h9 qv8 oh9 => ?_)
  obtain rfl : v8 = none := qv8
  refine mj_T.eq (pc2 := 31) (st2 := []) ?_ rfl rfl rfl rfl
  refine mj_T.pl rfl rfl rfl rfl ?_
  refine jT.getR 19 116 16 ty oh9 rfl kp0 (by decide) rfl rfl rfl (fun k10 => ?_)
  refine mj_T.pl rfl rfl rfl rfl ?_
  refine jT.i2l rfl rp3 ?_
  have j11 : jR p3 := ⟨by omega, by omega⟩
  refine jT.call rfl rfl (Nat.le_of_ble_eq_true rfl) (Nat.le_of_ble_eq_true rfl) (jrv_of oh9 k10 (by decide) rfl (by decide) rfl _) rfl (mj_Ok.up (Nat.add_le_add_left (by decide) D) (jc_74 (D := D) ty hg oh9 k10 j11)) rfl rfl (fun v12 h13 qv12 oh13 => ?_)
  obtain rfl : v12 = none := qv12
  refine mj_T.eq (pc2 := 40) (st2 := []) ?_ rfl rfl rfl rfl
  refine mj_T.pl rfl rfl rfl rfl ?_
  refine jT.getR 19 116 16 ty oh13 rfl kp0 (by decide) rfl rfl rfl (fun k14 => ?_)
  refine mj_T.pl rfl rfl rfl rfl ?_
  refine jT.i2l rfl rp2 ?_
  have j15 : jR p2 := ⟨by omega, by omega⟩
  refine jT.call rfl rfl (Nat.le_of_ble_eq_true rfl) (Nat.le_of_ble_eq_true rfl) (jrv_of oh13 k14 (by decide) rfl (by decide) rfl _) rfl (mj_Ok.up (Nat.add_le_add_left (by decide) D) (jc_75 (D := D) ty hg oh13 k14 j15)) rfl rfl (fun v16 h17 qv16 oh17 => ?_)
  obtain ⟨z18, az18, bz18, rfl⟩ := qv16
  have rz18 : -2147483648 ≤ z18 ∧ z18 ≤ 2147483647 := ⟨by omega, by omega⟩
  refine mj_T.eq (pc2 := 49) (st2 := [.int (jn z18)]) ?_ rfl rfl rfl rfl
  exact jT.ret oh17 rfl rfl rfl ⟨z18, by omega, by omega, rfl⟩
-- PolyRegisters.closeIn(III)I
theorem jc_135 {D n : Nat} {tm : Int} {h g : mj_H} {K L : Nat → Nat} {R : Nat → Nat → Nat} {p0 : Nat} {p1 : Int} {p2 : Int} {p3 : Int} (ty : jTY K L R) (hg : g.length ≤ n) (o : jO K L R g n tm h) (kp0 : K p0 = 19) (rp1 : -2147483648 ≤ p1 ∧ p1 ≤ 2147483647) (rp2 : -2147483648 ≤ p2 ∧ p2 ≤ 2147483647) (rp3 : -2147483648 ≤ p3 ∧ p3 ≤ 2147483647) : mj_Ok (D + 7) 135 [.ref p0, .int (jn p1), .int (jn p2), .int (jn p3)] h (jQ K L R g n tm [0, 2] (jVi (-2147483648) 2147483647)) := by
  refine mj_Ok.of (M := mj_m135) (loc := [some (.ref p0), some (.int (jn p1)), some (.int (jn p2)), some (.int (jn p3)), none]) rfl rfl rfl ?_
  iterate 2 refine mj_T.pl rfl rfl rfl rfl ?_
  refine jT.callp rfl rfl (Nat.le_of_ble_eq_true rfl) (Nat.le_of_ble_eq_true rfl) (jrv_of o kp0 (by decide) rfl (by decide) rfl _) rfl (mj_Ok.up (Nat.add_le_add_left (by decide) D) (jc_149 (D := D) ty hg o kp0 rp1)) rfl rfl (fun v1 qv1 => ?_)
  obtain ⟨a2, ka2, rfl⟩ := qv1
  refine mj_T.eq (pc2 := 5) (st2 := [.ref a2]) ?_ rfl rfl rfl rfl
  refine mj_T.pl (loc' := [some (.ref p0), some (.int (jn p1)), some (.int (jn p2)), some (.int (jn p3)), some (.ref a2)]) rfl rfl rfl rfl ?_
  refine mj_T.pl rfl rfl rfl rfl ?_
  refine jT.if0 rfl rp2 (fun c8 => ?_) (fun c8 => ?_)
  · have c8 := of_decide_eq_true c8
    exact jT.thr o hg rfl rfl rfl (Nat.le_of_ble_eq_true rfl) rfl
  · have c8 := of_decide_eq_false c8
    iterate 2 refine mj_T.pl rfl rfl rfl rfl ?_
    refine jT.callp rfl rfl (Nat.le_of_ble_eq_true rfl) (Nat.le_of_ble_eq_true rfl) rfl rfl (mj_Ok.up (Nat.add_le_add_left (by decide) D) (jc_162 (D := D) ty hg o ka2)) rfl rfl (fun v3 qv3 => ?_)
    obtain ⟨z4, az4, bz4, rfl⟩ := qv3
    have rz4 : -2147483648 ≤ z4 ∧ z4 ≤ 2147483647 := ⟨by omega, by omega⟩
    refine mj_T.eq (pc2 := 17) (st2 := [.int (jn z4), .int (jn p2)]) ?_ rfl rfl rfl rfl
    refine jT.icmp rfl rp2 rz4 (fun c17 => ?_) (fun c17 => ?_)
    · have c17 := of_decide_eq_true c17
      refine mj_T.pl rfl rfl rfl rfl ?_
      refine jT.getR 19 115 15 ty o rfl kp0 (by decide) rfl rfl rfl (fun k5 => ?_)
      refine mj_T.pl rfl rfl rfl rfl ?_
      refine jT.call rfl rfl (Nat.le_of_ble_eq_true rfl) (Nat.le_of_ble_eq_true rfl) (jrv_of o k5 (by decide) rfl (by decide) rfl _) rfl (mj_Ok.up (Nat.add_le_add_left (by decide) D) (jc_61 (D := D) ty hg o k5 ka2)) rfl rfl (fun v6 h7 qv6 oh7 => ?_)
      obtain rfl : v6 = none := qv6
      refine mj_T.eq (pc2 := 37) (st2 := []) ?_ rfl rfl rfl rfl
      iterate 2 refine mj_T.pl rfl rfl rfl rfl ?_
      refine jT.getR 19 115 15 ty oh7 rfl kp0 (by decide) rfl rfl rfl (fun k8 => ?_)
      refine jT.call rfl rfl (Nat.le_of_ble_eq_true rfl) (Nat.le_of_ble_eq_true rfl) (jrv_of oh7 k8 (by decide) rfl (by decide) rfl _) rfl (mj_Ok.up (Nat.add_le_add_left (by decide) D) (jc_63 (D := D) ty hg oh7 k8)) rfl rfl (fun v9 h10 qv9 oh10 => ?_)
      obtain ⟨z11, az11, bz11, rfl⟩ := qv9
      have rz11 : -2147483648 ≤ z11 ∧ z11 ≤ 2147483647 := ⟨by omega, by omega⟩
      refine mj_T.eq (pc2 := 45) (st2 := [.int (jn z11), .int (jn p2)]) ?_ rfl rfl rfl rfl
      refine jT.icmp rfl rp2 rz11 (fun c45 => ?_) (fun c45 => ?_)
      · have c45 := of_decide_eq_true c45
        refine mj_T.pl rfl rfl rfl rfl ?_
        refine jT.if0 rfl rp3 (fun c57 => ?_) (fun c57 => ?_)
        · have c57 := of_decide_eq_true c57
          exact jT.thr oh10 hg rfl rfl rfl (Nat.le_of_ble_eq_true rfl) rfl
        · have c57 := of_decide_eq_false c57
          iterate 2 refine mj_T.pl rfl rfl rfl rfl ?_
          refine jT.icmp rfl rp3 ⟨by decide, by decide⟩ (fun c63 => ?_) (fun c63 => ?_)
          · have c63 := of_decide_eq_true c63
            refine mj_T.pl rfl rfl rfl rfl ?_
            refine jT.getR 19 115 15 ty oh10 rfl kp0 (by decide) rfl rfl rfl (fun k12 => ?_)
            refine jT.lc 1 rfl rfl ?_
            refine mj_T.pl rfl rfl rfl rfl ?_
            refine mj_T.pl rfl rfl rfl rfl ?_
            refine jT.anyL (fun z13 jz13 => ?_)
            refine jT.call rfl rfl (Nat.le_of_ble_eq_true rfl) (Nat.le_of_ble_eq_true rfl) (jrv_of oh10 k12 (by decide) rfl (by decide) rfl _) rfl (mj_Ok.up (Nat.add_le_add_left (by decide) D) (jc_64 (D := D) ty hg oh10 k12 jz13)) rfl rfl (fun v14 h15 qv14 oh15 => ?_)
            obtain rfl : v14 = none := qv14
            refine mj_T.eq (pc2 := 84) (st2 := []) ?_ rfl rfl rfl rfl
            refine mj_T.pl rfl rfl rfl rfl ?_
            refine jT.getR 19 115 15 ty oh15 rfl kp0 (by decide) rfl rfl rfl (fun k16 => ?_)
            refine mj_T.pl rfl rfl rfl rfl ?_
            refine jT.call rfl rfl (Nat.le_of_ble_eq_true rfl) (Nat.le_of_ble_eq_true rfl) (jrv_of oh15 k16 (by decide) rfl (by decide) rfl _) rfl (mj_Ok.up (Nat.add_le_add_left (by decide) D) (jc_65 (D := D) ty hg oh15 k16 rp2)) rfl rfl (fun v17 h18 qv17 oh18 => ?_)
            obtain rfl : v17 = none := qv17
            refine mj_T.eq (pc2 := 92) (st2 := []) ?_ rfl rfl rfl rfl
            iterate 2 refine mj_T.pl rfl rfl rfl rfl ?_
            refine jT.getR 19 115 15 ty oh18 rfl kp0 (by decide) rfl rfl rfl (fun k19 => ?_)
            refine jT.getR 15 118 18 ty oh18 rfl k19 (by decide) rfl rfl rfl (fun k20 => ?_)
            refine jT.lc 1 rfl rfl ?_
            refine mj_T.pl rfl rfl rfl rfl ?_
            refine jT.call rfl rfl (Nat.le_of_ble_eq_true rfl) (Nat.le_of_ble_eq_true rfl) (jrv_of oh18 kp0 (by decide) rfl (by decide) rfl _) rfl (mj_Ok.up (Nat.add_le_add_left (by decide) D) (jc_159 (D := D) ty hg oh18 kp0 k20 ⟨by decide, by decide⟩ ⟨by decide, by decide⟩)) rfl rfl (fun v21 h22 qv21 oh22 => ?_)
            obtain ⟨z23, az23, bz23, rfl⟩ := qv21
            have rz23 : -2147483648 ≤ z23 ∧ z23 ≤ 2147483647 := ⟨by omega, by omega⟩
            refine mj_T.eq (pc2 := 105) (st2 := [.int (jn z23)]) ?_ rfl rfl rfl rfl
            exact jT.ret oh22 rfl rfl rfl ⟨z23, by omega, by omega, rfl⟩
          · have c63 := of_decide_eq_false c63
            exact jT.thr oh10 hg rfl rfl rfl (Nat.le_of_ble_eq_true rfl) rfl
      · have c45 := of_decide_eq_false c45
        exact jT.thr oh10 hg rfl rfl rfl (Nat.le_of_ble_eq_true rfl) rfl
    · have c17 := of_decide_eq_false c17
      exact jT.thr o hg rfl rfl rfl (Nat.le_of_ble_eq_true rfl) rfl
-- PolyRegisters.fractionRoots(I)I
theorem jc_136 {D n : Nat} {tm : Int} {h g : mj_H} {K L : Nat → Nat} {R : Nat → Nat → Nat} {p0 : Nat} {p1 : Int} (ty : jTY K L R) (hg : g.length ≤ n) (o : jO K L R g n tm h) (kp0 : K p0 = 19) (rp1 : -2147483648 ≤ p1 ∧ p1 ≤ 2147483647) : mj_Ok (D + 7) 136 [.ref p0, .int (jn p1)] h (jQ K L R g n tm [0, 3] (jVi (-2147483648) 2147483647)) := by
  refine mj_Ok.of (M := mj_m136) (loc := [some (.ref p0), some (.int (jn p1)), none]) rfl rfl rfl ?_
  iterate 2 refine mj_T.pl rfl rfl rfl rfl ?_
  refine jT.callp rfl rfl (Nat.le_of_ble_eq_true rfl) (Nat.le_of_ble_eq_true rfl) (jrv_of o kp0 (by decide) rfl (by decide) rfl _) rfl (mj_Ok.up (Nat.add_le_add_left (by decide) D) (jc_149 (D := D) ty hg o kp0 rp1)) rfl rfl (fun v1 qv1 => ?_)
  obtain ⟨a2, ka2, rfl⟩ := qv1
  refine mj_T.eq (pc2 := 5) (st2 := [.ref a2]) ?_ rfl rfl rfl rfl
  refine mj_T.pl (loc' := [some (.ref p0), some (.int (jn p1)), some (.ref a2)]) rfl rfl rfl rfl ?_
  refine mj_T.pl rfl rfl rfl rfl ?_
  refine jT.callp rfl rfl (Nat.le_of_ble_eq_true rfl) (Nat.le_of_ble_eq_true rfl) rfl rfl (mj_Ok.up (Nat.add_le_add_left (by decide) D) (jc_153 (D := D) ty hg o ka2)) rfl rfl (fun v3 qv3 => ?_)
  obtain rfl : v3 = none := qv3
  refine mj_T.eq (pc2 := 10) (st2 := []) ?_ rfl rfl rfl rfl
  refine mj_T.pl rfl rfl rfl rfl ?_
  refine jT.getR 19 115 15 ty o rfl kp0 (by decide) rfl rfl rfl (fun k4 => ?_)
  refine mj_T.pl rfl rfl rfl rfl ?_
  refine jT.call rfl rfl (Nat.le_of_ble_eq_true rfl) (Nat.le_of_ble_eq_true rfl) (jrv_of o k4 (by decide) rfl (by decide) rfl _) rfl (mj_Ok.up (Nat.add_le_add_left (by decide) D) (jc_61 (D := D) ty hg o k4 ka2)) rfl rfl (fun v5 h6 qv5 oh6 => ?_)
  obtain rfl : v5 = none := qv5
  refine mj_T.eq (pc2 := 18) (st2 := []) ?_ rfl rfl rfl rfl
  refine mj_T.pl rfl rfl rfl rfl ?_
  refine jT.getR 19 115 15 ty oh6 rfl kp0 (by decide) rfl rfl rfl (fun k7 => ?_)
  refine jT.call rfl rfl (Nat.le_of_ble_eq_true rfl) (Nat.le_of_ble_eq_true rfl) (jrv_of oh6 k7 (by decide) rfl (by decide) rfl _) rfl (mj_Ok.up (Nat.add_le_add_left (by decide) D) (jc_63 (D := D) ty hg oh6 k7)) rfl rfl (fun v8 h9 qv8 oh9 => ?_)
  obtain ⟨z10, az10, bz10, rfl⟩ := qv8
  have rz10 : -2147483648 ≤ z10 ∧ z10 ≤ 2147483647 := ⟨by omega, by omega⟩
  refine mj_T.eq (pc2 := 25) (st2 := [.int (jn z10)]) ?_ rfl rfl rfl rfl
  iterate 2 refine mj_T.pl rfl rfl rfl rfl ?_
  refine jT.getR 19 115 15 ty oh9 rfl kp0 (by decide) rfl rfl rfl (fun k11 => ?_)
  refine mj_T.pl rfl rfl rfl rfl ?_
  refine jT.call rfl rfl (Nat.le_of_ble_eq_true rfl) (Nat.le_of_ble_eq_true rfl) (jrv_of oh9 k11 (by decide) rfl (by decide) rfl _) rfl (mj_Ok.up (Nat.add_le_add_left (by decide) D) (jc_66 (D := D) ty hg oh9 k11 ⟨by decide, by decide⟩)) rfl rfl (fun v12 h13 qv12 oh13 => ?_)
  obtain ⟨z14, az14, bz14, rfl⟩ := qv12
  have rz14 : -2147483648 ≤ z14 ∧ z14 ≤ 2147483647 := ⟨by omega, by omega⟩
  refine mj_T.eq (pc2 := 35) (st2 := [.int (jn z14)]) ?_ rfl rfl rfl rfl
  exact jT.ret oh13 rfl rfl rfl ⟨z14, by omega, by omega, rfl⟩
-- PolyRegisters.fractionRoot(II)I
theorem jc_137 {D n : Nat} {tm : Int} {h g : mj_H} {K L : Nat → Nat} {R : Nat → Nat → Nat} {p0 : Nat} {p1 : Int} {p2 : Int} (ty : jTY K L R) (hg : g.length ≤ n) (o : jO K L R g n tm h) (kp0 : K p0 = 19) (rp1 : -2147483648 ≤ p1 ∧ p1 ≤ 2147483647) (rp2 : -2147483648 ≤ p2 ∧ p2 ≤ 2147483647) : mj_Ok (D + 7) 137 [.ref p0, .int (jn p1), .int (jn p2)] h (jQ K L R g n tm [0] (jVi (-2147483648) 2147483647)) := by
  refine mj_Ok.of (M := mj_m137) (loc := [some (.ref p0), some (.int (jn p1)), some (.int (jn p2)), none]) rfl rfl rfl ?_
  iterate 2 refine mj_T.pl rfl rfl rfl rfl ?_
  refine jT.callp rfl rfl (Nat.le_of_ble_eq_true rfl) (Nat.le_of_ble_eq_true rfl) (jrv_of o kp0 (by decide) rfl (by decide) rfl _) rfl (mj_Ok.up (Nat.add_le_add_left (by decide) D) (jc_149 (D := D) ty hg o kp0 rp1)) rfl rfl (fun v1 qv1 => ?_)
  obtain ⟨a2, ka2, rfl⟩ := qv1
  refine mj_T.eq (pc2 := 5) (st2 := [.ref a2]) ?_ rfl rfl rfl rfl
  refine mj_T.pl (loc' := [some (.ref p0), some (.int (jn p1)), some (.int (jn p2)), some (.ref a2)]) rfl rfl rfl rfl ?_
  refine mj_T.pl rfl rfl rfl rfl ?_
  refine jT.if0 rfl rp2 (fun c7 => ?_) (fun c7 => ?_)
  · have c7 := of_decide_eq_true c7
    exact jT.thr o hg rfl rfl rfl (Nat.le_of_ble_eq_true rfl) rfl
  · have c7 := of_decide_eq_false c7
    iterate 2 refine mj_T.pl rfl rfl rfl rfl ?_
    refine jT.callp rfl rfl (Nat.le_of_ble_eq_true rfl) (Nat.le_of_ble_eq_true rfl) rfl rfl (mj_Ok.up (Nat.add_le_add_left (by decide) D) (jc_162 (D := D) ty hg o ka2)) rfl rfl (fun v3 qv3 => ?_)
    obtain ⟨z4, az4, bz4, rfl⟩ := qv3
    have rz4 : -2147483648 ≤ z4 ∧ z4 ≤ 2147483647 := ⟨by omega, by omega⟩
    refine mj_T.eq (pc2 := 15) (st2 := [.int (jn z4), .int (jn p2)]) ?_ rfl rfl rfl rfl
    refine jT.icmp rfl rp2 rz4 (fun c15 => ?_) (fun c15 => ?_)
    · have c15 := of_decide_eq_true c15
      refine mj_T.pl rfl rfl rfl rfl ?_
      refine jT.getR 19 115 15 ty o rfl kp0 (by decide) rfl rfl rfl (fun k5 => ?_)
      refine mj_T.pl rfl rfl rfl rfl ?_
      refine jT.call rfl rfl (Nat.le_of_ble_eq_true rfl) (Nat.le_of_ble_eq_true rfl) (jrv_of o k5 (by decide) rfl (by decide) rfl _) rfl (mj_Ok.up (Nat.add_le_add_left (by decide) D) (jc_61 (D := D) ty hg o k5 ka2)) rfl rfl (fun v6 h7 qv6 oh7 => ?_)
      obtain rfl : v6 = none := qv6
      refine mj_T.eq (pc2 := 34) (st2 := []) ?_ rfl rfl rfl rfl
      refine mj_T.pl rfl rfl rfl rfl ?_
      refine jT.getR 19 115 15 ty oh7 rfl kp0 (by decide) rfl rfl rfl (fun k8 => ?_)
      refine jT.call rfl rfl (Nat.le_of_ble_eq_true rfl) (Nat.le_of_ble_eq_true rfl) (jrv_of oh7 k8 (by decide) rfl (by decide) rfl _) rfl (mj_Ok.up (Nat.add_le_add_left (by decide) D) (jc_63 (D := D) ty hg oh7 k8)) rfl rfl (fun v9 h10 qv9 oh10 => ?_)
      obtain ⟨z11, az11, bz11, rfl⟩ := qv9
      have rz11 : -2147483648 ≤ z11 ∧ z11 ≤ 2147483647 := ⟨by omega, by omega⟩
      refine mj_T.eq (pc2 := 41) (st2 := [.int (jn z11)]) ?_ rfl rfl rfl rfl
      iterate 2 refine mj_T.pl rfl rfl rfl rfl ?_
      refine jT.getR 19 115 15 ty oh10 rfl kp0 (by decide) rfl rfl rfl (fun k12 => ?_)
      iterate 2 refine mj_T.pl rfl rfl rfl rfl ?_
      refine jT.iadd rfl (fun z13 rz13 ez13 => ?_)
      replace ez13 := ez13 ⟨by omega, by omega⟩
      refine jT.call rfl rfl (Nat.le_of_ble_eq_true rfl) (Nat.le_of_ble_eq_true rfl) (jrv_of oh10 k12 (by decide) rfl (by decide) rfl _) rfl (mj_Ok.up (Nat.add_le_add_left (by decide) D) (jc_66 (D := D) ty hg oh10 k12 rz13)) rfl rfl (fun v14 h15 qv14 oh15 => ?_)
      obtain ⟨z16, az16, bz16, rfl⟩ := qv14
      have rz16 : -2147483648 ≤ z16 ∧ z16 ≤ 2147483647 := ⟨by omega, by omega⟩
      refine mj_T.eq (pc2 := 52) (st2 := [.int (jn z16)]) ?_ rfl rfl rfl rfl
      refine mj_T.pl rfl rfl rfl rfl ?_
      refine jT.icmp rfl rz16 rp2 (fun c53 => ?_) (fun c53 => ?_)
      · have c53 := of_decide_eq_true c53
        iterate 2 refine mj_T.pl rfl rfl rfl rfl ?_
        refine jT.getR 19 115 15 ty oh15 rfl kp0 (by decide) rfl rfl rfl (fun k17 => ?_)
        refine jT.getR 15 118 18 ty oh15 rfl k17 (by decide) rfl rfl rfl (fun k18 => ?_)
        refine mj_T.pl rfl rfl rfl rfl ?_
        refine jT.getR 19 115 15 ty oh15 rfl kp0 (by decide) rfl rfl rfl (fun k19 => ?_)
        refine jT.getL 15 oh15 rfl k19 (by decide) rfl rfl (fun z20 jz20 => ?_)
        refine mj_T.pl rfl rfl rfl rfl ?_
        refine jT.call rfl rfl (Nat.le_of_ble_eq_true rfl) (Nat.le_of_ble_eq_true rfl) (jrv_of oh15 kp0 (by decide) rfl (by decide) rfl _) rfl (mj_Ok.up (Nat.add_le_add_left (by decide) D) (jc_159 (D := D) ty hg oh15 kp0 k18 jz20 ⟨by decide, by decide⟩)) rfl rfl (fun v21 h22 qv21 oh22 => ?_)
        obtain ⟨z23, az23, bz23, rfl⟩ := qv21
        have rz23 : -2147483648 ≤ z23 ∧ z23 ≤ 2147483647 := ⟨by omega, by omega⟩
        refine mj_T.eq (pc2 := 83) (st2 := [.int (jn z23)]) ?_ rfl rfl rfl rfl
        exact jT.ret oh22 rfl rfl rfl ⟨z23, by omega, by omega, rfl⟩
      · have c53 := of_decide_eq_false c53
        exact jT.thr oh15 hg rfl rfl rfl (Nat.le_of_ble_eq_true rfl) rfl
    · have c15 := of_decide_eq_false c15
      exact jT.thr o hg rfl rfl rfl (Nat.le_of_ble_eq_true rfl) rfl
-- PolyRegisters.rootsBy(II)I
theorem jc_138 {D n : Nat} {tm : Int} {h g : mj_H} {K L : Nat → Nat} {R : Nat → Nat → Nat} {p0 : Nat} {p1 : Int} {p2 : Int} (ty : jTY K L R) (hg : g.length ≤ n) (o : jO K L R g n tm h) (kp0 : K p0 = 19) (rp1 : -2147483648 ≤ p1 ∧ p1 ≤ 2147483647) (rp2 : -2147483648 ≤ p2 ∧ p2 ≤ 2147483647) : mj_Ok (D + 3) 138 [.ref p0, .int (jn p1), .int (jn p2)] h (jQp K L R g n tm h [0, 2] (jVi (-2147483648) 2147483647)) := by
  refine mj_Ok.of (M := mj_m138) (loc := [some (.ref p0), some (.int (jn p1)), some (.int (jn p2)), none, none, none]) rfl rfl rfl ?_
  iterate 2 refine mj_T.pl rfl rfl rfl rfl ?_
  refine jT.callpp rfl rfl (Nat.le_of_ble_eq_true rfl) (Nat.le_of_ble_eq_true rfl) (jrv_of o kp0 (by decide) rfl (by decide) rfl _) rfl (mj_Ok.up (Nat.add_le_add_left (by decide) D) (jc_149 (D := D) ty hg o kp0 rp1)) rfl rfl (fun v1 qv1 => ?_)
  obtain ⟨a2, ka2, rfl⟩ := qv1
  refine mj_T.eq (pc2 := 5) (st2 := [.ref a2]) ?_ rfl rfl rfl rfl
  refine mj_T.pl (loc' := [some (.ref p0), some (.int (jn p1)), some (.int (jn p2)), some (.ref a2), none, none]) rfl rfl rfl rfl ?_
  refine mj_T.pl rfl rfl rfl rfl ?_
  refine jT.callpp rfl rfl (Nat.le_of_ble_eq_true rfl) (Nat.le_of_ble_eq_true rfl) rfl rfl (mj_Ok.up (Nat.add_le_add_left (by decide) D) (jc_152 (D := D) ty hg o rp2)) rfl rfl (fun v3 qv3 => ?_)
  obtain rfl : v3 = none := qv3
  refine mj_T.eq (pc2 := 10) (st2 := []) ?_ rfl rfl rfl rfl
  refine mj_T.pl rfl rfl rfl rfl ?_
  refine mj_T.pl (loc' := [some (.ref p0), some (.int (jn p1)), some (.int (jn p2)), some (.ref a2), some (.int (jn 0)), none]) rfl rfl rfl rfl ?_
  refine mj_T.pl rfl rfl rfl rfl ?_
  refine mj_T.pl (loc' := [some (.ref p0), some (.int (jn p1)), some (.int (jn p2)), some (.ref a2), some (.int (jn 0)), some (.int (jn 0))]) rfl rfl rfl rfl ?_
  have t16_6 : ∀ (k7 : Nat) (x4 : Int) (x5 : Int), (-2147483648 ≤ x4 ∧ x4 ≤ 2147483647) → (-2147483648 ≤ x5 ∧ x5 ≤ 2147483647) → (0 ≤ x5) → (2147483647 - x5 : Int).toNat = k7 → mj_T (D + 2) mj_m138 16 [some (.ref p0), some (.int (jn p1)), some (.int (jn p2)), some (.ref a2), some (.int (jn x4)), some (.int (jn x5))] [] h (jQp K L R g n tm h [0, 2] (jVi (-2147483648) 2147483647)) := by
    refine jInd (fun k7 ih8 => ?_)
    intro x4 x5 rx4 rx5 ix5 hm9
    refine mj_T.pl rfl rfl rfl rfl ?_
    refine mj_T.pl rfl rfl rfl rfl ?_
    refine jT.icmp rfl rx5 rp2 (fun c19 => ?_) (fun c19 => ?_)
    · have c19 := of_decide_eq_true c19
      refine mj_T.pl rfl rfl rfl rfl ?_
      exact jT.retp rfl rfl rfl ⟨x4, by omega, by omega, rfl⟩
    · have c19 := of_decide_eq_false c19
      iterate 3 refine mj_T.pl rfl rfl rfl rfl ?_
      refine jT.callpp rfl rfl (Nat.le_of_ble_eq_true rfl) (Nat.le_of_ble_eq_true rfl) rfl rfl (mj_Ok.up (Nat.add_le_add_left (by decide) D) (jc_173 (D := D) ty hg o ka2 rx5 rp2)) rfl rfl (fun v10 qv10 => ?_)
      obtain ⟨z11, az11, bz11, rfl⟩ := qv10
      have rz11 : -2147483648 ≤ z11 ∧ z11 ≤ 2147483647 := ⟨by omega, by omega⟩
      refine mj_T.eq (pc2 := 29) (st2 := [.int (jn z11)]) ?_ rfl rfl rfl rfl
      refine jT.if0 rfl rz11 (fun c29 => ?_) (fun c29 => ?_)
      · have c29 := jne1 c29
        refine jT.iinc rfl rfl (fun z12 rz12 ez12 => ?_)
        replace ez12 := ez12 ⟨by omega, by omega⟩
        refine mj_T.eq (loc2 := [some (.ref p0), some (.int (jn p1)), some (.int (jn p2)), some (.ref a2), some (.int (jn x4)), some (.int (jn z12))]) ?_ rfl rfl rfl rfl
        refine mj_T.pl rfl rfl rfl rfl ?_
        exact ih8 ((2147483647 - z12 : Int).toNat) (by omega) x4 z12 rx4 rz12 (by omega) rfl
      · have c29 := jne2 c29
        refine jT.iinc rfl rfl (fun z13 rz13 ez13 => ?_)
        clear ez13
        refine mj_T.eq (loc2 := [some (.ref p0), some (.int (jn p1)), some (.int (jn p2)), some (.ref a2), some (.int (jn z13)), some (.int (jn x5))]) ?_ rfl rfl rfl rfl
        refine jT.iinc rfl rfl (fun z14 rz14 ez14 => ?_)
        replace ez14 := ez14 ⟨by omega, by omega⟩
        refine mj_T.eq (loc2 := [some (.ref p0), some (.int (jn p1)), some (.int (jn p2)), some (.ref a2), some (.int (jn z13)), some (.int (jn z14))]) ?_ rfl rfl rfl rfl
        refine mj_T.pl rfl rfl rfl rfl ?_
        exact ih8 ((2147483647 - z14 : Int).toNat) (by omega) z13 z14 rz13 rz14 (by omega) rfl
  exact t16_6 _ 0 0 ⟨by decide, by decide⟩ ⟨by decide, by decide⟩ (by omega) rfl
-- PolyRegisters.rootBy(II)I
theorem jc_139 {D n : Nat} {tm : Int} {h g : mj_H} {K L : Nat → Nat} {R : Nat → Nat → Nat} {p0 : Nat} {p1 : Int} {p2 : Int} (ty : jTY K L R) (hg : g.length ≤ n) (o : jO K L R g n tm h) (kp0 : K p0 = 19) (rp1 : -2147483648 ≤ p1 ∧ p1 ≤ 2147483647) (rp2 : -2147483648 ≤ p2 ∧ p2 ≤ 2147483647) : mj_Ok (D + 3) 139 [.ref p0, .int (jn p1), .int (jn p2)] h (jQp K L R g n tm h [0, 2, 4] (jVi (-2147483648) 2147483647)) := by
  refine mj_Ok.of (M := mj_m139) (loc := [some (.ref p0), some (.int (jn p1)), some (.int (jn p2)), none, none]) rfl rfl rfl ?_
  iterate 2 refine mj_T.pl rfl rfl rfl rfl ?_
  refine jT.callpp rfl rfl (Nat.le_of_ble_eq_true rfl) (Nat.le_of_ble_eq_true rfl) (jrv_of o kp0 (by decide) rfl (by decide) rfl _) rfl (mj_Ok.up (Nat.add_le_add_left (by decide) D) (jc_149 (D := D) ty hg o kp0 rp1)) rfl rfl (fun v1 qv1 => ?_)
  obtain ⟨a2, ka2, rfl⟩ := qv1
  refine mj_T.eq (pc2 := 5) (st2 := [.ref a2]) ?_ rfl rfl rfl rfl
  refine mj_T.pl (loc' := [some (.ref p0), some (.int (jn p1)), some (.int (jn p2)), some (.ref a2), none]) rfl rfl rfl rfl ?_
  refine mj_T.pl rfl rfl rfl rfl ?_
  refine jT.callpp rfl rfl (Nat.le_of_ble_eq_true rfl) (Nat.le_of_ble_eq_true rfl) rfl rfl (mj_Ok.up (Nat.add_le_add_left (by decide) D) (jc_152 (D := D) ty hg o rp2)) rfl rfl (fun v3 qv3 => ?_)
  obtain rfl : v3 = none := qv3
  refine mj_T.eq (pc2 := 10) (st2 := []) ?_ rfl rfl rfl rfl
  refine mj_T.pl rfl rfl rfl rfl ?_
  refine mj_T.pl (loc' := [some (.ref p0), some (.int (jn p1)), some (.int (jn p2)), some (.ref a2), some (.int (jn 0))]) rfl rfl rfl rfl ?_
  have t13_5 : ∀ (k6 : Nat) (x4 : Int), (-2147483648 ≤ x4 ∧ x4 ≤ 2147483647) → (0 ≤ x4) → (2147483647 - x4 : Int).toNat = k6 → mj_T (D + 2) mj_m139 13 [some (.ref p0), some (.int (jn p1)), some (.int (jn p2)), some (.ref a2), some (.int (jn x4))] [] h (jQp K L R g n tm h [0, 2, 4] (jVi (-2147483648) 2147483647)) := by
    refine jInd (fun k6 ih7 => ?_)
    intro x4 rx4 ix4 hm8
    refine mj_T.pl rfl rfl rfl rfl ?_
    refine mj_T.pl rfl rfl rfl rfl ?_
    refine jT.icmp rfl rx4 rp2 (fun c16 => ?_) (fun c16 => ?_)
    · have c16 := of_decide_eq_true c16
      exact jT.thrp o hg rfl rfl rfl (Nat.le_of_ble_eq_true rfl) rfl
    · have c16 := of_decide_eq_false c16
      iterate 3 refine mj_T.pl rfl rfl rfl rfl ?_
      refine jT.callpp rfl rfl (Nat.le_of_ble_eq_true rfl) (Nat.le_of_ble_eq_true rfl) rfl rfl (mj_Ok.up (Nat.add_le_add_left (by decide) D) (jc_173 (D := D) ty hg o ka2 rx4 rp2)) rfl rfl (fun v9 qv9 => ?_)
      obtain ⟨z10, az10, bz10, rfl⟩ := qv9
      have rz10 : -2147483648 ≤ z10 ∧ z10 ≤ 2147483647 := ⟨by omega, by omega⟩
      refine mj_T.eq (pc2 := 26) (st2 := [.int (jn z10)]) ?_ rfl rfl rfl rfl
      refine jT.if0 rfl rz10 (fun c26 => ?_) (fun c26 => ?_)
      · have c26 := jne1 c26
        refine jT.iinc rfl rfl (fun z11 rz11 ez11 => ?_)
        replace ez11 := ez11 ⟨by omega, by omega⟩
        refine mj_T.eq (loc2 := [some (.ref p0), some (.int (jn p1)), some (.int (jn p2)), some (.ref a2), some (.int (jn z11))]) ?_ rfl rfl rfl rfl
        refine mj_T.pl rfl rfl rfl rfl ?_
        exact ih7 ((2147483647 - z11 : Int).toNat) (by omega) z11 rz11 (by omega) rfl
      · have c26 := jne2 c26
        refine mj_T.pl rfl rfl rfl rfl ?_
        exact jT.retp rfl rfl rfl ⟨x4, by omega, by omega, rfl⟩
  exact t13_5 _ 0 ⟨by decide, by decide⟩ (by omega) rfl
-- PolyRegisters.pointCount()I
theorem jc_140 {D n : Nat} {tm : Int} {h g : mj_H} {K L : Nat → Nat} {R : Nat → Nat → Nat} {p0 : Nat} (ty : jTY K L R) (hg : g.length ≤ n) (o : jO K L R g n tm h) (kp0 : K p0 = 19) : mj_Ok (D + 1) 140 [.ref p0] h (jQp K L R g n tm h [] (jVi (-2147483648) 2147483647)) := by
  refine mj_Ok.of (M := mj_m140) (loc := [some (.ref p0)]) rfl rfl rfl ?_
  refine mj_T.pl rfl rfl rfl rfl ?_
  refine jT.getR 19 110 10 ty o rfl kp0 (by decide) rfl rfl rfl (fun k1 => ?_)
  refine jT.getI 10 9 o rfl k1 (by decide) rfl rfl rfl (fun z2 (az2 : 0 ≤ z2) (bz2 : z2 ≤ 2147483647) fz2 => ?_)
  have rz2 : -2147483648 ≤ z2 ∧ z2 ≤ 2147483647 := ⟨by omega, by omega⟩
  exact jT.retp rfl rfl rfl ⟨z2, by omega, by omega, rfl⟩
-- PolyRegisters.errorPosition()I
theorem jc_143 {D n : Nat} {tm : Int} {h g : mj_H} {K L : Nat → Nat} {R : Nat → Nat → Nat} {p0 : Nat} (ty : jTY K L R) (hg : g.length ≤ n) (o : jO K L R g n tm h) (kp0 : K p0 = 19) : mj_Ok (D + 1) 143 [.ref p0] h (jQp K L R g n tm h [] (jVi (-2147483648) 2147483647)) := by
  refine mj_Ok.of (M := mj_m143) (loc := [some (.ref p0)]) rfl rfl rfl ?_
  refine mj_T.pl rfl rfl rfl rfl ?_
  refine jT.getI 19 0 o rfl kp0 (by decide) rfl rfl rfl (fun z1 (az1 : (-2147483648) ≤ z1) (bz1 : z1 ≤ 2147483647) fz1 => ?_)
  have rz1 : -2147483648 ≤ z1 ∧ z1 ≤ 2147483647 := ⟨by omega, by omega⟩
  exact jT.retp rfl rfl rfl ⟨z1, by omega, by omega, rfl⟩
-- PolyRegisters.write(I)I
theorem jc_144 {D n : Nat} {tm : Int} {h g : mj_H} {K L : Nat → Nat} {R : Nat → Nat → Nat} {p0 : Nat} {p1 : Int} (ty : jTY K L R) (hg : g.length ≤ n) (o : jO K L R g n tm h) (kp0 : K p0 = 19) (rp1 : -2147483648 ≤ p1 ∧ p1 ≤ 2147483647) : mj_Ok (D + 5) 144 [.ref p0, .int (jn p1)] h (jQ K L R g n tm [0] (jVi (-2147483648) 2147483647)) := by
  refine mj_Ok.of (M := mj_m144) (loc := [some (.ref p0), some (.int (jn p1))]) rfl rfl rfl ?_
  refine mj_T.pl rfl rfl rfl rfl ?_
  refine jT.getR 19 117 17 ty o rfl kp0 (by decide) rfl rfl rfl (fun k1 => ?_)
  iterate 2 refine mj_T.pl rfl rfl rfl rfl ?_
  refine jT.callp rfl rfl (Nat.le_of_ble_eq_true rfl) (Nat.le_of_ble_eq_true rfl) (jrv_of o kp0 (by decide) rfl (by decide) rfl _) rfl (mj_Ok.up (Nat.add_le_add_left (by decide) D) (jc_149 (D := D) ty hg o kp0 rp1)) rfl rfl (fun v2 qv2 => ?_)
  obtain ⟨a3, ka3, rfl⟩ := qv2
  refine mj_T.eq (pc2 := 9) (st2 := [.ref a3, .ref (R p0 5)]) ?_ rfl rfl rfl rfl
  refine jT.call rfl rfl (Nat.le_of_ble_eq_true rfl) (Nat.le_of_ble_eq_true rfl) (jrv_of o k1 (by decide) rfl (by decide) rfl _) rfl (mj_Ok.up (Nat.add_le_add_left (by decide) D) (jc_82 (D := D) ty hg o k1 ka3)) rfl rfl (fun v4 h5 qv4 oh5 => ?_)
  obtain rfl : v4 = none := qv4
  refine mj_T.eq (pc2 := 12) (st2 := []) ?_ rfl rfl rfl rfl
  refine mj_T.pl rfl rfl rfl rfl ?_
  refine jT.getR 19 117 17 ty oh5 rfl kp0 (by decide) rfl rfl rfl (fun k6 => ?_)
  refine jT.getI 17 5 oh5 rfl k6 (by decide) rfl rfl rfl (fun z7 (az7 : 0 ≤ z7) (bz7 : z7 ≤ 340) fz7 => ?_)
  have rz7 : -2147483648 ≤ z7 ∧ z7 ≤ 2147483647 := ⟨by omega, by omega⟩
  exact jT.ret oh5 rfl rfl rfl ⟨z7, by omega, by omega, rfl⟩
-- PolyRegisters.writtenAt(I)I
theorem jc_145 {D n : Nat} {tm : Int} {h g : mj_H} {K L : Nat → Nat} {R : Nat → Nat → Nat} {p0 : Nat} {p1 : Int} (ty : jTY K L R) (hg : g.length ≤ n) (o : jO K L R g n tm h) (kp0 : K p0 = 19) (rp1 : -2147483648 ≤ p1 ∧ p1 ≤ 2147483647) : mj_Ok (D + 2) 145 [.ref p0, .int (jn p1)] h (jQp K L R g n tm h [0] (jVi (-2147483648) 2147483647)) := by
  refine mj_Ok.of (M := mj_m145) (loc := [some (.ref p0), some (.int (jn p1))]) rfl rfl rfl ?_
  refine mj_T.pl rfl rfl rfl rfl ?_
  refine jT.if0 rfl rp1 (fun c1 => ?_) (fun c1 => ?_)
  · have c1 := of_decide_eq_true c1
    exact jT.thrp o hg rfl rfl rfl (Nat.le_of_ble_eq_true rfl) rfl
  · have c1 := of_decide_eq_false c1
    iterate 2 refine mj_T.pl rfl rfl rfl rfl ?_
    refine jT.getR 19 117 17 ty o rfl kp0 (by decide) rfl rfl rfl (fun k1 => ?_)
    refine jT.getI 17 5 o rfl k1 (by decide) rfl rfl rfl (fun z2 (az2 : 0 ≤ z2) (bz2 : z2 ≤ 340) fz2 => ?_)
    have rz2 : -2147483648 ≤ z2 ∧ z2 ≤ 2147483647 := ⟨by omega, by omega⟩
    refine jT.icmp rfl rp1 rz2 (fun c12 => ?_) (fun c12 => ?_)
    · have c12 := of_decide_eq_true c12
      refine mj_T.pl rfl rfl rfl rfl ?_
      refine jT.getR 19 117 17 ty o rfl kp0 (by decide) rfl rfl rfl (fun k3 => ?_)
      refine mj_T.pl rfl rfl rfl rfl ?_
      refine jT.callpp rfl rfl (Nat.le_of_ble_eq_true rfl) (Nat.le_of_ble_eq_true rfl) (jrv_of o k3 (by decide) rfl (by decide) rfl _) rfl (mj_Ok.up (Nat.add_le_add_left (by decide) D) (jc_79 (D := D) ty hg o (Or.inl k3) rp1)) rfl rfl (fun v4 qv4 => ?_)
      obtain ⟨z5, az5, bz5, rfl⟩ := qv4
      have rz5 : -2147483648 ≤ z5 ∧ z5 ≤ 2147483647 := ⟨by omega, by omega⟩
      refine mj_T.eq (pc2 := 31) (st2 := [.int (jn z5)]) ?_ rfl rfl rfl rfl
      exact jT.retp rfl rfl rfl ⟨z5, by omega, by omega, rfl⟩
    · have c12 := of_decide_eq_false c12
      exact jT.thrp o hg rfl rfl rfl (Nat.le_of_ble_eq_true rfl) rfl
