/-! The class by kinds: its methods. -/
-- PolyRegisters$Sturm.renewKnown(I)V
theorem jc_72 {D n : Nat} {tm : Int} {h g : mj_H} {K L : Nat → Nat} {R : Nat → Nat → Nat} {p0 : Nat} {p1 : Int} (ty : jTY K L R) (hg : g.length ≤ n) (o : jO K L R g n tm h) (kp0 : K p0 = 16) (rp1 : -2147483648 ≤ p1 ∧ p1 ≤ 2147483647) : mj_Ok (D + 3) 72 [.ref p0, .int (jn p1)] h (jQ K L R g n tm [] jV0) := by
  refine mj_Ok.of (M := mj_m72) (loc := [some (.ref p0), some (.int (jn p1)), none, none]) rfl rfl rfl ?_
  refine mj_T.pl rfl rfl rfl rfl ?_
  refine jT.getR 16 111 11 ty o rfl kp0 (by decide) rfl rfl rfl (fun k1 => ?_)
  refine jT.getR 11 118 18 ty o rfl k1 (by decide) rfl rfl rfl (fun k2 => ?_)
  refine mj_T.pl (loc' := [some (.ref p0), some (.int (jn p1)), some (.ref (R (R p0 0) 4)), none]) rfl rfl rfl rfl ?_
  iterate 2 refine mj_T.pl rfl rfl rfl rfl ?_
  refine jT.getR 16 118 18 ty o rfl kp0 (by decide) rfl rfl rfl (fun k3 => ?_)
  refine jT.call rfl rfl (Nat.le_of_ble_eq_true rfl) (Nat.le_of_ble_eq_true rfl) (jrv_of o k2 (by decide) rfl (by decide) rfl _) rfl (mj_Ok.up (Nat.add_le_add_left (by decide) D) (jc_87 (D := D) ty hg o k2 k3)) rfl rfl (fun v4 h5 qv4 oh5 => ?_)
  obtain rfl : v4 = none := qv4
  refine mj_T.eq (pc2 := 16) (st2 := []) ?_ rfl rfl rfl rfl
  refine mj_T.pl rfl rfl rfl rfl ?_
  refine mj_T.pl (loc' := [some (.ref p0), some (.int (jn p1)), some (.ref (R (R p0 0) 4)), some (.int (jn 1))]) rfl rfl rfl rfl ?_
  have t18_8 : ∀ (k9 : Nat) (x6 : Int) (h7 : mj_H), (-2147483648 ≤ x6 ∧ x6 ≤ 2147483647) → (jO K L R g n tm h7) → (1 ≤ x6) → (2147483647 - x6 : Int).toNat = k9 → mj_T (D + 2) mj_m72 18 [some (.ref p0), some (.int (jn p1)), some (.ref (R (R p0 0) 4)), some (.int (jn x6))] [] h7 (jQ K L R g n tm [] jV0) := by
    refine jInd (fun k9 ih10 => ?_)
    intro x6 h7 rx6 oh7 ix6 hm11
    refine mj_T.pl rfl rfl rfl rfl ?_
    refine mj_T.pl rfl rfl rfl rfl ?_
    refine jT.icmp rfl rx6 rp1 (fun c20 => ?_) (fun c20 => ?_)
    · have c20 := of_decide_eq_true c20
      refine mj_T.pl rfl rfl rfl rfl ?_
      refine jT.getR 16 111 11 ty oh7 rfl kp0 (by decide) rfl rfl rfl (fun k12 => ?_)
      refine jT.getR 11 112 12 ty oh7 rfl k12 (by decide) rfl rfl rfl (fun k13 => ?_)
      refine mj_T.pl rfl rfl rfl rfl ?_
      refine jT.getR 16 118 18 ty oh7 rfl kp0 (by decide) rfl rfl rfl (fun k14 => ?_)
      refine jT.call rfl rfl (Nat.le_of_ble_eq_true rfl) (Nat.le_of_ble_eq_true rfl) (jrv_of oh7 k13 (by decide) rfl (by decide) rfl _) rfl (mj_Ok.up (Nat.add_le_add_left (by decide) D) (jc_30 (D := D) ty hg oh7 k13 k14)) rfl rfl (fun v15 h16 qv15 oh16 => ?_)
      obtain rfl : v15 = none := qv15
      refine mj_T.eq (pc2 := 69) (st2 := []) ?_ rfl rfl rfl rfl
      refine mj_T.pl rfl rfl rfl rfl ?_
      refine mj_T.pl (loc' := [some (.ref p0), some (.int (jn p1)), some (.ref (R (R p0 0) 4)), some (.int (jn 1))]) rfl rfl rfl rfl ?_
      have t71_19 : ∀ (k20 : Nat) (x17 : Int) (h18 : mj_H), (-2147483648 ≤ x17 ∧ x17 ≤ 2147483647) → (jO K L R g n tm h18) → (1 ≤ x17) → (2147483647 - x17 : Int).toNat = k20 → mj_T (D + 2) mj_m72 71 [some (.ref p0), some (.int (jn p1)), some (.ref (R (R p0 0) 4)), some (.int (jn x17))] [] h18 (jQ K L R g n tm [] jV0) := by
        refine jInd (fun k20 ih21 => ?_)
        intro x17 h18 rx17 oh18 ix17 hm22
        refine mj_T.pl rfl rfl rfl rfl ?_
        refine mj_T.pl rfl rfl rfl rfl ?_
        refine jT.icmp rfl rx17 rp1 (fun c73 => ?_) (fun c73 => ?_)
        · have c73 := of_decide_eq_true c73
          refine mj_T.pl rfl rfl rfl rfl ?_
          refine jT.getR 16 118 18 ty oh18 rfl kp0 (by decide) rfl rfl rfl (fun k23 => ?_)
          refine mj_T.pl rfl rfl rfl rfl ?_
          refine jT.call rfl rfl (Nat.le_of_ble_eq_true rfl) (Nat.le_of_ble_eq_true rfl) (jrv_of oh18 k23 (by decide) rfl (by decide) rfl _) rfl (mj_Ok.up (Nat.add_le_add_left (by decide) D) (jc_87 (D := D) ty hg oh18 k23 k2)) rfl rfl (fun v24 h25 qv24 oh25 => ?_)
          obtain rfl : v24 = none := qv24
          refine mj_T.eq (pc2 := 119) (st2 := []) ?_ rfl rfl rfl rfl
          exact jT.ret oh25 rfl rfl rfl rfl
        · have c73 := of_decide_eq_false c73
          refine mj_T.pl rfl rfl rfl rfl ?_
          refine jT.getR 16 111 11 ty oh18 rfl kp0 (by decide) rfl rfl rfl (fun k26 => ?_)
          refine jT.getR 11 112 12 ty oh18 rfl k26 (by decide) rfl rfl rfl (fun k27 => ?_)
          iterate 2 refine mj_T.pl rfl rfl rfl rfl ?_
          refine jT.getR 16 111 11 ty oh18 rfl kp0 (by decide) rfl rfl rfl (fun k28 => ?_)
          refine jT.getR 11 118 18 ty oh18 rfl k28 (by decide) rfl rfl rfl (fun k29 => ?_)
          refine jT.call rfl rfl (Nat.le_of_ble_eq_true rfl) (Nat.le_of_ble_eq_true rfl) (jrv_of oh18 k27 (by decide) rfl (by decide) rfl _) rfl (mj_Ok.up (Nat.add_le_add_left (by decide) D) (jc_31 (D := D) ty hg oh18 k27 k2 k29)) rfl rfl (fun v30 h31 qv30 oh31 => ?_)
          obtain rfl : v30 = none := qv30
          refine mj_T.eq (pc2 := 94) (st2 := []) ?_ rfl rfl rfl rfl
          iterate 2 refine mj_T.pl rfl rfl rfl rfl ?_
          refine jT.getR 16 111 11 ty oh31 rfl kp0 (by decide) rfl rfl rfl (fun k32 => ?_)
          refine jT.getR 11 118 18 ty oh31 rfl k32 (by decide) rfl rfl rfl (fun k33 => ?_)
          refine jT.call rfl rfl (Nat.le_of_ble_eq_true rfl) (Nat.le_of_ble_eq_true rfl) (jrv_of oh31 k2 (by decide) rfl (by decide) rfl _) rfl (mj_Ok.up (Nat.add_le_add_left (by decide) D) (jc_87 (D := D) ty hg oh31 k2 k33)) rfl rfl (fun v34 h35 qv34 oh35 => ?_)
          obtain rfl : v34 = none := qv34
          refine mj_T.eq (pc2 := 105) (st2 := []) ?_ rfl rfl rfl rfl
          refine jT.iinc rfl rfl (fun z36 rz36 ez36 => ?_)
          replace ez36 := ez36 ⟨by omega, by omega⟩
          refine mj_T.eq (loc2 := [some (.ref p0), some (.int (jn p1)), some (.ref (R (R p0 0) 4)), some (.int (jn z36))]) ?_ rfl rfl rfl rfl
          refine mj_T.pl rfl rfl rfl rfl ?_
          exact ih21 ((2147483647 - z36 : Int).toNat) (by omega) z36 h35 rz36 oh35 (by omega) rfl
      exact t71_19 _ 1 h16 ⟨by decide, by decide⟩ oh16 (by omega) rfl
    · have c20 := of_decide_eq_false c20
      refine mj_T.pl rfl rfl rfl rfl ?_
      refine jT.getR 16 111 11 ty oh7 rfl kp0 (by decide) rfl rfl rfl (fun k37 => ?_)
      refine jT.getR 11 118 18 ty oh7 rfl k37 (by decide) rfl rfl rfl (fun k38 => ?_)
      iterate 2 refine mj_T.pl rfl rfl rfl rfl ?_
      refine jT.getR 16 118 18 ty oh7 rfl kp0 (by decide) rfl rfl rfl (fun k39 => ?_)
      refine jT.call rfl rfl (Nat.le_of_ble_eq_true rfl) (Nat.le_of_ble_eq_true rfl) (jrv_of oh7 k38 (by decide) rfl (by decide) rfl _) rfl (mj_Ok.up (Nat.add_le_add_left (by decide) D) (jc_95 (D := D) ty hg oh7 k38 k2 k39)) rfl rfl (fun v40 h41 qv40 oh41 => ?_)
      obtain rfl : v40 = none := qv40
      refine mj_T.eq (pc2 := 38) (st2 := []) ?_ rfl rfl rfl rfl
      iterate 2 refine mj_T.pl rfl rfl rfl rfl ?_
      refine jT.getR 16 111 11 ty oh41 rfl kp0 (by decide) rfl rfl rfl (fun k42 => ?_)
      refine jT.getR 11 118 18 ty oh41 rfl k42 (by decide) rfl rfl rfl (fun k43 => ?_)
      refine jT.call rfl rfl (Nat.le_of_ble_eq_true rfl) (Nat.le_of_ble_eq_true rfl) (jrv_of oh41 k2 (by decide) rfl (by decide) rfl _) rfl (mj_Ok.up (Nat.add_le_add_left (by decide) D) (jc_87 (D := D) ty hg oh41 k2 k43)) rfl rfl (fun v44 h45 qv44 oh45 => ?_)
      obtain rfl : v44 = none := qv44
      refine mj_T.eq (pc2 := 49) (st2 := []) ?_ rfl rfl rfl rfl
      refine jT.iinc rfl rfl (fun z46 rz46 ez46 => ?_)
      replace ez46 := ez46 ⟨by omega, by omega⟩
      refine mj_T.eq (loc2 := [some (.ref p0), some (.int (jn p1)), some (.ref (R (R p0 0) 4)), some (.int (jn z46))]) ?_ rfl rfl rfl rfl
      refine mj_T.pl rfl rfl rfl rfl ?_
      exact ih10 ((2147483647 - z46 : Int).toNat) (by omega) z46 h45 rz46 oh45 (by omega) rfl
  exact t18_8 _ 1 h5 ⟨by decide, by decide⟩ oh5 (by omega) rfl
-- PolyRegisters$Sturm.makeNext(LPolyRegisters$Poly;LPolyRegisters$Poly;LPolyRegisters$Poly;)V
theorem jc_71 {D n : Nat} {tm : Int} {h g : mj_H} {K L : Nat → Nat} {R : Nat → Nat → Nat} {p0 : Nat} {p1 : Nat} {p2 : Nat} {p3 : Nat} (ty : jTY K L R) (hg : g.length ≤ n) (o : jO K L R g n tm h) (kp0 : K p0 = 16) (kp1 : K p1 = 13) (kp2 : K p2 = 13) (kp3 : K p3 = 13) : mj_Ok (D + 4) 71 [.ref p0, .ref p1, .ref p2, .ref p3] h (jQ K L R g n tm [] jV0) := by
  refine mj_Ok.of (M := mj_m71) (loc := [some (.ref p0), some (.ref p1), some (.ref p2), some (.ref p3), none, none]) rfl rfl rfl ?_
  refine mj_T.pl rfl rfl rfl rfl ?_
  refine jT.getI 13 6 o rfl kp1 (by decide) rfl rfl rfl (fun z1 (az1 : (-1) ≤ z1) (bz1 : z1 ≤ 30) fz1 => ?_)
  have rz1 : -2147483648 ≤ z1 ∧ z1 ≤ 2147483647 := ⟨by omega, by omega⟩
  refine mj_T.pl rfl rfl rfl rfl ?_
  refine jT.getI 13 6 o rfl kp2 (by decide) rfl rfl rfl (fun z2 (az2 : (-1) ≤ z2) (bz2 : z2 ≤ 30) fz2 => ?_)
  have rz2 : -2147483648 ≤ z2 ∧ z2 ≤ 2147483647 := ⟨by omega, by omega⟩
  refine jT.isub rfl (fun z3 rz3 ez3 => ?_)
  replace ez3 := ez3 ⟨by omega, by omega⟩
  refine mj_T.pl (loc' := [some (.ref p0), some (.ref p1), some (.ref p2), some (.ref p3), some (.int (jn z3)), none]) rfl rfl rfl rfl ?_
  refine mj_T.pl rfl rfl rfl rfl ?_
  refine jT.getR 16 111 11 ty o rfl kp0 (by decide) rfl rfl rfl (fun k4 => ?_)
  refine jT.getR 11 113 13 ty o rfl k4 (by decide) rfl rfl rfl (fun k5 => ?_)
  refine mj_T.pl rfl rfl rfl rfl ?_
  refine jT.call rfl rfl (Nat.le_of_ble_eq_true rfl) (Nat.le_of_ble_eq_true rfl) (jrv_of o k5 (by decide) rfl (by decide) rfl _) rfl (mj_Ok.up (Nat.add_le_add_left (by decide) D) (jc_41 (D := D) ty hg o k5 kp1)) rfl rfl (fun v6 h7 qv6 oh7 => ?_)
  obtain rfl : v6 = none := qv6
  refine mj_T.eq (pc2 := 22) (st2 := []) ?_ rfl rfl rfl rfl
  refine mj_T.pl rfl rfl rfl rfl ?_
  refine mj_T.pl (loc' := [some (.ref p0), some (.ref p1), some (.ref p2), some (.ref p3), some (.int (jn z3)), some (.int (jn z3))]) rfl rfl rfl rfl ?_
  have t26_10 : ∀ (k11 : Nat) (x8 : Int) (h9 : mj_H), (-2147483648 ≤ x8 ∧ x8 ≤ 2147483647) → (jO K L R g n tm h9) → (x8 ≤ z3) → (x8 + 1 : Int).toNat = k11 → mj_T (D + 3) mj_m71 26 [some (.ref p0), some (.ref p1), some (.ref p2), some (.ref p3), some (.int (jn z3)), some (.int (jn x8))] [] h9 (jQ K L R g n tm [] jV0) := by
    refine jInd (fun k11 ih12 => ?_)
    intro x8 h9 rx8 oh9 ix8 hm13
    refine mj_T.pl rfl rfl rfl rfl ?_
    refine jT.if0 rfl rx8 (fun c28 => ?_) (fun c28 => ?_)
    · have c28 := of_decide_eq_true c28
      refine mj_T.pl rfl rfl rfl rfl ?_
      refine jT.getR 16 111 11 ty oh9 rfl kp0 (by decide) rfl rfl rfl (fun k14 => ?_)
      refine jT.getR 11 113 13 ty oh9 rfl k14 (by decide) rfl rfl rfl (fun k15 => ?_)
      refine jT.call rfl rfl (Nat.le_of_ble_eq_true rfl) (Nat.le_of_ble_eq_true rfl) (jrv_of oh9 k15 (by decide) rfl (by decide) rfl _) rfl (mj_Ok.up (Nat.add_le_add_left (by decide) D) (jc_42 (D := D) ty hg oh9 k15)) rfl rfl (fun v16 h17 qv16 oh17 => ?_)
      obtain rfl : v16 = none := qv16
      refine mj_T.eq (pc2 := 64) (st2 := []) ?_ rfl rfl rfl rfl
      refine mj_T.pl rfl rfl rfl rfl ?_
      refine jT.getR 16 111 11 ty oh17 rfl kp0 (by decide) rfl rfl rfl (fun k18 => ?_)
      refine mj_T.pl rfl rfl rfl rfl ?_
      refine jT.getR 16 111 11 ty oh17 rfl kp0 (by decide) rfl rfl rfl (fun k19 => ?_)
      refine jT.getR 11 113 13 ty oh17 rfl k19 (by decide) rfl rfl rfl (fun k20 => ?_)
      refine mj_T.pl rfl rfl rfl rfl ?_
      refine jT.getR 16 118 18 ty oh17 rfl kp0 (by decide) rfl rfl rfl (fun k21 => ?_)
      refine mj_T.pl rfl rfl rfl rfl ?_
      refine jT.call rfl rfl (Nat.le_of_ble_eq_true rfl) (Nat.le_of_ble_eq_true rfl) (jrv_of oh17 k18 (by decide) rfl (by decide) rfl _) rfl (mj_Ok.up (Nat.add_le_add_left (by decide) D) (jc_20 (D := D) ty hg oh17 k18 k20 k21 ⟨by decide, by decide⟩)) rfl rfl (fun v22 h23 qv22 oh23 => ?_)
      obtain rfl : v22 = none := qv22
      refine mj_T.eq (pc2 := 83) (st2 := []) ?_ rfl rfl rfl rfl
      refine mj_T.pl rfl rfl rfl rfl ?_
      refine jT.getR 16 111 11 ty oh23 rfl kp0 (by decide) rfl rfl rfl (fun k24 => ?_)
      refine mj_T.pl rfl rfl rfl rfl ?_
      refine jT.getR 16 111 11 ty oh23 rfl kp0 (by decide) rfl rfl rfl (fun k25 => ?_)
      refine jT.getR 11 113 13 ty oh23 rfl k25 (by decide) rfl rfl rfl (fun k26 => ?_)
      refine mj_T.pl rfl rfl rfl rfl ?_
      refine jT.getR 16 118 18 ty oh23 rfl kp0 (by decide) rfl rfl rfl (fun k27 => ?_)
      refine mj_T.pl rfl rfl rfl rfl ?_
      refine jT.call rfl rfl (Nat.le_of_ble_eq_true rfl) (Nat.le_of_ble_eq_true rfl) (jrv_of oh23 k24 (by decide) rfl (by decide) rfl _) rfl (mj_Ok.up (Nat.add_le_add_left (by decide) D) (jc_20 (D := D) ty hg oh23 k24 k26 k27 rz3)) rfl rfl (fun v28 h29 qv28 oh29 => ?_)
      obtain rfl : v28 = none := qv28
      refine mj_T.eq (pc2 := 103) (st2 := []) ?_ rfl rfl rfl rfl
      iterate 2 refine mj_T.pl rfl rfl rfl rfl ?_
      refine jT.getR 16 111 11 ty oh29 rfl kp0 (by decide) rfl rfl rfl (fun k30 => ?_)
      refine jT.getR 11 113 13 ty oh29 rfl k30 (by decide) rfl rfl rfl (fun k31 => ?_)
      refine jT.call rfl rfl (Nat.le_of_ble_eq_true rfl) (Nat.le_of_ble_eq_true rfl) (jrv_of oh29 kp3 (by decide) rfl (by decide) rfl _) rfl (mj_Ok.up (Nat.add_le_add_left (by decide) D) (jc_41 (D := D) ty hg oh29 kp3 k31)) rfl rfl (fun v32 h33 qv32 oh33 => ?_)
      obtain rfl : v32 = none := qv32
      refine mj_T.eq (pc2 := 114) (st2 := []) ?_ rfl rfl rfl rfl
      refine mj_T.pl rfl rfl rfl rfl ?_
      refine jT.callp rfl rfl (Nat.le_of_ble_eq_true rfl) (Nat.le_of_ble_eq_true rfl) (jrv_of oh33 kp2 (by decide) rfl (by decide) rfl _) rfl (mj_Ok.up (Nat.add_le_add_left (by decide) D) (jc_37 (D := D) ty hg oh33 kp2)) rfl rfl (fun v34 qv34 => ?_)
      obtain ⟨a35, ka35, rfl⟩ := qv34
      refine mj_T.eq (pc2 := 118) (st2 := [.ref a35]) ?_ rfl rfl rfl rfl
      refine jT.getI 18 0 oh33 rfl ka35 (by decide) rfl rfl rfl (fun z36 (az36 : (-2147483648) ≤ z36) (bz36 : z36 ≤ 2147483647) fz36 => ?_)
      have rz36 : -2147483648 ≤ z36 ∧ z36 ≤ 2147483647 := ⟨by omega, by omega⟩
      have t135_38 : ∀ (h37 : mj_H), (jO K L R g n tm h37) → mj_T (D + 3) mj_m71 135 [some (.ref p0), some (.ref p1), some (.ref p2), some (.ref p3), some (.int (jn z3)), some (.int (jn x8))] [] h37 (jQ K L R g n tm [] jV0) := by
        intro h37 oh37
        refine mj_T.pl rfl rfl rfl rfl ?_
        refine jT.getR 16 118 18 ty oh37 rfl kp0 (by decide) rfl rfl rfl (fun k39 => ?_)
        refine mj_T.pl rfl rfl rfl rfl ?_
        refine jT.callp rfl rfl (Nat.le_of_ble_eq_true rfl) (Nat.le_of_ble_eq_true rfl) (jrv_of oh37 kp2 (by decide) rfl (by decide) rfl _) rfl (mj_Ok.up (Nat.add_le_add_left (by decide) D) (jc_37 (D := D) ty hg oh37 kp2)) rfl rfl (fun v40 qv40 => ?_)
        obtain ⟨a41, ka41, rfl⟩ := qv40
        refine mj_T.eq (pc2 := 143) (st2 := [.ref a41, .ref (R p0 3)]) ?_ rfl rfl rfl rfl
        refine jT.call rfl rfl (Nat.le_of_ble_eq_true rfl) (Nat.le_of_ble_eq_true rfl) (jrv_of oh37 k39 (by decide) rfl (by decide) rfl _) rfl (mj_Ok.up (Nat.add_le_add_left (by decide) D) (jc_88 (D := D) ty hg oh37 k39 ka41)) rfl rfl (fun v42 h43 qv42 oh43 => ?_)
        obtain rfl : v42 = none := qv42
        refine mj_T.eq (pc2 := 146) (st2 := []) ?_ rfl rfl rfl rfl
        refine mj_T.pl rfl rfl rfl rfl ?_
        refine jT.if0 rfl rz3 (fun c148 => ?_) (fun c148 => ?_)
        · have c148 := of_decide_eq_true c148
          exact jT.ret oh43 rfl rfl rfl rfl
        · have c148 := of_decide_eq_false c148
          iterate 2 refine mj_T.pl rfl rfl rfl rfl ?_
          refine jT.call rfl rfl (Nat.le_of_ble_eq_true rfl) (Nat.le_of_ble_eq_true rfl) (jrv_of oh43 kp0 (by decide) rfl (by decide) rfl _) rfl (mj_Ok.up (Nat.add_le_add_left (by decide) D) (jc_72 (D := D) ty hg oh43 kp0 rz3)) rfl rfl (fun v44 h45 qv44 oh45 => ?_)
          obtain rfl : v44 = none := qv44
          refine mj_T.eq (pc2 := 157) (st2 := []) ?_ rfl rfl rfl rfl
          exact jT.ret oh45 rfl rfl rfl rfl
      have t131_46 : mj_T (D + 3) mj_m71 131 [some (.ref p0), some (.ref p1), some (.ref p2), some (.ref p3), some (.int (jn z3)), some (.int (jn x8))] [] h33 (jQ K L R g n tm [] jV0) := by
        refine mj_T.pl rfl rfl rfl rfl ?_
        refine jT.call rfl rfl (Nat.le_of_ble_eq_true rfl) (Nat.le_of_ble_eq_true rfl) (jrv_of oh33 kp3 (by decide) rfl (by decide) rfl _) rfl (mj_Ok.up (Nat.add_le_add_left (by decide) D) (jc_43 (D := D) ty hg oh33 kp3)) rfl rfl (fun v47 h48 qv47 oh48 => ?_)
        obtain rfl : v47 = none := qv47
        refine mj_T.eq (pc2 := 135) (st2 := []) ?_ rfl rfl rfl rfl
        exact t135_38 h48 oh48
      refine jT.if0 rfl rz36 (fun c121 => ?_) (fun c121 => ?_)
      · have c121 := of_decide_eq_true c121
        exact t131_46 
      · have c121 := of_decide_eq_false c121
        iterate 2 refine mj_T.pl rfl rfl rfl rfl ?_
        refine jT.irem rfl ⟨by decide, by decide⟩ (by decide) (fun z49 rz49 => ?_)
        refine jT.if0 rfl rz49 (fun c128 => ?_) (fun c128 => ?_)
        · have c128 := of_decide_eq_true c128
          exact t135_38 h33 oh33
        · have c128 := of_decide_eq_false c128
          exact t131_46 
    · have c28 := of_decide_eq_false c28
      refine mj_T.pl rfl rfl rfl rfl ?_
      refine jT.getR 16 111 11 ty oh9 rfl kp0 (by decide) rfl rfl rfl (fun k50 => ?_)
      refine mj_T.pl rfl rfl rfl rfl ?_
      refine jT.getR 16 111 11 ty oh9 rfl kp0 (by decide) rfl rfl rfl (fun k51 => ?_)
      refine jT.getR 11 113 13 ty oh9 rfl k51 (by decide) rfl rfl rfl (fun k52 => ?_)
      iterate 2 refine mj_T.pl rfl rfl rfl rfl ?_
      refine jT.call rfl rfl (Nat.le_of_ble_eq_true rfl) (Nat.le_of_ble_eq_true rfl) (jrv_of oh9 k50 (by decide) rfl (by decide) rfl _) rfl (mj_Ok.up (Nat.add_le_add_left (by decide) D) (jc_17 (D := D) ty hg oh9 k50 k52 kp2 rx8)) rfl rfl (fun v53 h54 qv53 oh54 => ?_)
      obtain rfl : v53 = none := qv53
      refine mj_T.eq (pc2 := 48) (st2 := []) ?_ rfl rfl rfl rfl
      refine jT.iinc rfl rfl (fun z55 rz55 ez55 => ?_)
      replace ez55 := ez55 ⟨by omega, by omega⟩
      refine mj_T.eq (loc2 := [some (.ref p0), some (.ref p1), some (.ref p2), some (.ref p3), some (.int (jn z3)), some (.int (jn z55))]) ?_ rfl rfl rfl rfl
      refine mj_T.pl rfl rfl rfl rfl ?_
      exact ih12 ((z55 + 1 : Int).toNat) (by omega) z55 h54 rz55 oh54 (by omega) rfl
  exact t26_10 _ z3 h7 rz3 oh7 (by omega) rfl
-- PolyRegisters$Sturm.goOn()V
theorem jc_70 {D n : Nat} {tm : Int} {h g : mj_H} {K L : Nat → Nat} {R : Nat → Nat → Nat} {p0 : Nat} (ty : jTY K L R) (hg : g.length ≤ n) (o : jO K L R g n tm h) (kp0 : K p0 = 16) : mj_Ok (D + 5) 70 [.ref p0] h (jQ K L R g n tm [] jV0) := by
  refine mj_Ok.of (M := mj_m70) (loc := [some (.ref p0), none]) rfl rfl rfl ?_
  iterate 2 refine mj_T.pl rfl rfl rfl rfl ?_
  refine jT.getR 16 105 5 ty o rfl kp0 (by decide) rfl rfl rfl (fun k1 => ?_)
  refine mj_T.pl rfl rfl rfl rfl ?_
  have l2 : 14 ≤ (L (R p0 1) : Int) ∧ (L (R p0 1) : Int) ≤ 14 := jlen 5 ty k1 (by decide) (by decide)
  refine jT.aald 5 13 ty o rfl k1 (by decide) (by decide) rfl ⟨by decide, by decide⟩ ⟨by omega, by omega⟩ (fun k3 => ?_)
  refine jT.getI 13 6 o rfl k3 (by decide) rfl rfl rfl (fun z4 (az4 : (-1) ≤ z4) (bz4 : z4 ≤ 30) fz4 => ?_)
  have rz4 : -2147483648 ≤ z4 ∧ z4 ≤ 2147483647 := ⟨by omega, by omega⟩
  have t18_6 : ∀ (x5 : Int), (-2147483648 ≤ x5 ∧ x5 ≤ 2147483647) → mj_T (D + 4) mj_m70 18 [some (.ref p0), none] [.int (jn x5), .ref p0] h (jQ K L R g n tm [] jV0) := by
    intro x5 rx5
    refine jT.putI 16 0 o rfl kp0 (by decide) rfl rfl rfl (Or.inl rfl) (by show (-2147483648) ≤ x5; omega) (by show x5 ≤ 2147483647; omega) (fun h7 oh7 wh7 uh7 => ?_)
    refine mj_T.pl rfl rfl rfl rfl ?_
    refine jT.getR 16 118 18 ty oh7 rfl kp0 (by decide) rfl rfl rfl (fun k8 => ?_)
    refine jT.lc 1 rfl rfl ?_
    refine jT.call rfl rfl (Nat.le_of_ble_eq_true rfl) (Nat.le_of_ble_eq_true rfl) (jrv_of oh7 k8 (by decide) rfl (by decide) rfl _) rfl (mj_Ok.up (Nat.add_le_add_left (by decide) D) (jc_86 (D := D) ty hg oh7 k8 ⟨by decide, by decide⟩)) rfl rfl (fun v9 h10 qv9 oh10 => ?_)
    obtain rfl : v9 = none := qv9
    refine mj_T.eq (pc2 := 29) (st2 := []) ?_ rfl rfl rfl rfl
    refine mj_T.pl rfl rfl rfl rfl ?_
    refine jT.getR 16 118 18 ty oh10 rfl kp0 (by decide) rfl rfl rfl (fun k11 => ?_)
    refine jT.lc 1 rfl rfl ?_
    refine jT.call rfl rfl (Nat.le_of_ble_eq_true rfl) (Nat.le_of_ble_eq_true rfl) (jrv_of oh10 k11 (by decide) rfl (by decide) rfl _) rfl (mj_Ok.up (Nat.add_le_add_left (by decide) D) (jc_86 (D := D) ty hg oh10 k11 ⟨by decide, by decide⟩)) rfl rfl (fun v12 h13 qv12 oh13 => ?_)
    obtain rfl : v12 = none := qv12
    refine mj_T.eq (pc2 := 37) (st2 := []) ?_ rfl rfl rfl rfl
    refine mj_T.pl rfl rfl rfl rfl ?_
    refine mj_T.pl (loc' := [some (.ref p0), some (.int (jn 2))]) rfl rfl rfl rfl ?_
    have t39_16 : ∀ (k17 : Nat) (x14 : Int) (h15 : mj_H), (-2147483648 ≤ x14 ∧ x14 ≤ 2147483647) → (jO K L R g n tm h15) → (2 ≤ x14) → (2147483647 - x14 : Int).toNat = k17 → mj_T (D + 4) mj_m70 39 [some (.ref p0), some (.int (jn x14))] [] h15 (jQ K L R g n tm [] jV0) := by
      refine jInd (fun k17 ih18 => ?_)
      intro x14 h15 rx14 oh15 ix14 hm19
      refine mj_T.pl rfl rfl rfl rfl ?_
      refine mj_T.pl rfl rfl rfl rfl ?_
      refine jT.getR 16 105 5 ty oh15 rfl kp0 (by decide) rfl rfl rfl (fun k20 => ?_)
      refine jT.alen 5 ty oh15 rfl k20 (by decide) (by decide) (fun z21 ez21 (az21 : 14 ≤ z21) (bz21 : z21 ≤ 14) => ?_)
      have rz21 : -2147483648 ≤ z21 ∧ z21 ≤ 2147483647 := ⟨by omega, by omega⟩
      refine jT.icmp rfl rx14 rz21 (fun c45 => ?_) (fun c45 => ?_)
      · have c45 := of_decide_eq_true c45
        exact jT.ret oh15 rfl rfl rfl rfl
      · have c45 := of_decide_eq_false c45
        refine mj_T.pl rfl rfl rfl rfl ?_
        refine jT.getR 16 105 5 ty oh15 rfl kp0 (by decide) rfl rfl rfl (fun k22 => ?_)
        iterate 2 refine mj_T.pl rfl rfl rfl rfl ?_
        refine jT.isub rfl (fun z23 rz23 ez23 => ?_)
        replace ez23 := ez23 ⟨by omega, by omega⟩
        refine jT.aald 5 13 ty oh15 rfl k22 (by decide) (by decide) rfl rz23 ⟨by omega, by omega⟩ (fun k24 => ?_)
        refine jT.getI 13 6 oh15 rfl k24 (by decide) rfl rfl rfl (fun z25 (az25 : (-1) ≤ z25) (bz25 : z25 ≤ 30) fz25 => ?_)
        have rz25 : -2147483648 ≤ z25 ∧ z25 ≤ 2147483647 := ⟨by omega, by omega⟩
        refine jT.if0 rfl rz25 (fun c59 => ?_) (fun c59 => ?_)
        · have c59 := of_decide_eq_true c59
          exact jT.ret oh15 rfl rfl rfl rfl
        · have c59 := of_decide_eq_false c59
          iterate 2 refine mj_T.pl rfl rfl rfl rfl ?_
          refine jT.getR 16 105 5 ty oh15 rfl kp0 (by decide) rfl rfl rfl (fun k26 => ?_)
          iterate 2 refine mj_T.pl rfl rfl rfl rfl ?_
          refine jT.isub rfl (fun z27 rz27 ez27 => ?_)
          replace ez27 := ez27 ⟨by omega, by omega⟩
          refine jT.aald 5 13 ty oh15 rfl k26 (by decide) (by decide) rfl rz27 ⟨by omega, by omega⟩ (fun k28 => ?_)
          refine mj_T.pl rfl rfl rfl rfl ?_
          refine jT.getR 16 105 5 ty oh15 rfl kp0 (by decide) rfl rfl rfl (fun k29 => ?_)
          iterate 2 refine mj_T.pl rfl rfl rfl rfl ?_
          refine jT.isub rfl (fun z30 rz30 ez30 => ?_)
          replace ez30 := ez30 ⟨by omega, by omega⟩
          refine jT.aald 5 13 ty oh15 rfl k29 (by decide) (by decide) rfl rz30 ⟨by omega, by omega⟩ (fun k31 => ?_)
          refine mj_T.pl rfl rfl rfl rfl ?_
          refine jT.getR 16 105 5 ty oh15 rfl kp0 (by decide) rfl rfl rfl (fun k32 => ?_)
          refine mj_T.pl rfl rfl rfl rfl ?_
          refine jT.aald 5 13 ty oh15 rfl k32 (by decide) (by decide) rfl rx14 ⟨by omega, by omega⟩ (fun k33 => ?_)
          refine jT.call rfl rfl (Nat.le_of_ble_eq_true rfl) (Nat.le_of_ble_eq_true rfl) (jrv_of oh15 kp0 (by decide) rfl (by decide) rfl _) rfl (mj_Ok.up (Nat.add_le_add_left (by decide) D) (jc_71 (D := D) ty hg oh15 kp0 k28 k31 k33)) rfl rfl (fun v34 h35 qv34 oh35 => ?_)
          obtain rfl : v34 = none := qv34
          refine mj_T.eq (pc2 := 88) (st2 := []) ?_ rfl rfl rfl rfl
          refine mj_T.pl rfl rfl rfl rfl ?_
          refine jT.getR 16 105 5 ty oh35 rfl kp0 (by decide) rfl rfl rfl (fun k36 => ?_)
          refine mj_T.pl rfl rfl rfl rfl ?_
          refine jT.aald 5 13 ty oh35 rfl k36 (by decide) (by decide) rfl rx14 ⟨by omega, by omega⟩ (fun k37 => ?_)
          refine jT.getI 13 6 oh35 rfl k37 (by decide) rfl rfl rfl (fun z38 (az38 : (-1) ≤ z38) (bz38 : z38 ≤ 30) fz38 => ?_)
          have rz38 : -2147483648 ≤ z38 ∧ z38 ≤ 2147483647 := ⟨by omega, by omega⟩
          refine jT.if0 rfl rz38 (fun c97 => ?_) (fun c97 => ?_)
          · have c97 := of_decide_eq_true c97
            iterate 3 refine mj_T.pl rfl rfl rfl rfl ?_
            refine jT.iadd rfl (fun z39 rz39 ez39 => ?_)
            replace ez39 := ez39 ⟨by omega, by omega⟩
            refine jT.putI 16 0 oh35 rfl kp0 (by decide) rfl rfl rfl (Or.inl rfl) (by show (-2147483648) ≤ z39; omega) (by show z39 ≤ 2147483647; omega) (fun h40 oh40 wh40 uh40 => ?_)
            refine jT.iinc rfl rfl (fun z41 rz41 ez41 => ?_)
            replace ez41 := ez41 ⟨by omega, by omega⟩
            refine mj_T.eq (loc2 := [some (.ref p0), some (.int (jn z41))]) ?_ rfl rfl rfl rfl
            refine mj_T.pl rfl rfl rfl rfl ?_
            exact ih18 ((2147483647 - z41 : Int).toNat) (by omega) z41 h40 rz41 oh40 (by omega) rfl
          · have c97 := of_decide_eq_false c97
            exact jT.ret oh35 rfl rfl rfl rfl
    exact t39_16 _ 2 h13 ⟨by decide, by decide⟩ oh13 (by omega) rfl
  refine jT.if0 rfl rz4 (fun c10 => ?_) (fun c10 => ?_)
  · have c10 := of_decide_eq_true c10
    refine mj_T.pl rfl rfl rfl rfl ?_
    exact t18_6 2 ⟨by decide, by decide⟩
  · have c10 := of_decide_eq_false c10
    iterate 2 refine mj_T.pl rfl rfl rfl rfl ?_
    exact t18_6 1 ⟨by decide, by decide⟩
-- PolyRegisters$Sturm.last()LPolyRegisters$Poly;
theorem jc_73 {D n : Nat} {tm : Int} {h g : mj_H} {K L : Nat → Nat} {R : Nat → Nat → Nat} {p0 : Nat} (ty : jTY K L R) (hg : g.length ≤ n) (o : jO K L R g n tm h) (kp0 : K p0 = 16) : mj_Ok (D + 1) 73 [.ref p0] h (jQp K L R g n tm h [] (jVr K 13)) := by
  refine mj_Ok.of (M := mj_m73) (loc := [some (.ref p0)]) rfl rfl rfl ?_
  refine mj_T.pl rfl rfl rfl rfl ?_
  refine jT.getR 16 105 5 ty o rfl kp0 (by decide) rfl rfl rfl (fun k1 => ?_)
  refine mj_T.pl rfl rfl rfl rfl ?_
  refine jT.getI 16 0 o rfl kp0 (by decide) rfl rfl rfl (fun z2 (az2 : (-2147483648) ≤ z2) (bz2 : z2 ≤ 2147483647) fz2 => ?_)
  have rz2 : -2147483648 ≤ z2 ∧ z2 ≤ 2147483647 := ⟨by omega, by omega⟩
  refine jT.if0 rfl rz2 (fun c8 => ?_) (fun c8 => ?_)
  · have c8 := of_decide_eq_true c8
    refine mj_T.pl rfl rfl rfl rfl ?_
    have l3 : 14 ≤ (L (R p0 1) : Int) ∧ (L (R p0 1) : Int) ≤ 14 := jlen 5 ty k1 (by decide) (by decide)
    refine jT.aald 5 13 ty o rfl k1 (by decide) (by decide) rfl ⟨by decide, by decide⟩ ⟨by omega, by omega⟩ (fun k4 => ?_)
    exact jT.retp rfl rfl rfl ⟨(R (R p0 1) (0 : Int).toNat), k4, rfl⟩
  · have c8 := of_decide_eq_false c8
    refine mj_T.pl rfl rfl rfl rfl ?_
    refine jT.getK 16 0 o rfl kp0 (by decide) rfl rfl rfl fz2.symm ?_
    refine mj_T.pl rfl rfl rfl rfl ?_
    refine jT.getR 16 105 5 ty o rfl kp0 (by decide) rfl rfl rfl (fun k5 => ?_)
    refine jT.alen 5 ty o rfl k5 (by decide) (by decide) (fun z6 ez6 (az6 : 14 ≤ z6) (bz6 : z6 ≤ 14) => ?_)
    have rz6 : -2147483648 ≤ z6 ∧ z6 ≤ 2147483647 := ⟨by omega, by omega⟩
    refine jT.icmp rfl rz2 rz6 (fun c20 => ?_) (fun c20 => ?_)
    · have c20 := of_decide_eq_true c20
      refine mj_T.pl rfl rfl rfl rfl ?_
      refine jT.aald 5 13 ty o rfl k1 (by decide) (by decide) rfl ⟨by decide, by decide⟩ ⟨by omega, by omega⟩ (fun k7 => ?_)
      exact jT.retp rfl rfl rfl ⟨(R (R p0 1) (0 : Int).toNat), k7, rfl⟩
    · have c20 := of_decide_eq_false c20
      refine mj_T.pl rfl rfl rfl rfl ?_
      refine jT.getK 16 0 o rfl kp0 (by decide) rfl rfl rfl fz2.symm ?_
      refine mj_T.pl rfl rfl rfl rfl ?_
      refine jT.isub rfl (fun z8 rz8 ez8 => ?_)
      replace ez8 := ez8 ⟨by omega, by omega⟩
      refine mj_T.pl rfl rfl rfl rfl ?_
      refine jT.aald 5 13 ty o rfl k1 (by decide) (by decide) rfl rz8 ⟨by omega, by omega⟩ (fun k9 => ?_)
      exact jT.retp rfl rfl rfl ⟨(R (R p0 1) (z8 : Int).toNat), k9, rfl⟩
-- PolyRegisters$Sturm.putDerivative()V
theorem jc_69 {D n : Nat} {tm : Int} {h g : mj_H} {K L : Nat → Nat} {R : Nat → Nat → Nat} {p0 : Nat} (ty : jTY K L R) (hg : g.length ≤ n) (o : jO K L R g n tm h) (kp0 : K p0 = 16) : mj_Ok (D + 3) 69 [.ref p0] h (jQ K L R g n tm [] jV0) := by
  refine mj_Ok.of (M := mj_m69) (loc := [some (.ref p0), none, none]) rfl rfl rfl ?_
  refine mj_T.pl rfl rfl rfl rfl ?_
  refine jT.getR 16 105 5 ty o rfl kp0 (by decide) rfl rfl rfl (fun k1 => ?_)
  refine mj_T.pl rfl rfl rfl rfl ?_
  have l2 : 14 ≤ (L (R p0 1) : Int) ∧ (L (R p0 1) : Int) ≤ 14 := jlen 5 ty k1 (by decide) (by decide)
  refine jT.aald 5 13 ty o rfl k1 (by decide) (by decide) rfl ⟨by decide, by decide⟩ ⟨by omega, by omega⟩ (fun k3 => ?_)
  refine mj_T.pl (loc' := [some (.ref p0), some (.ref (R (R p0 1) (1 : Int).toNat)), none]) rfl rfl rfl rfl ?_
  refine mj_T.pl rfl rfl rfl rfl ?_
  refine jT.call rfl rfl (Nat.le_of_ble_eq_true rfl) (Nat.le_of_ble_eq_true rfl) (jrv_of o k3 (by decide) rfl (by decide) rfl _) rfl (mj_Ok.up (Nat.add_le_add_left (by decide) D) (jc_39 (D := D) ty hg o k3)) rfl rfl (fun v4 h5 qv4 oh5 => ?_)
  obtain rfl : v4 = none := qv4
  refine mj_T.eq (pc2 := 11) (st2 := []) ?_ rfl rfl rfl rfl
  refine mj_T.pl rfl rfl rfl rfl ?_
  refine mj_T.pl (loc' := [some (.ref p0), some (.ref (R (R p0 1) (1 : Int).toNat)), some (.int (jn 1))]) rfl rfl rfl rfl ?_
  have t13_8 : ∀ (k9 : Nat) (x6 : Int) (h7 : mj_H), (-2147483648 ≤ x6 ∧ x6 ≤ 2147483647) → (jO K L R g n tm h7) → (1 ≤ x6) → (2147483647 - x6 : Int).toNat = k9 → mj_T (D + 2) mj_m69 13 [some (.ref p0), some (.ref (R (R p0 1) (1 : Int).toNat)), some (.int (jn x6))] [] h7 (jQ K L R g n tm [] jV0) := by
    refine jInd (fun k9 ih10 => ?_)
    intro x6 h7 rx6 oh7 ix6 hm11
    refine mj_T.pl rfl rfl rfl rfl ?_
    refine mj_T.pl rfl rfl rfl rfl ?_
    refine jT.getR 16 105 5 ty oh7 rfl kp0 (by decide) rfl rfl rfl (fun k12 => ?_)
    refine mj_T.pl rfl rfl rfl rfl ?_
    refine jT.aald 5 13 ty oh7 rfl k12 (by decide) (by decide) rfl ⟨by decide, by decide⟩ ⟨by omega, by omega⟩ (fun k13 => ?_)
    refine jT.getI 13 6 oh7 rfl k13 (by decide) rfl rfl rfl (fun z14 (az14 : (-1) ≤ z14) (bz14 : z14 ≤ 30) fz14 => ?_)
    have rz14 : -2147483648 ≤ z14 ∧ z14 ≤ 2147483647 := ⟨by omega, by omega⟩
    refine jT.icmp rfl rx6 rz14 (fun c23 => ?_) (fun c23 => ?_)
    · have c23 := of_decide_eq_true c23
      refine mj_T.pl rfl rfl rfl rfl ?_
      refine jT.call rfl rfl (Nat.le_of_ble_eq_true rfl) (Nat.le_of_ble_eq_true rfl) (jrv_of oh7 k3 (by decide) rfl (by decide) rfl _) rfl (mj_Ok.up (Nat.add_le_add_left (by decide) D) (jc_42 (D := D) ty hg oh7 k3)) rfl rfl (fun v15 h16 qv15 oh16 => ?_)
      obtain rfl : v15 = none := qv15
      refine mj_T.eq (pc2 := 68) (st2 := []) ?_ rfl rfl rfl rfl
      exact jT.ret oh16 rfl rfl rfl rfl
    · have c23 := of_decide_eq_false c23
      iterate 3 refine mj_T.pl rfl rfl rfl rfl ?_
      refine jT.isub rfl (fun z17 rz17 ez17 => ?_)
      replace ez17 := ez17 ⟨by omega, by omega⟩
      refine jT.callp rfl rfl (Nat.le_of_ble_eq_true rfl) (Nat.le_of_ble_eq_true rfl) (jrv_of oh7 k3 (by decide) rfl (by decide) rfl _) rfl (mj_Ok.up (Nat.add_le_add_left (by decide) D) (jc_36 (D := D) ty hg oh7 k3 rz17)) rfl rfl (fun v18 qv18 => ?_)
      obtain ⟨a19, ka19, rfl⟩ := qv18
      refine mj_T.eq (pc2 := 33) (st2 := [.ref a19]) ?_ rfl rfl rfl rfl
      refine mj_T.pl rfl rfl rfl rfl ?_
      refine jT.getR 16 105 5 ty oh7 rfl kp0 (by decide) rfl rfl rfl (fun k20 => ?_)
      refine mj_T.pl rfl rfl rfl rfl ?_
      refine jT.aald 5 13 ty oh7 rfl k20 (by decide) (by decide) rfl ⟨by decide, by decide⟩ ⟨by omega, by omega⟩ (fun k21 => ?_)
      refine mj_T.pl rfl rfl rfl rfl ?_
      refine jT.callp rfl rfl (Nat.le_of_ble_eq_true rfl) (Nat.le_of_ble_eq_true rfl) (jrv_of oh7 k21 (by decide) rfl (by decide) rfl _) rfl (mj_Ok.up (Nat.add_le_add_left (by decide) D) (jc_36 (D := D) ty hg oh7 k21 rx6)) rfl rfl (fun v22 qv22 => ?_)
      obtain ⟨a23, ka23, rfl⟩ := qv22
      refine mj_T.eq (pc2 := 43) (st2 := [.ref a23, .ref a19]) ?_ rfl rfl rfl rfl
      refine jT.call rfl rfl (Nat.le_of_ble_eq_true rfl) (Nat.le_of_ble_eq_true rfl) (jrv_of oh7 ka19 (by decide) rfl (by decide) rfl _) rfl (mj_Ok.up (Nat.add_le_add_left (by decide) D) (jc_87 (D := D) ty hg oh7 ka19 ka23)) rfl rfl (fun v24 h25 qv24 oh25 => ?_)
      obtain rfl : v24 = none := qv24
      refine mj_T.eq (pc2 := 46) (st2 := []) ?_ rfl rfl rfl rfl
      iterate 3 refine mj_T.pl rfl rfl rfl rfl ?_
      refine jT.isub rfl (fun z26 rz26 ez26 => ?_)
      replace ez26 := ez26 ⟨by omega, by omega⟩
      refine jT.callp rfl rfl (Nat.le_of_ble_eq_true rfl) (Nat.le_of_ble_eq_true rfl) (jrv_of oh25 k3 (by decide) rfl (by decide) rfl _) rfl (mj_Ok.up (Nat.add_le_add_left (by decide) D) (jc_36 (D := D) ty hg oh25 k3 rz26)) rfl rfl (fun v27 qv27 => ?_)
      obtain ⟨a28, ka28, rfl⟩ := qv27
      refine mj_T.eq (pc2 := 53) (st2 := [.ref a28]) ?_ rfl rfl rfl rfl
      refine mj_T.pl rfl rfl rfl rfl ?_
      refine jT.i2l rfl rx6 ?_
      have j29 : jR x6 := ⟨by omega, by omega⟩
      refine jT.call rfl rfl (Nat.le_of_ble_eq_true rfl) (Nat.le_of_ble_eq_true rfl) (jrv_of oh25 ka28 (by decide) rfl (by decide) rfl _) rfl (mj_Ok.up (Nat.add_le_add_left (by decide) D) (jc_96 (D := D) ty hg oh25 ka28 j29)) rfl rfl (fun v30 h31 qv30 oh31 => ?_)
      obtain rfl : v30 = none := qv30
      refine mj_T.eq (pc2 := 58) (st2 := []) ?_ rfl rfl rfl rfl
      refine jT.iinc rfl rfl (fun z32 rz32 ez32 => ?_)
      replace ez32 := ez32 ⟨by omega, by omega⟩
      refine mj_T.eq (loc2 := [some (.ref p0), some (.ref (R (R p0 1) (1 : Int).toNat)), some (.int (jn z32))]) ?_ rfl rfl rfl rfl
      refine mj_T.pl rfl rfl rfl rfl ?_
      exact ih10 ((2147483647 - z32 : Int).toNat) (by omega) z32 h31 rz32 oh31 (by omega) rfl
  exact t13_8 _ 1 h5 ⟨by decide, by decide⟩ oh5 (by omega) rfl
-- PolyRegisters$Sturm.changesFar(I)I
theorem jc_77 {D n : Nat} {tm : Int} {h g : mj_H} {K L : Nat → Nat} {R : Nat → Nat → Nat} {p0 : Nat} {p1 : Int} (ty : jTY K L R) (hg : g.length ≤ n) (o : jO K L R g n tm h) (kp0 : K p0 = 16) (rp1 : -2147483648 ≤ p1 ∧ p1 ≤ 2147483647) : mj_Ok (D + 3) 77 [.ref p0, .int (jn p1)] h (jQp K L R g n tm h [] (jVi (-2147483648) 2147483647)) := by
  refine mj_Ok.of (M := mj_m77) (loc := [some (.ref p0), some (.int (jn p1)), none, none, none, none]) rfl rfl rfl ?_
  refine mj_T.pl rfl rfl rfl rfl ?_
  refine mj_T.pl (loc' := [some (.ref p0), some (.int (jn p1)), some (.int (jn 0)), none, none, none]) rfl rfl rfl rfl ?_
  refine mj_T.pl rfl rfl rfl rfl ?_
  refine mj_T.pl (loc' := [some (.ref p0), some (.int (jn p1)), some (.int (jn 0)), some (.int (jn 0)), none, none]) rfl rfl rfl rfl ?_
  refine mj_T.pl rfl rfl rfl rfl ?_
  refine mj_T.pl (loc' := [some (.ref p0), some (.int (jn p1)), some (.int (jn 0)), some (.int (jn 0)), some (.int (jn 0)), none]) rfl rfl rfl rfl ?_
  have t7_5 : ∀ (k6 : Nat) (x1 : Int) (x2 : Int) (x3 : Int) (w4 : Option Value), (-2147483648 ≤ x1 ∧ x1 ≤ 2147483647) → (-2147483648 ≤ x2 ∧ x2 ≤ 2147483647) → (-2147483648 ≤ x3 ∧ x3 ≤ 2147483647) → (0 ≤ x3) → (2147483647 - x3 : Int).toNat = k6 → mj_T (D + 2) mj_m77 7 [some (.ref p0), some (.int (jn p1)), some (.int (jn x1)), some (.int (jn x2)), some (.int (jn x3)), w4] [] h (jQp K L R g n tm h [] (jVi (-2147483648) 2147483647)) := by
    refine jInd (fun k6 ih7 => ?_)
    intro x1 x2 x3 w4 rx1 rx2 rx3 ix3 hm8
    refine mj_T.pl rfl rfl rfl rfl ?_
    refine mj_T.pl rfl rfl rfl rfl ?_
    refine jT.getI 16 0 o rfl kp0 (by decide) rfl rfl rfl (fun z9 (az9 : (-2147483648) ≤ z9) (bz9 : z9 ≤ 2147483647) fz9 => ?_)
    have rz9 : -2147483648 ≤ z9 ∧ z9 ≤ 2147483647 := ⟨by omega, by omega⟩
    refine jT.icmp rfl rx3 rz9 (fun c13 => ?_) (fun c13 => ?_)
    · have c13 := of_decide_eq_true c13
      refine mj_T.pl rfl rfl rfl rfl ?_
      exact jT.retp rfl rfl rfl ⟨x1, by omega, by omega, rfl⟩
    · have c13 := of_decide_eq_false c13
      iterate 2 refine mj_T.pl rfl rfl rfl rfl ?_
      refine jT.getR 16 105 5 ty o rfl kp0 (by decide) rfl rfl rfl (fun k10 => ?_)
      refine jT.alen 5 ty o rfl k10 (by decide) (by decide) (fun z11 ez11 (az11 : 14 ≤ z11) (bz11 : z11 ≤ 14) => ?_)
      have rz11 : -2147483648 ≤ z11 ∧ z11 ≤ 2147483647 := ⟨by omega, by omega⟩
      refine jT.icmp rfl rx3 rz11 (fun c23 => ?_) (fun c23 => ?_)
      · have c23 := of_decide_eq_true c23
        refine mj_T.pl rfl rfl rfl rfl ?_
        exact jT.retp rfl rfl rfl ⟨x1, by omega, by omega, rfl⟩
      · have c23 := of_decide_eq_false c23
        refine mj_T.pl rfl rfl rfl rfl ?_
        refine jT.getR 16 105 5 ty o rfl kp0 (by decide) rfl rfl rfl (fun k12 => ?_)
        refine mj_T.pl rfl rfl rfl rfl ?_
        refine jT.aald 5 13 ty o rfl k12 (by decide) (by decide) rfl rx3 ⟨by omega, by omega⟩ (fun k13 => ?_)
        refine jT.callpp rfl rfl (Nat.le_of_ble_eq_true rfl) (Nat.le_of_ble_eq_true rfl) (jrv_of o k13 (by decide) rfl (by decide) rfl _) rfl (mj_Ok.up (Nat.add_le_add_left (by decide) D) (jc_37 (D := D) ty hg o k13)) rfl rfl (fun v14 qv14 => ?_)
        obtain ⟨a15, ka15, rfl⟩ := qv14
        refine mj_T.eq (pc2 := 36) (st2 := [.ref a15]) ?_ rfl rfl rfl rfl
        refine jT.getI 18 0 o rfl ka15 (by decide) rfl rfl rfl (fun z16 (az16 : (-2147483648) ≤ z16) (bz16 : z16 ≤ 2147483647) fz16 => ?_)
        have rz16 : -2147483648 ≤ z16 ∧ z16 ≤ 2147483647 := ⟨by omega, by omega⟩
        refine mj_T.pl rfl rfl rfl rfl ?_
        refine jT.getR 16 105 5 ty o rfl kp0 (by decide) rfl rfl rfl (fun k17 => ?_)
        refine mj_T.pl rfl rfl rfl rfl ?_
        refine jT.aald 5 13 ty o rfl k17 (by decide) (by decide) rfl rx3 ⟨by omega, by omega⟩ (fun k18 => ?_)
        refine jT.getI 13 6 o rfl k18 (by decide) rfl rfl rfl (fun z19 (az19 : (-1) ≤ z19) (bz19 : z19 ≤ 30) fz19 => ?_)
        have rz19 : -2147483648 ≤ z19 ∧ z19 ≤ 2147483647 := ⟨by omega, by omega⟩
        refine mj_T.pl rfl rfl rfl rfl ?_
        refine jT.irem rfl ⟨by decide, by decide⟩ (by decide) (fun z20 rz20 => ?_)
        have t59_22 : ∀ (x21 : Int), (-2147483648 ≤ x21 ∧ x21 ≤ 2147483647) → mj_T (D + 2) mj_m77 59 [some (.ref p0), some (.int (jn p1)), some (.int (jn x1)), some (.int (jn x2)), some (.int (jn x3)), w4] [.int (jn x21), .int (jn z16)] h (jQp K L R g n tm h [] (jVi (-2147483648) 2147483647)) := by
          intro x21 rx21
          refine jT.imul rfl (fun z23 rz23 ez23 => ?_)
          clear ez23
          refine mj_T.pl (loc' := [some (.ref p0), some (.int (jn p1)), some (.int (jn x1)), some (.int (jn x2)), some (.int (jn x3)), some (.int (jn z23))]) rfl rfl rfl rfl ?_
          iterate 3 refine mj_T.pl rfl rfl rfl rfl ?_
          refine jT.imul rfl (fun z24 rz24 ez24 => ?_)
          clear ez24
          refine jT.if0 rfl rz24 (fun c67 => ?_) (fun c67 => ?_)
          · have c67 := of_decide_eq_true c67
            refine mj_T.pl rfl rfl rfl rfl ?_
            refine jT.iadd rfl (fun z25 rz25 ez25 => ?_)
            replace ez25 := ez25 ⟨by omega, by omega⟩
            refine mj_T.pl (loc' := [some (.ref p0), some (.int (jn p1)), some (.int (jn z25)), some (.int (jn x2)), some (.int (jn x3)), some (.int (jn z23))]) rfl rfl rfl rfl ?_
            refine mj_T.pl rfl rfl rfl rfl ?_
            refine mj_T.pl (loc' := [some (.ref p0), some (.int (jn p1)), some (.int (jn z25)), some (.int (jn z23)), some (.int (jn x3)), some (.int (jn z23))]) rfl rfl rfl rfl ?_
            refine jT.iinc rfl rfl (fun z26 rz26 ez26 => ?_)
            replace ez26 := ez26 ⟨by omega, by omega⟩
            refine mj_T.eq (loc2 := [some (.ref p0), some (.int (jn p1)), some (.int (jn z25)), some (.int (jn z23)), some (.int (jn z26)), some (.int (jn z23))]) ?_ rfl rfl rfl rfl
            refine mj_T.pl rfl rfl rfl rfl ?_
            exact ih7 ((2147483647 - z26 : Int).toNat) (by omega) z25 z23 z26 (some (.int (jn z23))) rz25 rz23 rz26 (by omega) rfl
          · have c67 := of_decide_eq_false c67
            iterate 2 refine mj_T.pl rfl rfl rfl rfl ?_
            refine jT.iadd rfl (fun z27 rz27 ez27 => ?_)
            clear ez27
            refine mj_T.pl (loc' := [some (.ref p0), some (.int (jn p1)), some (.int (jn z27)), some (.int (jn x2)), some (.int (jn x3)), some (.int (jn z23))]) rfl rfl rfl rfl ?_
            refine mj_T.pl rfl rfl rfl rfl ?_
            refine mj_T.pl (loc' := [some (.ref p0), some (.int (jn p1)), some (.int (jn z27)), some (.int (jn z23)), some (.int (jn x3)), some (.int (jn z23))]) rfl rfl rfl rfl ?_
            refine jT.iinc rfl rfl (fun z28 rz28 ez28 => ?_)
            replace ez28 := ez28 ⟨by omega, by omega⟩
            refine mj_T.eq (loc2 := [some (.ref p0), some (.int (jn p1)), some (.int (jn z27)), some (.int (jn z23)), some (.int (jn z28)), some (.int (jn z23))]) ?_ rfl rfl rfl rfl
            refine mj_T.pl rfl rfl rfl rfl ?_
            exact ih7 ((2147483647 - z28 : Int).toNat) (by omega) z27 z23 z28 (some (.int (jn z23))) rz27 rz23 rz28 (by omega) rfl
        refine jT.if0 rfl rz20 (fun c51 => ?_) (fun c51 => ?_)
        · have c51 := of_decide_eq_true c51
          refine mj_T.pl rfl rfl rfl rfl ?_
          exact t59_22 1 ⟨by decide, by decide⟩
        · have c51 := of_decide_eq_false c51
          iterate 2 refine mj_T.pl rfl rfl rfl rfl ?_
          exact t59_22 p1 rp1
  exact t7_5 _ 0 0 0 none ⟨by decide, by decide⟩ ⟨by decide, by decide⟩ ⟨by decide, by decide⟩ (by omega) rfl
-- PolyRegisters$Sturm.stretch(J)V
theorem jc_74 {D n : Nat} {tm : Int} {h g : mj_H} {K L : Nat → Nat} {R : Nat → Nat → Nat} {p0 : Nat} {p1 : Int} (ty : jTY K L R) (hg : g.length ≤ n) (o : jO K L R g n tm h) (kp0 : K p0 = 16) (jp1 : jR p1) : mj_Ok (D + 3) 74 [.ref p0, .long (jl p1)] h (jQ K L R g n tm [] jV0) := by
  refine mj_Ok.of (M := mj_m74) (loc := [some (.ref p0), some (.long (jl p1)), none, none]) rfl rfl rfl ?_
  refine mj_T.pl rfl rfl rfl rfl ?_
  refine mj_T.pl (loc' := [some (.ref p0), some (.long (jl p1)), none, some (.int (jn 0))]) rfl rfl rfl rfl ?_
  have t2_3 : ∀ (k4 : Nat) (x1 : Int) (h2 : mj_H), (-2147483648 ≤ x1 ∧ x1 ≤ 2147483647) → (jO K L R g n tm h2) → (0 ≤ x1) → (2147483647 - x1 : Int).toNat = k4 → mj_T (D + 2) mj_m74 2 [some (.ref p0), some (.long (jl p1)), none, some (.int (jn x1))] [] h2 (jQ K L R g n tm [] jV0) := by
    refine jInd (fun k4 ih5 => ?_)
    intro x1 h2 rx1 oh2 ix1 hm6
    refine mj_T.pl rfl rfl rfl rfl ?_
    refine mj_T.pl rfl rfl rfl rfl ?_
    refine jT.getI 16 0 oh2 rfl kp0 (by decide) rfl rfl rfl (fun z7 (az7 : (-2147483648) ≤ z7) (bz7 : z7 ≤ 2147483647) fz7 => ?_)
    have rz7 : -2147483648 ≤ z7 ∧ z7 ≤ 2147483647 := ⟨by omega, by omega⟩
    refine jT.icmp rfl rx1 rz7 (fun c7 => ?_) (fun c7 => ?_)
    · have c7 := of_decide_eq_true c7
      exact jT.ret oh2 rfl rfl rfl rfl
    · have c7 := of_decide_eq_false c7
      iterate 2 refine mj_T.pl rfl rfl rfl rfl ?_
      refine jT.getR 16 105 5 ty oh2 rfl kp0 (by decide) rfl rfl rfl (fun k8 => ?_)
      refine jT.alen 5 ty oh2 rfl k8 (by decide) (by decide) (fun z9 ez9 (az9 : 14 ≤ z9) (bz9 : z9 ≤ 14) => ?_)
      have rz9 : -2147483648 ≤ z9 ∧ z9 ≤ 2147483647 := ⟨by omega, by omega⟩
      refine jT.icmp rfl rx1 rz9 (fun c16 => ?_) (fun c16 => ?_)
      · have c16 := of_decide_eq_true c16
        exact jT.ret oh2 rfl rfl rfl rfl
      · have c16 := of_decide_eq_false c16
        refine mj_T.pl rfl rfl rfl rfl ?_
        refine jT.getR 16 111 11 ty oh2 rfl kp0 (by decide) rfl rfl rfl (fun k10 => ?_)
        refine mj_T.pl rfl rfl rfl rfl ?_
        refine jT.getR 16 105 5 ty oh2 rfl kp0 (by decide) rfl rfl rfl (fun k11 => ?_)
        refine mj_T.pl rfl rfl rfl rfl ?_
        refine jT.aald 5 13 ty oh2 rfl k11 (by decide) (by decide) rfl rx1 ⟨by omega, by omega⟩ (fun k12 => ?_)
        refine mj_T.pl rfl rfl rfl rfl ?_
        refine jT.call rfl rfl (Nat.le_of_ble_eq_true rfl) (Nat.le_of_ble_eq_true rfl) (jrv_of oh2 k10 (by decide) rfl (by decide) rfl _) rfl (mj_Ok.up (Nat.add_le_add_left (by decide) D) (jc_26 (D := D) ty hg oh2 k10 k12 jp1)) rfl rfl (fun v13 h14 qv13 oh14 => ?_)
        obtain rfl : v13 = none := qv13
        refine mj_T.eq (pc2 := 33) (st2 := []) ?_ rfl rfl rfl rfl
        refine jT.iinc rfl rfl (fun z15 rz15 ez15 => ?_)
        replace ez15 := ez15 ⟨by omega, by omega⟩
        refine mj_T.eq (loc2 := [some (.ref p0), some (.long (jl p1)), none, some (.int (jn z15))]) ?_ rfl rfl rfl rfl
        refine mj_T.pl rfl rfl rfl rfl ?_
        exact ih5 ((2147483647 - z15 : Int).toNat) (by omega) z15 h14 rz15 oh14 (by omega) rfl
  exact t2_3 _ 0 h ⟨by decide, by decide⟩ o (by omega) rfl
-- PolyRegisters$Sturm.changesAt(LPolyRegisters$Wide;)I
theorem jc_76 {D n : Nat} {tm : Int} {h g : mj_H} {K L : Nat → Nat} {R : Nat → Nat → Nat} {p0 : Nat} {p1 : Nat} (ty : jTY K L R) (hg : g.length ≤ n) (o : jO K L R g n tm h) (kp0 : K p0 = 16) (kp1 : K p1 = 18) : mj_Ok (D + 4) 76 [.ref p0, .ref p1] h (jQ K L R g n tm [] (jVi (-2147483648) 2147483647)) := by
  refine mj_Ok.of (M := mj_m76) (loc := [some (.ref p0), some (.ref p1), none, none, none, none]) rfl rfl rfl ?_
  refine mj_T.pl rfl rfl rfl rfl ?_
  refine mj_T.pl (loc' := [some (.ref p0), some (.ref p1), some (.int (jn 0)), none, none, none]) rfl rfl rfl rfl ?_
  refine mj_T.pl rfl rfl rfl rfl ?_
  refine mj_T.pl (loc' := [some (.ref p0), some (.ref p1), some (.int (jn 0)), some (.int (jn 0)), none, none]) rfl rfl rfl rfl ?_
  refine mj_T.pl rfl rfl rfl rfl ?_
  refine mj_T.pl (loc' := [some (.ref p0), some (.ref p1), some (.int (jn 0)), some (.int (jn 0)), some (.int (jn 0)), none]) rfl rfl rfl rfl ?_
  have t7_6 : ∀ (k7 : Nat) (x1 : Int) (x2 : Int) (x3 : Int) (w4 : Option Value) (h5 : mj_H), (-2147483648 ≤ x1 ∧ x1 ≤ 2147483647) → (-2147483648 ≤ x2 ∧ x2 ≤ 2147483647) → (-2147483648 ≤ x3 ∧ x3 ≤ 2147483647) → (jO K L R g n tm h5) → (0 ≤ x3) → (2147483647 - x3 : Int).toNat = k7 → mj_T (D + 3) mj_m76 7 [some (.ref p0), some (.ref p1), some (.int (jn x1)), some (.int (jn x2)), some (.int (jn x3)), w4] [] h5 (jQ K L R g n tm [] (jVi (-2147483648) 2147483647)) := by
    refine jInd (fun k7 ih8 => ?_)
    intro x1 x2 x3 w4 h5 rx1 rx2 rx3 oh5 ix3 hm9
    refine mj_T.pl rfl rfl rfl rfl ?_
    refine mj_T.pl rfl rfl rfl rfl ?_
    refine jT.getI 16 0 oh5 rfl kp0 (by decide) rfl rfl rfl (fun z10 (az10 : (-2147483648) ≤ z10) (bz10 : z10 ≤ 2147483647) fz10 => ?_)
    have rz10 : -2147483648 ≤ z10 ∧ z10 ≤ 2147483647 := ⟨by omega, by omega⟩
    refine jT.icmp rfl rx3 rz10 (fun c13 => ?_) (fun c13 => ?_)
    · have c13 := of_decide_eq_true c13
      refine mj_T.pl rfl rfl rfl rfl ?_
      exact jT.ret oh5 rfl rfl rfl ⟨x1, by omega, by omega, rfl⟩
    · have c13 := of_decide_eq_false c13
      iterate 2 refine mj_T.pl rfl rfl rfl rfl ?_
      refine jT.getR 16 105 5 ty oh5 rfl kp0 (by decide) rfl rfl rfl (fun k11 => ?_)
      refine jT.alen 5 ty oh5 rfl k11 (by decide) (by decide) (fun z12 ez12 (az12 : 14 ≤ z12) (bz12 : z12 ≤ 14) => ?_)
      have rz12 : -2147483648 ≤ z12 ∧ z12 ≤ 2147483647 := ⟨by omega, by omega⟩
      refine jT.icmp rfl rx3 rz12 (fun c23 => ?_) (fun c23 => ?_)
      · have c23 := of_decide_eq_true c23
        refine mj_T.pl rfl rfl rfl rfl ?_
        exact jT.ret oh5 rfl rfl rfl ⟨x1, by omega, by omega, rfl⟩
      · have c23 := of_decide_eq_false c23
        refine mj_T.pl rfl rfl rfl rfl ?_
        refine jT.getR 16 111 11 ty oh5 rfl kp0 (by decide) rfl rfl rfl (fun k13 => ?_)
        refine mj_T.pl rfl rfl rfl rfl ?_
        refine jT.getR 16 105 5 ty oh5 rfl kp0 (by decide) rfl rfl rfl (fun k14 => ?_)
        refine mj_T.pl rfl rfl rfl rfl ?_
        refine jT.aald 5 13 ty oh5 rfl k14 (by decide) (by decide) rfl rx3 ⟨by omega, by omega⟩ (fun k15 => ?_)
        refine mj_T.pl rfl rfl rfl rfl ?_
        refine jT.call rfl rfl (Nat.le_of_ble_eq_true rfl) (Nat.le_of_ble_eq_true rfl) (jrv_of oh5 k13 (by decide) rfl (by decide) rfl _) rfl (mj_Ok.up (Nat.add_le_add_left (by decide) D) (jc_28 (D := D) ty hg oh5 k13 k15 kp1)) rfl rfl (fun v16 h17 qv16 oh17 => ?_)
        obtain ⟨z18, az18, bz18, rfl⟩ := qv16
        have rz18 : -2147483648 ≤ z18 ∧ z18 ≤ 2147483647 := ⟨by omega, by omega⟩
        refine mj_T.eq (pc2 := 41) (st2 := [.int (jn z18)]) ?_ rfl rfl rfl rfl
        refine mj_T.pl (loc' := [some (.ref p0), some (.ref p1), some (.int (jn x1)), some (.int (jn x2)), some (.int (jn x3)), some (.int (jn z18))]) rfl rfl rfl rfl ?_
        iterate 3 refine mj_T.pl rfl rfl rfl rfl ?_
        refine jT.imul rfl (fun z19 rz19 ez19 => ?_)
        clear ez19
        have t56_21 : ∀ (x20 : Int), (0 ≤ x20 ∧ x20 ≤ 1) → mj_T (D + 3) mj_m76 56 [some (.ref p0), some (.ref p1), some (.int (jn x1)), some (.int (jn x2)), some (.int (jn x3)), some (.int (jn z18))] [.int (jn x20), .int (jn x1)] h17 (jQ K L R g n tm [] (jVi (-2147483648) 2147483647)) := by
          intro x20 ax20
          have rx20 : -2147483648 ≤ x20 ∧ x20 ≤ 2147483647 := ⟨by omega, by omega⟩
          refine jT.iadd rfl (fun z22 rz22 ez22 => ?_)
          clear ez22
          refine mj_T.pl (loc' := [some (.ref p0), some (.ref p1), some (.int (jn z22)), some (.int (jn x2)), some (.int (jn x3)), some (.int (jn z18))]) rfl rfl rfl rfl ?_
          refine mj_T.pl rfl rfl rfl rfl ?_
          refine jT.if0 rfl rz18 (fun c60 => ?_) (fun c60 => ?_)
          · have c60 := jne1 c60
            refine mj_T.pl rfl rfl rfl rfl ?_
            refine mj_T.pl (loc' := [some (.ref p0), some (.ref p1), some (.int (jn z22)), some (.int (jn z18)), some (.int (jn x3)), some (.int (jn z18))]) rfl rfl rfl rfl ?_
            refine jT.iinc rfl rfl (fun z23 rz23 ez23 => ?_)
            replace ez23 := ez23 ⟨by omega, by omega⟩
            refine mj_T.eq (loc2 := [some (.ref p0), some (.ref p1), some (.int (jn z22)), some (.int (jn z18)), some (.int (jn z23)), some (.int (jn z18))]) ?_ rfl rfl rfl rfl
            refine mj_T.pl rfl rfl rfl rfl ?_
            exact ih8 ((2147483647 - z23 : Int).toNat) (by omega) z22 z18 z23 (some (.int (jn z18))) h17 rz22 rz18 rz23 oh17 (by omega) rfl
          · have c60 := jne2 c60
            iterate 2 refine mj_T.pl rfl rfl rfl rfl ?_
            refine mj_T.pl (loc' := [some (.ref p0), some (.ref p1), some (.int (jn z22)), some (.int (jn x2)), some (.int (jn x3)), some (.int (jn z18))]) rfl rfl rfl rfl ?_
            refine jT.iinc rfl rfl (fun z24 rz24 ez24 => ?_)
            replace ez24 := ez24 ⟨by omega, by omega⟩
            refine mj_T.eq (loc2 := [some (.ref p0), some (.ref p1), some (.int (jn z22)), some (.int (jn x2)), some (.int (jn z24)), some (.int (jn z18))]) ?_ rfl rfl rfl rfl
            refine mj_T.pl rfl rfl rfl rfl ?_
            exact ih8 ((2147483647 - z24 : Int).toNat) (by omega) z22 x2 z24 (some (.int (jn z18))) h17 rz22 rx2 rz24 oh17 (by omega) rfl
        refine jT.if0 rfl rz19 (fun c48 => ?_) (fun c48 => ?_)
        · have c48 := of_decide_eq_true c48
          refine mj_T.pl rfl rfl rfl rfl ?_
          exact t56_21 0 ⟨by omega, by omega⟩
        · have c48 := of_decide_eq_false c48
          iterate 2 refine mj_T.pl rfl rfl rfl rfl ?_
          exact t56_21 1 ⟨by omega, by omega⟩
  exact t7_6 _ 0 0 0 none h ⟨by decide, by decide⟩ ⟨by decide, by decide⟩ ⟨by decide, by decide⟩ o (by omega) rfl
-- PolyRegisters$Sturm.begin([JJ)V
theorem jc_68 {D n : Nat} {tm : Int} {h g : mj_H} {K L : Nat → Nat} {R : Nat → Nat → Nat} {p0 : Nat} {p1 : Nat} {p2 : Int} (ty : jTY K L R) (hg : g.length ≤ n) (o : jO K L R g n tm h) (kp0 : K p0 = 16) (kp1 : K p1 = 2) (jp2 : jR p2) : mj_Ok (D + 6) 68 [.ref p0, .ref p1, .long (jl p2)] h (jQ K L R g n tm [] jV0) := by
  refine mj_Ok.of (M := mj_m68) (loc := [some (.ref p0), some (.ref p1), some (.long (jl p2)), none]) rfl rfl rfl ?_
  refine mj_T.pl rfl rfl rfl rfl ?_
  refine jT.getR 16 105 5 ty o rfl kp0 (by decide) rfl rfl rfl (fun k1 => ?_)
  refine mj_T.pl rfl rfl rfl rfl ?_
  have l2 : 14 ≤ (L (R p0 1) : Int) ∧ (L (R p0 1) : Int) ≤ 14 := jlen 5 ty k1 (by decide) (by decide)
  refine jT.aald 5 13 ty o rfl k1 (by decide) (by decide) rfl ⟨by decide, by decide⟩ ⟨by omega, by omega⟩ (fun k3 => ?_)
  iterate 2 refine mj_T.pl rfl rfl rfl rfl ?_
  refine jT.call rfl rfl (Nat.le_of_ble_eq_true rfl) (Nat.le_of_ble_eq_true rfl) (jrv_of o k3 (by decide) rfl (by decide) rfl _) rfl (mj_Ok.up (Nat.add_le_add_left (by decide) D) (jc_40 (D := D) ty hg o k3 kp1 jp2)) rfl rfl (fun v4 h5 qv4 oh5 => ?_)
  obtain rfl : v4 = none := qv4
  refine mj_T.eq (pc2 := 11) (st2 := []) ?_ rfl rfl rfl rfl
  refine mj_T.pl rfl rfl rfl rfl ?_
  refine jT.call rfl rfl (Nat.le_of_ble_eq_true rfl) (Nat.le_of_ble_eq_true rfl) (jrv_of oh5 kp0 (by decide) rfl (by decide) rfl _) rfl (mj_Ok.up (Nat.add_le_add_left (by decide) D) (jc_69 (D := D) ty hg oh5 kp0)) rfl rfl (fun v6 h7 qv6 oh7 => ?_)
  obtain rfl : v6 = none := qv6
  refine mj_T.eq (pc2 := 15) (st2 := []) ?_ rfl rfl rfl rfl
  refine mj_T.pl rfl rfl rfl rfl ?_
  refine jT.call rfl rfl (Nat.le_of_ble_eq_true rfl) (Nat.le_of_ble_eq_true rfl) (jrv_of oh7 kp0 (by decide) rfl (by decide) rfl _) rfl (mj_Ok.up (Nat.add_le_add_left (by decide) D) (jc_70 (D := D) ty hg oh7 kp0)) rfl rfl (fun v8 h9 qv8 oh9 => ?_)
  obtain rfl : v8 = none := qv8
  refine mj_T.eq (pc2 := 19) (st2 := []) ?_ rfl rfl rfl rfl
  exact jT.ret oh9 rfl rfl rfl rfl
-- PolyRegisters$Sturm.changesAt(J)I
theorem jc_75 {D n : Nat} {tm : Int} {h g : mj_H} {K L : Nat → Nat} {R : Nat → Nat → Nat} {p0 : Nat} {p1 : Int} (ty : jTY K L R) (hg : g.length ≤ n) (o : jO K L R g n tm h) (kp0 : K p0 = 16) (jp1 : jR p1) : mj_Ok (D + 5) 75 [.ref p0, .long (jl p1)] h (jQ K L R g n tm [] (jVi (-2147483648) 2147483647)) := by
  refine mj_Ok.of (M := mj_m75) (loc := [some (.ref p0), some (.long (jl p1)), none]) rfl rfl rfl ?_
  refine mj_T.pl rfl rfl rfl rfl ?_
  refine jT.getR 16 118 18 ty o rfl kp0 (by decide) rfl rfl rfl (fun k1 => ?_)
  refine mj_T.pl rfl rfl rfl rfl ?_
  refine jT.call rfl rfl (Nat.le_of_ble_eq_true rfl) (Nat.le_of_ble_eq_true rfl) (jrv_of o k1 (by decide) rfl (by decide) rfl _) rfl (mj_Ok.up (Nat.add_le_add_left (by decide) D) (jc_86 (D := D) ty hg o k1 jp1)) rfl rfl (fun v2 h3 qv2 oh3 => ?_)
  obtain rfl : v2 = none := qv2
  refine mj_T.eq (pc2 := 8) (st2 := []) ?_ rfl rfl rfl rfl
  iterate 2 refine mj_T.pl rfl rfl rfl rfl ?_
  refine jT.getR 16 118 18 ty oh3 rfl kp0 (by decide) rfl rfl rfl (fun k4 => ?_)
  refine jT.call rfl rfl (Nat.le_of_ble_eq_true rfl) (Nat.le_of_ble_eq_true rfl) (jrv_of oh3 kp0 (by decide) rfl (by decide) rfl _) rfl (mj_Ok.up (Nat.add_le_add_left (by decide) D) (jc_76 (D := D) ty hg oh3 kp0 k4)) rfl rfl (fun v5 h6 qv5 oh6 => ?_)
  obtain ⟨z7, az7, bz7, rfl⟩ := qv5
  have rz7 : -2147483648 ≤ z7 ∧ z7 ≤ 2147483647 := ⟨by omega, by omega⟩
  refine mj_T.eq (pc2 := 16) (st2 := [.int (jn z7)]) ?_ rfl rfl rfl rfl
  exact jT.ret oh6 rfl rfl rfl ⟨z7, by omega, by omega, rfl⟩
