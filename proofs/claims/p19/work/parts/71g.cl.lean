/-! The class by kinds: its methods. -/
-- PolyRegisters$Desk.times(LPolyRegisters$Poly;LPolyRegisters$Poly;LPolyRegisters$Poly;)Z
theorem jc_14 {D n : Nat} {tm : Int} {h g : mj_H} {K L : Nat → Nat} {R : Nat → Nat → Nat} {p0 : Nat} {p1 : Nat} {p2 : Nat} {p3 : Nat} (ty : jTY K L R) (hg : g.length ≤ n) (o : jO K L R g n tm h) (kp0 : K p0 = 11) (kp1 : K p1 = 13) (kp2 : K p2 = 13) (kp3 : K p3 = 13) : mj_Ok (D + 3) 14 [.ref p0, .ref p1, .ref p2, .ref p3] h (jQ K L R g n tm [] (jVi 0 1)) := by
  refine mj_Ok.of (M := mj_m14) (loc := [some (.ref p0), some (.ref p1), some (.ref p2), some (.ref p3), none, none]) rfl rfl rfl ?_
  refine mj_T.pl rfl rfl rfl rfl ?_
  refine jT.call rfl rfl (Nat.le_of_ble_eq_true rfl) (Nat.le_of_ble_eq_true rfl) (jrv_of o kp1 (by decide) rfl (by decide) rfl _) rfl (mj_Ok.up (Nat.add_le_add_left (by decide) D) (jc_39 (D := D) ty hg o kp1)) rfl rfl (fun v1 h2 qv1 oh2 => ?_)
  obtain rfl : v1 = none := qv1
  refine mj_T.eq (pc2 := 4) (st2 := []) ?_ rfl rfl rfl rfl
  refine mj_T.pl rfl rfl rfl rfl ?_
  refine jT.getI 13 6 oh2 rfl kp2 (by decide) rfl rfl rfl (fun z3 (az3 : (-1) ≤ z3) (bz3 : z3 ≤ 30) fz3 => ?_)
  have rz3 : -2147483648 ≤ z3 ∧ z3 ≤ 2147483647 := ⟨by omega, by omega⟩
  refine jT.if0 rfl rz3 (fun c8 => ?_) (fun c8 => ?_)
  · have c8 := of_decide_eq_true c8
    refine mj_T.pl rfl rfl rfl rfl ?_
    refine mj_T.pl (loc' := [some (.ref p0), some (.ref p1), some (.ref p2), some (.ref p3), some (.int (jn 0)), none]) rfl rfl rfl rfl ?_
    have t39_7 : ∀ (k8 : Nat) (x4 : Int) (w5 : Option Value) (h6 : mj_H), (-2147483648 ≤ x4 ∧ x4 ≤ 2147483647) → (jO K L R g n tm h6) → (0 ≤ x4) → (2147483647 - x4 : Int).toNat = k8 → mj_T (D + 2) mj_m14 39 [some (.ref p0), some (.ref p1), some (.ref p2), some (.ref p3), some (.int (jn x4)), w5] [] h6 (jQ K L R g n tm [] (jVi 0 1)) := by
      refine jInd (fun k8 ih9 => ?_)
      intro x4 w5 h6 rx4 oh6 ix4 hm10
      refine mj_T.pl rfl rfl rfl rfl ?_
      refine mj_T.pl rfl rfl rfl rfl ?_
      refine jT.getI 13 6 oh6 rfl kp2 (by decide) rfl rfl rfl (fun z11 (az11 : (-1) ≤ z11) (bz11 : z11 ≤ 30) fz11 => ?_)
      have rz11 : -2147483648 ≤ z11 ∧ z11 ≤ 2147483647 := ⟨by omega, by omega⟩
      refine jT.icmp rfl rx4 rz11 (fun c45 => ?_) (fun c45 => ?_)
      · have c45 := of_decide_eq_true c45
        refine mj_T.pl rfl rfl rfl rfl ?_
        refine jT.call rfl rfl (Nat.le_of_ble_eq_true rfl) (Nat.le_of_ble_eq_true rfl) (jrv_of oh6 kp1 (by decide) rfl (by decide) rfl _) rfl (mj_Ok.up (Nat.add_le_add_left (by decide) D) (jc_42 (D := D) ty hg oh6 kp1)) rfl rfl (fun v12 h13 qv12 oh13 => ?_)
        obtain rfl : v12 = none := qv12
        refine mj_T.eq (pc2 := 124) (st2 := []) ?_ rfl rfl rfl rfl
        refine mj_T.pl rfl rfl rfl rfl ?_
        exact jT.retb oh13 rfl rfl (by omega) (by omega)
      · have c45 := of_decide_eq_false c45
        refine mj_T.pl rfl rfl rfl rfl ?_
        refine mj_T.pl (loc' := [some (.ref p0), some (.ref p1), some (.ref p2), some (.ref p3), some (.int (jn x4)), some (.int (jn 0))]) rfl rfl rfl rfl ?_
        have t51_16 : ∀ (k17 : Nat) (x14 : Int) (h15 : mj_H), (-2147483648 ≤ x14 ∧ x14 ≤ 2147483647) → (jO K L R g n tm h15) → (0 ≤ x14) → (2147483647 - x14 : Int).toNat = k17 → mj_T (D + 2) mj_m14 51 [some (.ref p0), some (.ref p1), some (.ref p2), some (.ref p3), some (.int (jn x4)), some (.int (jn x14))] [] h15 (jQ K L R g n tm [] (jVi 0 1)) := by
          refine jInd (fun k17 ih18 => ?_)
          intro x14 h15 rx14 oh15 ix14 hm19
          refine mj_T.pl rfl rfl rfl rfl ?_
          refine mj_T.pl rfl rfl rfl rfl ?_
          refine jT.getI 13 6 oh15 rfl kp3 (by decide) rfl rfl rfl (fun z20 (az20 : (-1) ≤ z20) (bz20 : z20 ≤ 30) fz20 => ?_)
          have rz20 : -2147483648 ≤ z20 ∧ z20 ≤ 2147483647 := ⟨by omega, by omega⟩
          refine jT.icmp rfl rx14 rz20 (fun c57 => ?_) (fun c57 => ?_)
          · have c57 := of_decide_eq_true c57
            refine jT.iinc rfl rfl (fun z21 rz21 ez21 => ?_)
            replace ez21 := ez21 ⟨by omega, by omega⟩
            refine mj_T.eq (loc2 := [some (.ref p0), some (.ref p1), some (.ref p2), some (.ref p3), some (.int (jn z21)), some (.int (jn x14))]) ?_ rfl rfl rfl rfl
            refine mj_T.pl rfl rfl rfl rfl ?_
            exact ih9 ((2147483647 - z21 : Int).toNat) (by omega) z21 (some (.int (jn x14))) h15 rz21 oh15 (by omega) rfl
          · have c57 := of_decide_eq_false c57
            iterate 2 refine mj_T.pl rfl rfl rfl rfl ?_
            refine jT.callp rfl rfl (Nat.le_of_ble_eq_true rfl) (Nat.le_of_ble_eq_true rfl) (jrv_of oh15 kp2 (by decide) rfl (by decide) rfl _) rfl (mj_Ok.up (Nat.add_le_add_left (by decide) D) (jc_36 (D := D) ty hg oh15 kp2 rx4)) rfl rfl (fun v22 qv22 => ?_)
            obtain ⟨a23, ka23, rfl⟩ := qv22
            refine mj_T.eq (pc2 := 66) (st2 := [.ref a23]) ?_ rfl rfl rfl rfl
            refine jT.getI 18 0 oh15 rfl ka23 (by decide) rfl rfl rfl (fun z24 (az24 : (-2147483648) ≤ z24) (bz24 : z24 ≤ 2147483647) fz24 => ?_)
            have rz24 : -2147483648 ≤ z24 ∧ z24 ≤ 2147483647 := ⟨by omega, by omega⟩
            refine jT.if0 rfl rz24 (fun c69 => ?_) (fun c69 => ?_)
            · have c69 := of_decide_eq_true c69
              refine jT.iinc rfl rfl (fun z25 rz25 ez25 => ?_)
              replace ez25 := ez25 ⟨by omega, by omega⟩
              refine mj_T.eq (loc2 := [some (.ref p0), some (.ref p1), some (.ref p2), some (.ref p3), some (.int (jn z25)), some (.int (jn x14))]) ?_ rfl rfl rfl rfl
              refine mj_T.pl rfl rfl rfl rfl ?_
              exact ih9 ((2147483647 - z25 : Int).toNat) (by omega) z25 (some (.int (jn x14))) h15 rz25 oh15 (by omega) rfl
            · have c69 := of_decide_eq_false c69
              refine mj_T.pl rfl rfl rfl rfl ?_
              refine jT.getR 11 118 18 ty oh15 rfl kp0 (by decide) rfl rfl rfl (fun k26 => ?_)
              iterate 2 refine mj_T.pl rfl rfl rfl rfl ?_
              refine jT.callp rfl rfl (Nat.le_of_ble_eq_true rfl) (Nat.le_of_ble_eq_true rfl) (jrv_of oh15 kp2 (by decide) rfl (by decide) rfl _) rfl (mj_Ok.up (Nat.add_le_add_left (by decide) D) (jc_36 (D := D) ty hg oh15 kp2 rx4)) rfl rfl (fun v27 qv27 => ?_)
              obtain ⟨a28, ka28, rfl⟩ := qv27
              refine mj_T.eq (pc2 := 82) (st2 := [.ref a28, .ref (R p0 4)]) ?_ rfl rfl rfl rfl
              iterate 2 refine mj_T.pl rfl rfl rfl rfl ?_
              refine jT.callp rfl rfl (Nat.le_of_ble_eq_true rfl) (Nat.le_of_ble_eq_true rfl) (jrv_of oh15 kp3 (by decide) rfl (by decide) rfl _) rfl (mj_Ok.up (Nat.add_le_add_left (by decide) D) (jc_36 (D := D) ty hg oh15 kp3 rx14)) rfl rfl (fun v29 qv29 => ?_)
              obtain ⟨a30, ka30, rfl⟩ := qv29
              refine mj_T.eq (pc2 := 88) (st2 := [.ref a30, .ref a28, .ref (R p0 4)]) ?_ rfl rfl rfl rfl
              refine jT.call rfl rfl (Nat.le_of_ble_eq_true rfl) (Nat.le_of_ble_eq_true rfl) (jrv_of oh15 k26 (by decide) rfl (by decide) rfl _) rfl (mj_Ok.up (Nat.add_le_add_left (by decide) D) (jc_95 (D := D) ty hg oh15 k26 ka28 ka30)) rfl rfl (fun v31 h32 qv31 oh32 => ?_)
              obtain rfl : v31 = none := qv31
              refine mj_T.eq (pc2 := 91) (st2 := []) ?_ rfl rfl rfl rfl
              iterate 3 refine mj_T.pl rfl rfl rfl rfl ?_
              refine jT.iadd rfl (fun z33 rz33 ez33 => ?_)
              replace ez33 := ez33 ⟨by omega, by omega⟩
              refine jT.callp rfl rfl (Nat.le_of_ble_eq_true rfl) (Nat.le_of_ble_eq_true rfl) (jrv_of oh32 kp1 (by decide) rfl (by decide) rfl _) rfl (mj_Ok.up (Nat.add_le_add_left (by decide) D) (jc_36 (D := D) ty hg oh32 kp1 rz33)) rfl rfl (fun v34 qv34 => ?_)
              obtain ⟨a35, ka35, rfl⟩ := qv34
              refine mj_T.eq (pc2 := 100) (st2 := [.ref a35]) ?_ rfl rfl rfl rfl
              refine mj_T.pl rfl rfl rfl rfl ?_
              refine jT.getR 11 118 18 ty oh32 rfl kp0 (by decide) rfl rfl rfl (fun k36 => ?_)
              refine mj_T.pl rfl rfl rfl rfl ?_
              refine jT.call rfl rfl (Nat.le_of_ble_eq_true rfl) (Nat.le_of_ble_eq_true rfl) (jrv_of oh32 ka35 (by decide) rfl (by decide) rfl _) rfl (mj_Ok.up (Nat.add_le_add_left (by decide) D) (jc_91 (D := D) ty hg oh32 ka35 k36 ⟨by decide, by decide⟩)) rfl rfl (fun v37 h38 qv37 oh38 => ?_)
              obtain rfl : v37 = none := qv37
              refine mj_T.eq (pc2 := 108) (st2 := []) ?_ rfl rfl rfl rfl
              refine jT.iinc rfl rfl (fun z39 rz39 ez39 => ?_)
              replace ez39 := ez39 ⟨by omega, by omega⟩
              refine mj_T.eq (loc2 := [some (.ref p0), some (.ref p1), some (.ref p2), some (.ref p3), some (.int (jn x4)), some (.int (jn z39))]) ?_ rfl rfl rfl rfl
              refine mj_T.pl rfl rfl rfl rfl ?_
              exact ih18 ((2147483647 - z39 : Int).toNat) (by omega) z39 h38 rz39 oh38 (by omega) rfl
        exact t51_16 _ 0 h6 ⟨by decide, by decide⟩ oh6 (by omega) rfl
    exact t39_7 _ 0 none h2 ⟨by decide, by decide⟩ oh2 (by omega) rfl
  · have c8 := of_decide_eq_false c8
    refine mj_T.pl rfl rfl rfl rfl ?_
    refine jT.getI 13 6 oh2 rfl kp3 (by decide) rfl rfl rfl (fun z40 (az40 : (-1) ≤ z40) (bz40 : z40 ≤ 30) fz40 => ?_)
    have rz40 : -2147483648 ≤ z40 ∧ z40 ≤ 2147483647 := ⟨by omega, by omega⟩
    refine jT.if0 rfl rz40 (fun c15 => ?_) (fun c15 => ?_)
    · have c15 := of_decide_eq_true c15
      refine mj_T.pl rfl rfl rfl rfl ?_
      refine mj_T.pl (loc' := [some (.ref p0), some (.ref p1), some (.ref p2), some (.ref p3), some (.int (jn 0)), none]) rfl rfl rfl rfl ?_
      have t39_44 : ∀ (k45 : Nat) (x41 : Int) (w42 : Option Value) (h43 : mj_H), (-2147483648 ≤ x41 ∧ x41 ≤ 2147483647) → (jO K L R g n tm h43) → (0 ≤ x41) → (2147483647 - x41 : Int).toNat = k45 → mj_T (D + 2) mj_m14 39 [some (.ref p0), some (.ref p1), some (.ref p2), some (.ref p3), some (.int (jn x41)), w42] [] h43 (jQ K L R g n tm [] (jVi 0 1)) := by
        refine jInd (fun k45 ih46 => ?_)
        intro x41 w42 h43 rx41 oh43 ix41 hm47
        refine mj_T.pl rfl rfl rfl rfl ?_
        refine mj_T.pl rfl rfl rfl rfl ?_
        refine jT.getI 13 6 oh43 rfl kp2 (by decide) rfl rfl rfl (fun z48 (az48 : (-1) ≤ z48) (bz48 : z48 ≤ 30) fz48 => ?_)
        have rz48 : -2147483648 ≤ z48 ∧ z48 ≤ 2147483647 := ⟨by omega, by omega⟩
        refine jT.icmp rfl rx41 rz48 (fun c45 => ?_) (fun c45 => ?_)
        · have c45 := of_decide_eq_true c45
          refine mj_T.pl rfl rfl rfl rfl ?_
          refine jT.call rfl rfl (Nat.le_of_ble_eq_true rfl) (Nat.le_of_ble_eq_true rfl) (jrv_of oh43 kp1 (by decide) rfl (by decide) rfl _) rfl (mj_Ok.up (Nat.add_le_add_left (by decide) D) (jc_42 (D := D) ty hg oh43 kp1)) rfl rfl (fun v49 h50 qv49 oh50 => ?_)
          obtain rfl : v49 = none := qv49
          refine mj_T.eq (pc2 := 124) (st2 := []) ?_ rfl rfl rfl rfl
          refine mj_T.pl rfl rfl rfl rfl ?_
          exact jT.retb oh50 rfl rfl (by omega) (by omega)
        · have c45 := of_decide_eq_false c45
          refine mj_T.pl rfl rfl rfl rfl ?_
          refine mj_T.pl (loc' := [some (.ref p0), some (.ref p1), some (.ref p2), some (.ref p3), some (.int (jn x41)), some (.int (jn 0))]) rfl rfl rfl rfl ?_
          have t51_53 : ∀ (k54 : Nat) (x51 : Int) (h52 : mj_H), (-2147483648 ≤ x51 ∧ x51 ≤ 2147483647) → (jO K L R g n tm h52) → (0 ≤ x51) → (2147483647 - x51 : Int).toNat = k54 → mj_T (D + 2) mj_m14 51 [some (.ref p0), some (.ref p1), some (.ref p2), some (.ref p3), some (.int (jn x41)), some (.int (jn x51))] [] h52 (jQ K L R g n tm [] (jVi 0 1)) := by
            refine jInd (fun k54 ih55 => ?_)
            intro x51 h52 rx51 oh52 ix51 hm56
            refine mj_T.pl rfl rfl rfl rfl ?_
            refine mj_T.pl rfl rfl rfl rfl ?_
            refine jT.getI 13 6 oh52 rfl kp3 (by decide) rfl rfl rfl (fun z57 (az57 : (-1) ≤ z57) (bz57 : z57 ≤ 30) fz57 => ?_)
            have rz57 : -2147483648 ≤ z57 ∧ z57 ≤ 2147483647 := ⟨by omega, by omega⟩
            refine jT.icmp rfl rx51 rz57 (fun c57 => ?_) (fun c57 => ?_)
            · have c57 := of_decide_eq_true c57
              refine jT.iinc rfl rfl (fun z58 rz58 ez58 => ?_)
              replace ez58 := ez58 ⟨by omega, by omega⟩
              refine mj_T.eq (loc2 := [some (.ref p0), some (.ref p1), some (.ref p2), some (.ref p3), some (.int (jn z58)), some (.int (jn x51))]) ?_ rfl rfl rfl rfl
              refine mj_T.pl rfl rfl rfl rfl ?_
              exact ih46 ((2147483647 - z58 : Int).toNat) (by omega) z58 (some (.int (jn x51))) h52 rz58 oh52 (by omega) rfl
            · have c57 := of_decide_eq_false c57
              iterate 2 refine mj_T.pl rfl rfl rfl rfl ?_
              refine jT.callp rfl rfl (Nat.le_of_ble_eq_true rfl) (Nat.le_of_ble_eq_true rfl) (jrv_of oh52 kp2 (by decide) rfl (by decide) rfl _) rfl (mj_Ok.up (Nat.add_le_add_left (by decide) D) (jc_36 (D := D) ty hg oh52 kp2 rx41)) rfl rfl (fun v59 qv59 => ?_)
              obtain ⟨a60, ka60, rfl⟩ := qv59
              refine mj_T.eq (pc2 := 66) (st2 := [.ref a60]) ?_ rfl rfl rfl rfl
              refine jT.getI 18 0 oh52 rfl ka60 (by decide) rfl rfl rfl (fun z61 (az61 : (-2147483648) ≤ z61) (bz61 : z61 ≤ 2147483647) fz61 => ?_)
              have rz61 : -2147483648 ≤ z61 ∧ z61 ≤ 2147483647 := ⟨by omega, by omega⟩
              refine jT.if0 rfl rz61 (fun c69 => ?_) (fun c69 => ?_)
              · have c69 := of_decide_eq_true c69
                refine jT.iinc rfl rfl (fun z62 rz62 ez62 => ?_)
                replace ez62 := ez62 ⟨by omega, by omega⟩
                refine mj_T.eq (loc2 := [some (.ref p0), some (.ref p1), some (.ref p2), some (.ref p3), some (.int (jn z62)), some (.int (jn x51))]) ?_ rfl rfl rfl rfl
                refine mj_T.pl rfl rfl rfl rfl ?_
                exact ih46 ((2147483647 - z62 : Int).toNat) (by omega) z62 (some (.int (jn x51))) h52 rz62 oh52 (by omega) rfl
              · have c69 := of_decide_eq_false c69
                refine mj_T.pl rfl rfl rfl rfl ?_
                refine jT.getR 11 118 18 ty oh52 rfl kp0 (by decide) rfl rfl rfl (fun k63 => ?_)
                iterate 2 refine mj_T.pl rfl rfl rfl rfl ?_
                refine jT.callp rfl rfl (Nat.le_of_ble_eq_true rfl) (Nat.le_of_ble_eq_true rfl) (jrv_of oh52 kp2 (by decide) rfl (by decide) rfl _) rfl (mj_Ok.up (Nat.add_le_add_left (by decide) D) (jc_36 (D := D) ty hg oh52 kp2 rx41)) rfl rfl (fun v64 qv64 => ?_)
                obtain ⟨a65, ka65, rfl⟩ := qv64
                refine mj_T.eq (pc2 := 82) (st2 := [.ref a65, .ref (R p0 4)]) ?_ rfl rfl rfl rfl
                iterate 2 refine mj_T.pl rfl rfl rfl rfl ?_
                refine jT.callp rfl rfl (Nat.le_of_ble_eq_true rfl) (Nat.le_of_ble_eq_true rfl) (jrv_of oh52 kp3 (by decide) rfl (by decide) rfl _) rfl (mj_Ok.up (Nat.add_le_add_left (by decide) D) (jc_36 (D := D) ty hg oh52 kp3 rx51)) rfl rfl (fun v66 qv66 => ?_)
                obtain ⟨a67, ka67, rfl⟩ := qv66
                refine mj_T.eq (pc2 := 88) (st2 := [.ref a67, .ref a65, .ref (R p0 4)]) ?_ rfl rfl rfl rfl
                refine jT.call rfl rfl (Nat.le_of_ble_eq_true rfl) (Nat.le_of_ble_eq_true rfl) (jrv_of oh52 k63 (by decide) rfl (by decide) rfl _) rfl (mj_Ok.up (Nat.add_le_add_left (by decide) D) (jc_95 (D := D) ty hg oh52 k63 ka65 ka67)) rfl rfl (fun v68 h69 qv68 oh69 => ?_)
                obtain rfl : v68 = none := qv68
                refine mj_T.eq (pc2 := 91) (st2 := []) ?_ rfl rfl rfl rfl
                iterate 3 refine mj_T.pl rfl rfl rfl rfl ?_
                refine jT.iadd rfl (fun z70 rz70 ez70 => ?_)
                replace ez70 := ez70 ⟨by omega, by omega⟩
                refine jT.callp rfl rfl (Nat.le_of_ble_eq_true rfl) (Nat.le_of_ble_eq_true rfl) (jrv_of oh69 kp1 (by decide) rfl (by decide) rfl _) rfl (mj_Ok.up (Nat.add_le_add_left (by decide) D) (jc_36 (D := D) ty hg oh69 kp1 rz70)) rfl rfl (fun v71 qv71 => ?_)
                obtain ⟨a72, ka72, rfl⟩ := qv71
                refine mj_T.eq (pc2 := 100) (st2 := [.ref a72]) ?_ rfl rfl rfl rfl
                refine mj_T.pl rfl rfl rfl rfl ?_
                refine jT.getR 11 118 18 ty oh69 rfl kp0 (by decide) rfl rfl rfl (fun k73 => ?_)
                refine mj_T.pl rfl rfl rfl rfl ?_
                refine jT.call rfl rfl (Nat.le_of_ble_eq_true rfl) (Nat.le_of_ble_eq_true rfl) (jrv_of oh69 ka72 (by decide) rfl (by decide) rfl _) rfl (mj_Ok.up (Nat.add_le_add_left (by decide) D) (jc_91 (D := D) ty hg oh69 ka72 k73 ⟨by decide, by decide⟩)) rfl rfl (fun v74 h75 qv74 oh75 => ?_)
                obtain rfl : v74 = none := qv74
                refine mj_T.eq (pc2 := 108) (st2 := []) ?_ rfl rfl rfl rfl
                refine jT.iinc rfl rfl (fun z76 rz76 ez76 => ?_)
                replace ez76 := ez76 ⟨by omega, by omega⟩
                refine mj_T.eq (loc2 := [some (.ref p0), some (.ref p1), some (.ref p2), some (.ref p3), some (.int (jn x41)), some (.int (jn z76))]) ?_ rfl rfl rfl rfl
                refine mj_T.pl rfl rfl rfl rfl ?_
                exact ih55 ((2147483647 - z76 : Int).toNat) (by omega) z76 h75 rz76 oh75 (by omega) rfl
          exact t51_53 _ 0 h43 ⟨by decide, by decide⟩ oh43 (by omega) rfl
      exact t39_44 _ 0 none h2 ⟨by decide, by decide⟩ oh2 (by omega) rfl
    · have c15 := of_decide_eq_false c15
      refine mj_T.pl rfl rfl rfl rfl ?_
      refine jT.getK 13 6 oh2 rfl kp2 (by decide) rfl rfl rfl fz3.symm ?_
      refine mj_T.pl rfl rfl rfl rfl ?_
      refine jT.getK 13 6 oh2 rfl kp3 (by decide) rfl rfl rfl fz40.symm ?_
      refine jT.iadd rfl (fun z77 rz77 ez77 => ?_)
      replace ez77 := ez77 ⟨by omega, by omega⟩
      refine mj_T.pl rfl rfl rfl rfl ?_
      refine jT.callp rfl rfl (Nat.le_of_ble_eq_true rfl) (Nat.le_of_ble_eq_true rfl) (jrv_of oh2 kp1 (by decide) rfl (by decide) rfl _) rfl (mj_Ok.up (Nat.add_le_add_left (by decide) D) (jc_38 (D := D) ty hg oh2 kp1)) rfl rfl (fun v78 qv78 => ?_)
      obtain ⟨z79, az79, bz79, rfl⟩ := qv78
      have rz79 : -2147483648 ≤ z79 ∧ z79 ≤ 2147483647 := ⟨by omega, by omega⟩
      refine mj_T.eq (pc2 := 31) (st2 := [.int (jn z79), .int (jn z77)]) ?_ rfl rfl rfl rfl
      refine jT.icmp rfl rz77 rz79 (fun c31 => ?_) (fun c31 => ?_)
      · have c31 := of_decide_eq_true c31
        refine mj_T.pl rfl rfl rfl rfl ?_
        refine mj_T.pl (loc' := [some (.ref p0), some (.ref p1), some (.ref p2), some (.ref p3), some (.int (jn 0)), none]) rfl rfl rfl rfl ?_
        have t39_83 : ∀ (k84 : Nat) (x80 : Int) (w81 : Option Value) (h82 : mj_H), (-2147483648 ≤ x80 ∧ x80 ≤ 2147483647) → (jO K L R g n tm h82) → (0 ≤ x80) → (2147483647 - x80 : Int).toNat = k84 → mj_T (D + 2) mj_m14 39 [some (.ref p0), some (.ref p1), some (.ref p2), some (.ref p3), some (.int (jn x80)), w81] [] h82 (jQ K L R g n tm [] (jVi 0 1)) := by
          refine jInd (fun k84 ih85 => ?_)
          intro x80 w81 h82 rx80 oh82 ix80 hm86
          refine mj_T.pl rfl rfl rfl rfl ?_
          refine mj_T.pl rfl rfl rfl rfl ?_
          refine jT.getI 13 6 oh82 rfl kp2 (by decide) rfl rfl rfl (fun z87 (az87 : (-1) ≤ z87) (bz87 : z87 ≤ 30) fz87 => ?_)
          have rz87 : -2147483648 ≤ z87 ∧ z87 ≤ 2147483647 := ⟨by omega, by omega⟩
          refine jT.icmp rfl rx80 rz87 (fun c45 => ?_) (fun c45 => ?_)
          · have c45 := of_decide_eq_true c45
            refine mj_T.pl rfl rfl rfl rfl ?_
            refine jT.call rfl rfl (Nat.le_of_ble_eq_true rfl) (Nat.le_of_ble_eq_true rfl) (jrv_of oh82 kp1 (by decide) rfl (by decide) rfl _) rfl (mj_Ok.up (Nat.add_le_add_left (by decide) D) (jc_42 (D := D) ty hg oh82 kp1)) rfl rfl (fun v88 h89 qv88 oh89 => ?_)
            obtain rfl : v88 = none := qv88
            refine mj_T.eq (pc2 := 124) (st2 := []) ?_ rfl rfl rfl rfl
            refine mj_T.pl rfl rfl rfl rfl ?_
            exact jT.retb oh89 rfl rfl (by omega) (by omega)
          · have c45 := of_decide_eq_false c45
            refine mj_T.pl rfl rfl rfl rfl ?_
            refine mj_T.pl (loc' := [some (.ref p0), some (.ref p1), some (.ref p2), some (.ref p3), some (.int (jn x80)), some (.int (jn 0))]) rfl rfl rfl rfl ?_
            have t51_92 : ∀ (k93 : Nat) (x90 : Int) (h91 : mj_H), (-2147483648 ≤ x90 ∧ x90 ≤ 2147483647) → (jO K L R g n tm h91) → (0 ≤ x90) → (2147483647 - x90 : Int).toNat = k93 → mj_T (D + 2) mj_m14 51 [some (.ref p0), some (.ref p1), some (.ref p2), some (.ref p3), some (.int (jn x80)), some (.int (jn x90))] [] h91 (jQ K L R g n tm [] (jVi 0 1)) := by
              refine jInd (fun k93 ih94 => ?_)
              intro x90 h91 rx90 oh91 ix90 hm95
              refine mj_T.pl rfl rfl rfl rfl ?_
              refine mj_T.pl rfl rfl rfl rfl ?_
              refine jT.getI 13 6 oh91 rfl kp3 (by decide) rfl rfl rfl (fun z96 (az96 : (-1) ≤ z96) (bz96 : z96 ≤ 30) fz96 => ?_)
              have rz96 : -2147483648 ≤ z96 ∧ z96 ≤ 2147483647 := ⟨by omega, by omega⟩
              refine jT.icmp rfl rx90 rz96 (fun c57 => ?_) (fun c57 => ?_)
              · have c57 := of_decide_eq_true c57
                refine jT.iinc rfl rfl (fun z97 rz97 ez97 => ?_)
                replace ez97 := ez97 ⟨by omega, by omega⟩
                refine mj_T.eq (loc2 := [some (.ref p0), some (.ref p1), some (.ref p2), some (.ref p3), some (.int (jn z97)), some (.int (jn x90))]) ?_ rfl rfl rfl rfl
                refine mj_T.pl rfl rfl rfl rfl ?_
                exact ih85 ((2147483647 - z97 : Int).toNat) (by omega) z97 (some (.int (jn x90))) h91 rz97 oh91 (by omega) rfl
              · have c57 := of_decide_eq_false c57
                iterate 2 refine mj_T.pl rfl rfl rfl rfl ?_
                refine jT.callp rfl rfl (Nat.le_of_ble_eq_true rfl) (Nat.le_of_ble_eq_true rfl) (jrv_of oh91 kp2 (by decide) rfl (by decide) rfl _) rfl (mj_Ok.up (Nat.add_le_add_left (by decide) D) (jc_36 (D := D) ty hg oh91 kp2 rx80)) rfl rfl (fun v98 qv98 => ?_)
                obtain ⟨a99, ka99, rfl⟩ := qv98
                refine mj_T.eq (pc2 := 66) (st2 := [.ref a99]) ?_ rfl rfl rfl rfl
                refine jT.getI 18 0 oh91 rfl ka99 (by decide) rfl rfl rfl (fun z100 (az100 : (-2147483648) ≤ z100) (bz100 : z100 ≤ 2147483647) fz100 => ?_)
                have rz100 : -2147483648 ≤ z100 ∧ z100 ≤ 2147483647 := ⟨by omega, by omega⟩
                refine jT.if0 rfl rz100 (fun c69 => ?_) (fun c69 => ?_)
                · have c69 := of_decide_eq_true c69
                  refine jT.iinc rfl rfl (fun z101 rz101 ez101 => ?_)
                  replace ez101 := ez101 ⟨by omega, by omega⟩
                  refine mj_T.eq (loc2 := [some (.ref p0), some (.ref p1), some (.ref p2), some (.ref p3), some (.int (jn z101)), some (.int (jn x90))]) ?_ rfl rfl rfl rfl
                  refine mj_T.pl rfl rfl rfl rfl ?_
                  exact ih85 ((2147483647 - z101 : Int).toNat) (by omega) z101 (some (.int (jn x90))) h91 rz101 oh91 (by omega) rfl
                · have c69 := of_decide_eq_false c69
                  refine mj_T.pl rfl rfl rfl rfl ?_
                  refine jT.getR 11 118 18 ty oh91 rfl kp0 (by decide) rfl rfl rfl (fun k102 => ?_)
                  iterate 2 refine mj_T.pl rfl rfl rfl rfl ?_
                  refine jT.callp rfl rfl (Nat.le_of_ble_eq_true rfl) (Nat.le_of_ble_eq_true rfl) (jrv_of oh91 kp2 (by decide) rfl (by decide) rfl _) rfl (mj_Ok.up (Nat.add_le_add_left (by decide) D) (jc_36 (D := D) ty hg oh91 kp2 rx80)) rfl rfl (fun v103 qv103 => ?_)
                  obtain ⟨a104, ka104, rfl⟩ := qv103
                  refine mj_T.eq (pc2 := 82) (st2 := [.ref a104, .ref (R p0 4)]) ?_ rfl rfl rfl rfl
                  iterate 2 refine mj_T.pl rfl rfl rfl rfl ?_
                  refine jT.callp rfl rfl (Nat.le_of_ble_eq_true rfl) (Nat.le_of_ble_eq_true rfl) (jrv_of oh91 kp3 (by decide) rfl (by decide) rfl _) rfl (mj_Ok.up (Nat.add_le_add_left (by decide) D) (jc_36 (D := D) ty hg oh91 kp3 rx90)) rfl rfl (fun v105 qv105 => ?_)
                  obtain ⟨a106, ka106, rfl⟩ := qv105
                  refine mj_T.eq (pc2 := 88) (st2 := [.ref a106, .ref a104, .ref (R p0 4)]) ?_ rfl rfl rfl rfl
                  refine jT.call rfl rfl (Nat.le_of_ble_eq_true rfl) (Nat.le_of_ble_eq_true rfl) (jrv_of oh91 k102 (by decide) rfl (by decide) rfl _) rfl (mj_Ok.up (Nat.add_le_add_left (by decide) D) (jc_95 (D := D) ty hg oh91 k102 ka104 ka106)) rfl rfl (fun v107 h108 qv107 oh108 => ?_)
                  obtain rfl : v107 = none := qv107
                  refine mj_T.eq (pc2 := 91) (st2 := []) ?_ rfl rfl rfl rfl
                  iterate 3 refine mj_T.pl rfl rfl rfl rfl ?_
                  refine jT.iadd rfl (fun z109 rz109 ez109 => ?_)
                  replace ez109 := ez109 ⟨by omega, by omega⟩
                  refine jT.callp rfl rfl (Nat.le_of_ble_eq_true rfl) (Nat.le_of_ble_eq_true rfl) (jrv_of oh108 kp1 (by decide) rfl (by decide) rfl _) rfl (mj_Ok.up (Nat.add_le_add_left (by decide) D) (jc_36 (D := D) ty hg oh108 kp1 rz109)) rfl rfl (fun v110 qv110 => ?_)
                  obtain ⟨a111, ka111, rfl⟩ := qv110
                  refine mj_T.eq (pc2 := 100) (st2 := [.ref a111]) ?_ rfl rfl rfl rfl
                  refine mj_T.pl rfl rfl rfl rfl ?_
                  refine jT.getR 11 118 18 ty oh108 rfl kp0 (by decide) rfl rfl rfl (fun k112 => ?_)
                  refine mj_T.pl rfl rfl rfl rfl ?_
                  refine jT.call rfl rfl (Nat.le_of_ble_eq_true rfl) (Nat.le_of_ble_eq_true rfl) (jrv_of oh108 ka111 (by decide) rfl (by decide) rfl _) rfl (mj_Ok.up (Nat.add_le_add_left (by decide) D) (jc_91 (D := D) ty hg oh108 ka111 k112 ⟨by decide, by decide⟩)) rfl rfl (fun v113 h114 qv113 oh114 => ?_)
                  obtain rfl : v113 = none := qv113
                  refine mj_T.eq (pc2 := 108) (st2 := []) ?_ rfl rfl rfl rfl
                  refine jT.iinc rfl rfl (fun z115 rz115 ez115 => ?_)
                  replace ez115 := ez115 ⟨by omega, by omega⟩
                  refine mj_T.eq (loc2 := [some (.ref p0), some (.ref p1), some (.ref p2), some (.ref p3), some (.int (jn x80)), some (.int (jn z115))]) ?_ rfl rfl rfl rfl
                  refine mj_T.pl rfl rfl rfl rfl ?_
                  exact ih94 ((2147483647 - z115 : Int).toNat) (by omega) z115 h114 rz115 oh114 (by omega) rfl
            exact t51_92 _ 0 h82 ⟨by decide, by decide⟩ oh82 (by omega) rfl
        exact t39_83 _ 0 none h2 ⟨by decide, by decide⟩ oh2 (by omega) rfl
      · have c31 := of_decide_eq_false c31
        refine mj_T.pl rfl rfl rfl rfl ?_
        exact jT.retb oh2 rfl rfl (by omega) (by omega)
-- PolyRegisters$Desk.multiplyRows([J[J[J)Z
theorem jc_11 {D n : Nat} {tm : Int} {h g : mj_H} {K L : Nat → Nat} {R : Nat → Nat → Nat} {p0 : Nat} {p1 : Nat} {p2 : Nat} {p3 : Nat} (ty : jTY K L R) (hg : g.length ≤ n) (o : jO K L R g n tm h) (kp0 : K p0 = 11) (kp1 : K p1 = 2) (kp2 : K p2 = 2) (kp3 : K p3 = 2) : mj_Ok (D + 4) 11 [.ref p0, .ref p1, .ref p2, .ref p3] h (jQ K L R g n tm [] (jVi 0 1)) := by
  refine mj_Ok.of (M := mj_m11) (loc := [some (.ref p0), some (.ref p1), some (.ref p2), some (.ref p3)]) rfl rfl rfl ?_
  refine mj_T.pl rfl rfl rfl rfl ?_
  refine jT.getR 11 113 13 ty o rfl kp0 (by decide) rfl rfl rfl (fun k1 => ?_)
  refine mj_T.pl rfl rfl rfl rfl ?_
  refine jT.lc 1 rfl rfl ?_
  refine jT.call rfl rfl (Nat.le_of_ble_eq_true rfl) (Nat.le_of_ble_eq_true rfl) (jrv_of o k1 (by decide) rfl (by decide) rfl _) rfl (mj_Ok.up (Nat.add_le_add_left (by decide) D) (jc_40 (D := D) ty hg o k1 kp1 ⟨by decide, by decide⟩)) rfl rfl (fun v2 h3 qv2 oh3 => ?_)
  obtain rfl : v2 = none := qv2
  refine mj_T.eq (pc2 := 9) (st2 := []) ?_ rfl rfl rfl rfl
  refine mj_T.pl rfl rfl rfl rfl ?_
  refine jT.getR 11 113 13 ty oh3 rfl kp0 (by decide) rfl rfl rfl (fun k4 => ?_)
  refine mj_T.pl rfl rfl rfl rfl ?_
  refine jT.lc 1 rfl rfl ?_
  refine jT.call rfl rfl (Nat.le_of_ble_eq_true rfl) (Nat.le_of_ble_eq_true rfl) (jrv_of oh3 k4 (by decide) rfl (by decide) rfl _) rfl (mj_Ok.up (Nat.add_le_add_left (by decide) D) (jc_40 (D := D) ty hg oh3 k4 kp2 ⟨by decide, by decide⟩)) rfl rfl (fun v5 h6 qv5 oh6 => ?_)
  obtain rfl : v5 = none := qv5
  refine mj_T.eq (pc2 := 18) (st2 := []) ?_ rfl rfl rfl rfl
  iterate 2 refine mj_T.pl rfl rfl rfl rfl ?_
  refine jT.getR 11 113 13 ty oh6 rfl kp0 (by decide) rfl rfl rfl (fun k7 => ?_)
  refine mj_T.pl rfl rfl rfl rfl ?_
  refine jT.getR 11 113 13 ty oh6 rfl kp0 (by decide) rfl rfl rfl (fun k8 => ?_)
  refine mj_T.pl rfl rfl rfl rfl ?_
  refine jT.getR 11 113 13 ty oh6 rfl kp0 (by decide) rfl rfl rfl (fun k9 => ?_)
  refine jT.call rfl rfl (Nat.le_of_ble_eq_true rfl) (Nat.le_of_ble_eq_true rfl) (jrv_of oh6 kp0 (by decide) rfl (by decide) rfl _) rfl (mj_Ok.up (Nat.add_le_add_left (by decide) D) (jc_14 (D := D) ty hg oh6 kp0 k7 k8 k9)) rfl rfl (fun v10 h11 qv10 oh11 => ?_)
  obtain ⟨z12, az12, bz12, rfl⟩ := qv10
  have rz12 : -2147483648 ≤ z12 ∧ z12 ≤ 2147483647 := ⟨by omega, by omega⟩
  refine mj_T.eq (pc2 := 34) (st2 := [.int (jn z12)]) ?_ rfl rfl rfl rfl
  refine jT.if0 rfl rz12 (fun c34 => ?_) (fun c34 => ?_)
  · have c34 := of_decide_eq_true c34
    refine mj_T.pl rfl rfl rfl rfl ?_
    exact jT.retb oh11 rfl rfl (by omega) (by omega)
  · have c34 := of_decide_eq_false c34
    refine mj_T.pl rfl rfl rfl rfl ?_
    refine jT.getR 11 113 13 ty oh11 rfl kp0 (by decide) rfl rfl rfl (fun k13 => ?_)
    refine mj_T.pl rfl rfl rfl rfl ?_
    refine jT.call rfl rfl (Nat.le_of_ble_eq_true rfl) (Nat.le_of_ble_eq_true rfl) (jrv_of oh11 k13 (by decide) rfl (by decide) rfl _) rfl (mj_Ok.up (Nat.add_le_add_left (by decide) D) (jc_44 (D := D) ty hg oh11 k13 kp3)) rfl rfl (fun v14 h15 qv14 oh15 => ?_)
    obtain ⟨z16, az16, bz16, rfl⟩ := qv14
    have rz16 : -2147483648 ≤ z16 ∧ z16 ≤ 2147483647 := ⟨by omega, by omega⟩
    refine mj_T.eq (pc2 := 45) (st2 := [.int (jn z16)]) ?_ rfl rfl rfl rfl
    refine jT.if0 rfl rz16 (fun c45 => ?_) (fun c45 => ?_)
    · have c45 := of_decide_eq_true c45
      refine mj_T.pl rfl rfl rfl rfl ?_
      exact jT.retb oh15 rfl rfl (by omega) (by omega)
    · have c45 := of_decide_eq_false c45
      iterate 2 refine mj_T.pl rfl rfl rfl rfl ?_
      exact jT.retb oh15 rfl rfl (by omega) (by omega)
-- PolyRegisters$Desk.raise([JI[J)Z
theorem jc_12 {D n : Nat} {tm : Int} {h g : mj_H} {K L : Nat → Nat} {R : Nat → Nat → Nat} {p0 : Nat} {p1 : Nat} {p2 : Int} {p3 : Nat} (ty : jTY K L R) (hg : g.length ≤ n) (o : jO K L R g n tm h) (kp0 : K p0 = 11) (kp1 : K p1 = 2) (rp2 : -2147483648 ≤ p2 ∧ p2 ≤ 2147483647) (kp3 : K p3 = 2) : mj_Ok (D + 4) 12 [.ref p0, .ref p1, .int (jn p2), .ref p3] h (jQ K L R g n tm [] (jVi 0 1)) := by
  refine mj_Ok.of (M := mj_m12) (loc := [some (.ref p0), some (.ref p1), some (.int (jn p2)), some (.ref p3), none]) rfl rfl rfl ?_
  refine mj_T.pl rfl rfl rfl rfl ?_
  refine jT.getR 11 113 13 ty o rfl kp0 (by decide) rfl rfl rfl (fun k1 => ?_)
  refine mj_T.pl rfl rfl rfl rfl ?_
  refine jT.lc 1 rfl rfl ?_
  refine jT.call rfl rfl (Nat.le_of_ble_eq_true rfl) (Nat.le_of_ble_eq_true rfl) (jrv_of o k1 (by decide) rfl (by decide) rfl _) rfl (mj_Ok.up (Nat.add_le_add_left (by decide) D) (jc_40 (D := D) ty hg o k1 kp1 ⟨by decide, by decide⟩)) rfl rfl (fun v2 h3 qv2 oh3 => ?_)
  obtain rfl : v2 = none := qv2
  refine mj_T.eq (pc2 := 9) (st2 := []) ?_ rfl rfl rfl rfl
  refine mj_T.pl rfl rfl rfl rfl ?_
  refine jT.getR 11 113 13 ty oh3 rfl kp0 (by decide) rfl rfl rfl (fun k4 => ?_)
  refine jT.call rfl rfl (Nat.le_of_ble_eq_true rfl) (Nat.le_of_ble_eq_true rfl) (jrv_of oh3 k4 (by decide) rfl (by decide) rfl _) rfl (mj_Ok.up (Nat.add_le_add_left (by decide) D) (jc_39 (D := D) ty hg oh3 k4)) rfl rfl (fun v5 h6 qv5 oh6 => ?_)
  obtain rfl : v5 = none := qv5
  refine mj_T.eq (pc2 := 16) (st2 := []) ?_ rfl rfl rfl rfl
  refine mj_T.pl rfl rfl rfl rfl ?_
  refine jT.getR 11 113 13 ty oh6 rfl kp0 (by decide) rfl rfl rfl (fun k7 => ?_)
  refine mj_T.pl rfl rfl rfl rfl ?_
  refine jT.callp rfl rfl (Nat.le_of_ble_eq_true rfl) (Nat.le_of_ble_eq_true rfl) (jrv_of oh6 k7 (by decide) rfl (by decide) rfl _) rfl (mj_Ok.up (Nat.add_le_add_left (by decide) D) (jc_36 (D := D) ty hg oh6 k7 ⟨by decide, by decide⟩)) rfl rfl (fun v8 qv8 => ?_)
  obtain ⟨a9, ka9, rfl⟩ := qv8
  refine mj_T.eq (pc2 := 24) (st2 := [.ref a9]) ?_ rfl rfl rfl rfl
  refine jT.lc 1 rfl rfl ?_
  refine jT.call rfl rfl (Nat.le_of_ble_eq_true rfl) (Nat.le_of_ble_eq_true rfl) (jrv_of oh6 ka9 (by decide) rfl (by decide) rfl _) rfl (mj_Ok.up (Nat.add_le_add_left (by decide) D) (jc_86 (D := D) ty hg oh6 ka9 ⟨by decide, by decide⟩)) rfl rfl (fun v10 h11 qv10 oh11 => ?_)
  obtain rfl : v10 = none := qv10
  refine mj_T.eq (pc2 := 28) (st2 := []) ?_ rfl rfl rfl rfl
  refine mj_T.pl rfl rfl rfl rfl ?_
  refine jT.getR 11 113 13 ty oh11 rfl kp0 (by decide) rfl rfl rfl (fun k12 => ?_)
  refine jT.call rfl rfl (Nat.le_of_ble_eq_true rfl) (Nat.le_of_ble_eq_true rfl) (jrv_of oh11 k12 (by decide) rfl (by decide) rfl _) rfl (mj_Ok.up (Nat.add_le_add_left (by decide) D) (jc_42 (D := D) ty hg oh11 k12)) rfl rfl (fun v13 h14 qv13 oh14 => ?_)
  obtain rfl : v13 = none := qv13
  refine mj_T.eq (pc2 := 35) (st2 := []) ?_ rfl rfl rfl rfl
  refine mj_T.pl rfl rfl rfl rfl ?_
  refine mj_T.pl (loc' := [some (.ref p0), some (.ref p1), some (.int (jn p2)), some (.ref p3), some (.int (jn 0))]) rfl rfl rfl rfl ?_
  have t38_17 : ∀ (k18 : Nat) (x15 : Int) (h16 : mj_H), (-2147483648 ≤ x15 ∧ x15 ≤ 2147483647) → (jO K L R g n tm h16) → (0 ≤ x15) → (2147483647 - x15 : Int).toNat = k18 → mj_T (D + 3) mj_m12 38 [some (.ref p0), some (.ref p1), some (.int (jn p2)), some (.ref p3), some (.int (jn x15))] [] h16 (jQ K L R g n tm [] (jVi 0 1)) := by
    refine jInd (fun k18 ih19 => ?_)
    intro x15 h16 rx15 oh16 ix15 hm20
    refine mj_T.pl rfl rfl rfl rfl ?_
    refine mj_T.pl rfl rfl rfl rfl ?_
    refine jT.icmp rfl rx15 rp2 (fun c41 => ?_) (fun c41 => ?_)
    · have c41 := of_decide_eq_true c41
      refine mj_T.pl rfl rfl rfl rfl ?_
      refine jT.getR 11 113 13 ty oh16 rfl kp0 (by decide) rfl rfl rfl (fun k21 => ?_)
      refine mj_T.pl rfl rfl rfl rfl ?_
      refine jT.call rfl rfl (Nat.le_of_ble_eq_true rfl) (Nat.le_of_ble_eq_true rfl) (jrv_of oh16 k21 (by decide) rfl (by decide) rfl _) rfl (mj_Ok.up (Nat.add_le_add_left (by decide) D) (jc_44 (D := D) ty hg oh16 k21 kp3)) rfl rfl (fun v22 h23 qv22 oh23 => ?_)
      obtain ⟨z24, az24, bz24, rfl⟩ := qv22
      have rz24 : -2147483648 ≤ z24 ∧ z24 ≤ 2147483647 := ⟨by omega, by omega⟩
      refine mj_T.eq (pc2 := 90) (st2 := [.int (jn z24)]) ?_ rfl rfl rfl rfl
      exact jT.retb oh23 rfl rfl (by omega) (by omega)
    · have c41 := of_decide_eq_false c41
      iterate 2 refine mj_T.pl rfl rfl rfl rfl ?_
      refine jT.getR 11 113 13 ty oh16 rfl kp0 (by decide) rfl rfl rfl (fun k25 => ?_)
      refine mj_T.pl rfl rfl rfl rfl ?_
      refine jT.getR 11 113 13 ty oh16 rfl kp0 (by decide) rfl rfl rfl (fun k26 => ?_)
      refine mj_T.pl rfl rfl rfl rfl ?_
      refine jT.getR 11 113 13 ty oh16 rfl kp0 (by decide) rfl rfl rfl (fun k27 => ?_)
      refine jT.call rfl rfl (Nat.le_of_ble_eq_true rfl) (Nat.le_of_ble_eq_true rfl) (jrv_of oh16 kp0 (by decide) rfl (by decide) rfl _) rfl (mj_Ok.up (Nat.add_le_add_left (by decide) D) (jc_14 (D := D) ty hg oh16 kp0 k25 k26 k27)) rfl rfl (fun v28 h29 qv28 oh29 => ?_)
      obtain ⟨z30, az30, bz30, rfl⟩ := qv28
      have rz30 : -2147483648 ≤ z30 ∧ z30 ≤ 2147483647 := ⟨by omega, by omega⟩
      refine mj_T.eq (pc2 := 60) (st2 := [.int (jn z30)]) ?_ rfl rfl rfl rfl
      refine jT.if0 rfl rz30 (fun c60 => ?_) (fun c60 => ?_)
      · have c60 := jne1 c60
        refine mj_T.pl rfl rfl rfl rfl ?_
        refine jT.getR 11 113 13 ty oh29 rfl kp0 (by decide) rfl rfl rfl (fun k31 => ?_)
        refine mj_T.pl rfl rfl rfl rfl ?_
        refine jT.getR 11 113 13 ty oh29 rfl kp0 (by decide) rfl rfl rfl (fun k32 => ?_)
        refine jT.call rfl rfl (Nat.le_of_ble_eq_true rfl) (Nat.le_of_ble_eq_true rfl) (jrv_of oh29 k31 (by decide) rfl (by decide) rfl _) rfl (mj_Ok.up (Nat.add_le_add_left (by decide) D) (jc_41 (D := D) ty hg oh29 k31 k32)) rfl rfl (fun v33 h34 qv33 oh34 => ?_)
        obtain rfl : v33 = none := qv33
        refine mj_T.eq (pc2 := 76) (st2 := []) ?_ rfl rfl rfl rfl
        refine jT.iinc rfl rfl (fun z35 rz35 ez35 => ?_)
        replace ez35 := ez35 ⟨by omega, by omega⟩
        refine mj_T.eq (loc2 := [some (.ref p0), some (.ref p1), some (.int (jn p2)), some (.ref p3), some (.int (jn z35))]) ?_ rfl rfl rfl rfl
        refine mj_T.pl rfl rfl rfl rfl ?_
        exact ih19 ((2147483647 - z35 : Int).toNat) (by omega) z35 h34 rz35 oh34 (by omega) rfl
      · have c60 := jne2 c60
        refine mj_T.pl rfl rfl rfl rfl ?_
        exact jT.retb oh29 rfl rfl (by omega) (by omega)
  exact t38_17 _ 0 h14 ⟨by decide, by decide⟩ oh14 (by omega) rfl
-- PolyRegisters$Desk.putIn([J[J[J)Z
theorem jc_13 {D n : Nat} {tm : Int} {h g : mj_H} {K L : Nat → Nat} {R : Nat → Nat → Nat} {p0 : Nat} {p1 : Nat} {p2 : Nat} {p3 : Nat} (ty : jTY K L R) (hg : g.length ≤ n) (o : jO K L R g n tm h) (kp0 : K p0 = 11) (kp1 : K p1 = 2) (kp2 : K p2 = 2) (kp3 : K p3 = 2) : mj_Ok (D + 4) 13 [.ref p0, .ref p1, .ref p2, .ref p3] h (jQ K L R g n tm [] (jVi 0 1)) := by
  refine mj_Ok.of (M := mj_m13) (loc := [some (.ref p0), some (.ref p1), some (.ref p2), some (.ref p3), none]) rfl rfl rfl ?_
  refine mj_T.pl rfl rfl rfl rfl ?_
  refine jT.getR 11 113 13 ty o rfl kp0 (by decide) rfl rfl rfl (fun k1 => ?_)
  refine mj_T.pl rfl rfl rfl rfl ?_
  refine jT.lc 1 rfl rfl ?_
  refine jT.call rfl rfl (Nat.le_of_ble_eq_true rfl) (Nat.le_of_ble_eq_true rfl) (jrv_of o k1 (by decide) rfl (by decide) rfl _) rfl (mj_Ok.up (Nat.add_le_add_left (by decide) D) (jc_40 (D := D) ty hg o k1 kp2 ⟨by decide, by decide⟩)) rfl rfl (fun v2 h3 qv2 oh3 => ?_)
  obtain rfl : v2 = none := qv2
  refine mj_T.eq (pc2 := 9) (st2 := []) ?_ rfl rfl rfl rfl
  refine mj_T.pl rfl rfl rfl rfl ?_
  refine jT.getR 11 113 13 ty oh3 rfl kp0 (by decide) rfl rfl rfl (fun k4 => ?_)
  refine jT.call rfl rfl (Nat.le_of_ble_eq_true rfl) (Nat.le_of_ble_eq_true rfl) (jrv_of oh3 k4 (by decide) rfl (by decide) rfl _) rfl (mj_Ok.up (Nat.add_le_add_left (by decide) D) (jc_39 (D := D) ty hg oh3 k4)) rfl rfl (fun v5 h6 qv5 oh6 => ?_)
  obtain rfl : v5 = none := qv5
  refine mj_T.eq (pc2 := 16) (st2 := []) ?_ rfl rfl rfl rfl
  refine mj_T.pl rfl rfl rfl rfl ?_
  refine jT.alen 2 ty oh6 rfl kp1 (by decide) (by decide) (fun z7 ez7 (az7 : 13 ≤ z7) (bz7 : z7 ≤ 13) => ?_)
  have rz7 : -2147483648 ≤ z7 ∧ z7 ≤ 2147483647 := ⟨by omega, by omega⟩
  refine mj_T.pl rfl rfl rfl rfl ?_
  refine jT.isub rfl (fun z8 rz8 ez8 => ?_)
  replace ez8 := ez8 ⟨by omega, by omega⟩
  refine mj_T.pl (loc' := [some (.ref p0), some (.ref p1), some (.ref p2), some (.ref p3), some (.int (jn z8))]) rfl rfl rfl rfl ?_
  have t22_11 : ∀ (k12 : Nat) (x9 : Int) (h10 : mj_H), (-2147483648 ≤ x9 ∧ x9 ≤ 2147483647) → (jO K L R g n tm h10) → (x9 ≤ z8) → (x9 + 1 : Int).toNat = k12 → mj_T (D + 3) mj_m13 22 [some (.ref p0), some (.ref p1), some (.ref p2), some (.ref p3), some (.int (jn x9))] [] h10 (jQ K L R g n tm [] (jVi 0 1)) := by
    refine jInd (fun k12 ih13 => ?_)
    intro x9 h10 rx9 oh10 ix9 hm14
    refine mj_T.pl rfl rfl rfl rfl ?_
    refine jT.if0 rfl rx9 (fun c24 => ?_) (fun c24 => ?_)
    · have c24 := of_decide_eq_true c24
      refine mj_T.pl rfl rfl rfl rfl ?_
      refine jT.getR 11 113 13 ty oh10 rfl kp0 (by decide) rfl rfl rfl (fun k15 => ?_)
      refine mj_T.pl rfl rfl rfl rfl ?_
      refine jT.call rfl rfl (Nat.le_of_ble_eq_true rfl) (Nat.le_of_ble_eq_true rfl) (jrv_of oh10 k15 (by decide) rfl (by decide) rfl _) rfl (mj_Ok.up (Nat.add_le_add_left (by decide) D) (jc_44 (D := D) ty hg oh10 k15 kp3)) rfl rfl (fun v16 h17 qv16 oh17 => ?_)
      obtain ⟨z18, az18, bz18, rfl⟩ := qv16
      have rz18 : -2147483648 ≤ z18 ∧ z18 ≤ 2147483647 := ⟨by omega, by omega⟩
      refine mj_T.eq (pc2 := 100) (st2 := [.int (jn z18)]) ?_ rfl rfl rfl rfl
      exact jT.retb oh17 rfl rfl (by omega) (by omega)
    · have c24 := of_decide_eq_false c24
      iterate 2 refine mj_T.pl rfl rfl rfl rfl ?_
      refine jT.getR 11 113 13 ty oh10 rfl kp0 (by decide) rfl rfl rfl (fun k19 => ?_)
      refine mj_T.pl rfl rfl rfl rfl ?_
      refine jT.getR 11 113 13 ty oh10 rfl kp0 (by decide) rfl rfl rfl (fun k20 => ?_)
      refine mj_T.pl rfl rfl rfl rfl ?_
      refine jT.getR 11 113 13 ty oh10 rfl kp0 (by decide) rfl rfl rfl (fun k21 => ?_)
      refine jT.call rfl rfl (Nat.le_of_ble_eq_true rfl) (Nat.le_of_ble_eq_true rfl) (jrv_of oh10 kp0 (by decide) rfl (by decide) rfl _) rfl (mj_Ok.up (Nat.add_le_add_left (by decide) D) (jc_14 (D := D) ty hg oh10 kp0 k19 k20 k21)) rfl rfl (fun v22 h23 qv22 oh23 => ?_)
      obtain ⟨z24, az24, bz24, rfl⟩ := qv22
      have rz24 : -2147483648 ≤ z24 ∧ z24 ≤ 2147483647 := ⟨by omega, by omega⟩
      refine mj_T.eq (pc2 := 43) (st2 := [.int (jn z24)]) ?_ rfl rfl rfl rfl
      refine jT.if0 rfl rz24 (fun c43 => ?_) (fun c43 => ?_)
      · have c43 := jne1 c43
        refine mj_T.pl rfl rfl rfl rfl ?_
        refine jT.getR 11 118 18 ty oh23 rfl kp0 (by decide) rfl rfl rfl (fun k25 => ?_)
        iterate 2 refine mj_T.pl rfl rfl rfl rfl ?_
        refine jT.lald oh23 rfl kp1 rx9 ⟨by omega, by omega⟩ (fun z26 jz26 => ?_)
        refine jT.call rfl rfl (Nat.le_of_ble_eq_true rfl) (Nat.le_of_ble_eq_true rfl) (jrv_of oh23 k25 (by decide) rfl (by decide) rfl _) rfl (mj_Ok.up (Nat.add_le_add_left (by decide) D) (jc_86 (D := D) ty hg oh23 k25 jz26)) rfl rfl (fun v27 h28 qv27 oh28 => ?_)
        obtain rfl : v27 = none := qv27
        refine mj_T.eq (pc2 := 59) (st2 := []) ?_ rfl rfl rfl rfl
        refine mj_T.pl rfl rfl rfl rfl ?_
        refine jT.getR 11 113 13 ty oh28 rfl kp0 (by decide) rfl rfl rfl (fun k29 => ?_)
        refine mj_T.pl rfl rfl rfl rfl ?_
        refine jT.callp rfl rfl (Nat.le_of_ble_eq_true rfl) (Nat.le_of_ble_eq_true rfl) (jrv_of oh28 k29 (by decide) rfl (by decide) rfl _) rfl (mj_Ok.up (Nat.add_le_add_left (by decide) D) (jc_36 (D := D) ty hg oh28 k29 ⟨by decide, by decide⟩)) rfl rfl (fun v30 qv30 => ?_)
        obtain ⟨a31, ka31, rfl⟩ := qv30
        refine mj_T.eq (pc2 := 67) (st2 := [.ref a31]) ?_ rfl rfl rfl rfl
        refine mj_T.pl rfl rfl rfl rfl ?_
        refine jT.getR 11 118 18 ty oh28 rfl kp0 (by decide) rfl rfl rfl (fun k32 => ?_)
        refine mj_T.pl rfl rfl rfl rfl ?_
        refine jT.call rfl rfl (Nat.le_of_ble_eq_true rfl) (Nat.le_of_ble_eq_true rfl) (jrv_of oh28 ka31 (by decide) rfl (by decide) rfl _) rfl (mj_Ok.up (Nat.add_le_add_left (by decide) D) (jc_91 (D := D) ty hg oh28 ka31 k32 ⟨by decide, by decide⟩)) rfl rfl (fun v33 h34 qv33 oh34 => ?_)
        obtain rfl : v33 = none := qv33
        refine mj_T.eq (pc2 := 75) (st2 := []) ?_ rfl rfl rfl rfl
        refine mj_T.pl rfl rfl rfl rfl ?_
        refine jT.getR 11 113 13 ty oh34 rfl kp0 (by decide) rfl rfl rfl (fun k35 => ?_)
        refine mj_T.pl rfl rfl rfl rfl ?_
        refine jT.getR 11 113 13 ty oh34 rfl kp0 (by decide) rfl rfl rfl (fun k36 => ?_)
        refine jT.call rfl rfl (Nat.le_of_ble_eq_true rfl) (Nat.le_of_ble_eq_true rfl) (jrv_of oh34 k35 (by decide) rfl (by decide) rfl _) rfl (mj_Ok.up (Nat.add_le_add_left (by decide) D) (jc_41 (D := D) ty hg oh34 k35 k36)) rfl rfl (fun v37 h38 qv37 oh38 => ?_)
        obtain rfl : v37 = none := qv37
        refine mj_T.eq (pc2 := 86) (st2 := []) ?_ rfl rfl rfl rfl
        refine jT.iinc rfl rfl (fun z39 rz39 ez39 => ?_)
        replace ez39 := ez39 ⟨by omega, by omega⟩
        refine mj_T.eq (loc2 := [some (.ref p0), some (.ref p1), some (.ref p2), some (.ref p3), some (.int (jn z39))]) ?_ rfl rfl rfl rfl
        refine mj_T.pl rfl rfl rfl rfl ?_
        exact ih13 ((z39 + 1 : Int).toNat) (by omega) z39 h38 rz39 oh38 (by omega) rfl
      · have c43 := jne2 c43
        refine mj_T.pl rfl rfl rfl rfl ?_
        exact jT.retb oh23 rfl rfl (by omega) (by omega)
  exact t22_11 _ z8 h6 rz8 oh6 (by omega) rfl
-- PolyRegisters$Desk.addsDegrees([J[J)Z
theorem jc_15 {D n : Nat} {tm : Int} {h g : mj_H} {K L : Nat → Nat} {R : Nat → Nat → Nat} {p0 : Nat} {p1 : Nat} {p2 : Nat} (ty : jTY K L R) (hg : g.length ≤ n) (o : jO K L R g n tm h) (kp0 : K p0 = 11) (kp1 : K p1 = 2) (kp2 : K p2 = 2) : mj_Ok (D + 4) 15 [.ref p0, .ref p1, .ref p2] h (jQ K L R g n tm [] (jVi 0 1)) := by
  refine mj_Ok.of (M := mj_m15) (loc := [some (.ref p0), some (.ref p1), some (.ref p2), none]) rfl rfl rfl ?_
  refine mj_T.pl rfl rfl rfl rfl ?_
  refine jT.getR 11 113 13 ty o rfl kp0 (by decide) rfl rfl rfl (fun k1 => ?_)
  refine mj_T.pl rfl rfl rfl rfl ?_
  refine jT.lc 1 rfl rfl ?_
  refine jT.call rfl rfl (Nat.le_of_ble_eq_true rfl) (Nat.le_of_ble_eq_true rfl) (jrv_of o k1 (by decide) rfl (by decide) rfl _) rfl (mj_Ok.up (Nat.add_le_add_left (by decide) D) (jc_40 (D := D) ty hg o k1 kp1 ⟨by decide, by decide⟩)) rfl rfl (fun v2 h3 qv2 oh3 => ?_)
  obtain rfl : v2 = none := qv2
  refine mj_T.eq (pc2 := 9) (st2 := []) ?_ rfl rfl rfl rfl
  refine mj_T.pl rfl rfl rfl rfl ?_
  refine jT.getR 11 113 13 ty oh3 rfl kp0 (by decide) rfl rfl rfl (fun k4 => ?_)
  refine mj_T.pl rfl rfl rfl rfl ?_
  refine jT.lc 1 rfl rfl ?_
  refine jT.call rfl rfl (Nat.le_of_ble_eq_true rfl) (Nat.le_of_ble_eq_true rfl) (jrv_of oh3 k4 (by decide) rfl (by decide) rfl _) rfl (mj_Ok.up (Nat.add_le_add_left (by decide) D) (jc_40 (D := D) ty hg oh3 k4 kp2 ⟨by decide, by decide⟩)) rfl rfl (fun v5 h6 qv5 oh6 => ?_)
  obtain rfl : v5 = none := qv5
  refine mj_T.eq (pc2 := 18) (st2 := []) ?_ rfl rfl rfl rfl
  iterate 2 refine mj_T.pl rfl rfl rfl rfl ?_
  refine jT.getR 11 113 13 ty oh6 rfl kp0 (by decide) rfl rfl rfl (fun k7 => ?_)
  refine mj_T.pl rfl rfl rfl rfl ?_
  refine jT.getR 11 113 13 ty oh6 rfl kp0 (by decide) rfl rfl rfl (fun k8 => ?_)
  refine mj_T.pl rfl rfl rfl rfl ?_
  refine jT.getR 11 113 13 ty oh6 rfl kp0 (by decide) rfl rfl rfl (fun k9 => ?_)
  refine jT.call rfl rfl (Nat.le_of_ble_eq_true rfl) (Nat.le_of_ble_eq_true rfl) (jrv_of oh6 kp0 (by decide) rfl (by decide) rfl _) rfl (mj_Ok.up (Nat.add_le_add_left (by decide) D) (jc_14 (D := D) ty hg oh6 kp0 k7 k8 k9)) rfl rfl (fun v10 h11 qv10 oh11 => ?_)
  obtain ⟨z12, az12, bz12, rfl⟩ := qv10
  have rz12 : -2147483648 ≤ z12 ∧ z12 ≤ 2147483647 := ⟨by omega, by omega⟩
  refine mj_T.eq (pc2 := 34) (st2 := [.int (jn z12)]) ?_ rfl rfl rfl rfl
  iterate 2 refine mj_T.pl rfl rfl rfl rfl ?_
  refine jT.getR 11 113 13 ty oh11 rfl kp0 (by decide) rfl rfl rfl (fun k13 => ?_)
  refine jT.getI 13 6 oh11 rfl k13 (by decide) rfl rfl rfl (fun z14 (az14 : (-1) ≤ z14) (bz14 : z14 ≤ 30) fz14 => ?_)
  have rz14 : -2147483648 ≤ z14 ∧ z14 ≤ 2147483647 := ⟨by omega, by omega⟩
  have t74_16 : ∀ (x15 : Int), (-2147483648 ≤ x15 ∧ x15 ≤ 2147483647) → mj_T (D + 3) mj_m15 74 [some (.ref p0), some (.ref p1), some (.ref p2), none] [.int (jn x15)] h11 (jQ K L R g n tm [] (jVi 0 1)) := by
    intro x15 rx15
    refine mj_T.pl (loc' := [some (.ref p0), some (.ref p1), some (.ref p2), some (.int (jn x15))]) rfl rfl rfl rfl ?_
    refine mj_T.pl rfl rfl rfl rfl ?_
    refine jT.getR 11 113 13 ty oh11 rfl kp0 (by decide) rfl rfl rfl (fun k17 => ?_)
    refine jT.getI 13 6 oh11 rfl k17 (by decide) rfl rfl rfl (fun z18 (az18 : (-1) ≤ z18) (bz18 : z18 ≤ 30) fz18 => ?_)
    have rz18 : -2147483648 ≤ z18 ∧ z18 ≤ 2147483647 := ⟨by omega, by omega⟩
    refine mj_T.pl rfl rfl rfl rfl ?_
    refine jT.icmp rfl rz18 rx15 (fun c83 => ?_) (fun c83 => ?_)
    · have c83 := jne1 c83
      refine mj_T.pl rfl rfl rfl rfl ?_
      exact jT.retb oh11 rfl rfl (by omega) (by omega)
    · have c83 := jne2 c83
      iterate 2 refine mj_T.pl rfl rfl rfl rfl ?_
      exact jT.retb oh11 rfl rfl (by omega) (by omega)
  have t55_19 : mj_T (D + 3) mj_m15 55 [some (.ref p0), some (.ref p1), some (.ref p2), none] [] h11 (jQ K L R g n tm [] (jVi 0 1)) := by
    iterate 2 refine mj_T.pl rfl rfl rfl rfl ?_
    exact t74_16 (-1) ⟨by decide, by decide⟩
  refine jT.if0 rfl rz14 (fun c42 => ?_) (fun c42 => ?_)
  · have c42 := of_decide_eq_true c42
    exact t55_19 
  · have c42 := of_decide_eq_false c42
    refine mj_T.pl rfl rfl rfl rfl ?_
    refine jT.getR 11 113 13 ty oh11 rfl kp0 (by decide) rfl rfl rfl (fun k20 => ?_)
    refine jT.getI 13 6 oh11 rfl k20 (by decide) rfl rfl rfl (fun z21 (az21 : (-1) ≤ z21) (bz21 : z21 ≤ 30) fz21 => ?_)
    have rz21 : -2147483648 ≤ z21 ∧ z21 ≤ 2147483647 := ⟨by omega, by omega⟩
    refine jT.if0 rfl rz21 (fun c52 => ?_) (fun c52 => ?_)
    · have c52 := of_decide_eq_true c52
      refine mj_T.pl rfl rfl rfl rfl ?_
      refine jT.getR 11 113 13 ty oh11 rfl kp0 (by decide) rfl rfl rfl (fun k22 => ?_)
      refine jT.getK 13 6 oh11 rfl k22 (by decide) rfl rfl rfl fz14.symm ?_
      refine mj_T.pl rfl rfl rfl rfl ?_
      refine jT.getR 11 113 13 ty oh11 rfl kp0 (by decide) rfl rfl rfl (fun k23 => ?_)
      refine jT.getK 13 6 oh11 rfl k23 (by decide) rfl rfl rfl fz21.symm ?_
      refine jT.iadd rfl (fun z24 rz24 ez24 => ?_)
      replace ez24 := ez24 ⟨by omega, by omega⟩
      exact t74_16 z24 rz24
    · have c52 := of_decide_eq_false c52
      exact t55_19 
-- PolyRegisters$Desk.eliminate(LPolyRegisters$Poly;LPolyRegisters$Poly;I)V
theorem jc_17 {D n : Nat} {tm : Int} {h g : mj_H} {K L : Nat → Nat} {R : Nat → Nat → Nat} {p0 : Nat} {p1 : Nat} {p2 : Nat} {p3 : Int} (ty : jTY K L R) (hg : g.length ≤ n) (o : jO K L R g n tm h) (kp0 : K p0 = 11) (kp1 : K p1 = 13) (kp2 : K p2 = 13) (rp3 : -2147483648 ≤ p3 ∧ p3 ≤ 2147483647) : mj_Ok (D + 3) 17 [.ref p0, .ref p1, .ref p2, .int (jn p3)] h (jQ K L R g n tm [] jV0) := by
  refine mj_Ok.of (M := mj_m17) (loc := [some (.ref p0), some (.ref p1), some (.ref p2), some (.int (jn p3)), none, none, none, none]) rfl rfl rfl ?_
  iterate 2 refine mj_T.pl rfl rfl rfl rfl ?_
  refine jT.getI 13 6 o rfl kp2 (by decide) rfl rfl rfl (fun z1 (az1 : (-1) ≤ z1) (bz1 : z1 ≤ 30) fz1 => ?_)
  have rz1 : -2147483648 ≤ z1 ∧ z1 ≤ 2147483647 := ⟨by omega, by omega⟩
  refine mj_T.pl rfl rfl rfl rfl ?_
  refine jT.iadd rfl (fun z2 rz2 ez2 => ?_)
  clear ez2
  refine jT.callp rfl rfl (Nat.le_of_ble_eq_true rfl) (Nat.le_of_ble_eq_true rfl) (jrv_of o kp1 (by decide) rfl (by decide) rfl _) rfl (mj_Ok.up (Nat.add_le_add_left (by decide) D) (jc_36 (D := D) ty hg o kp1 rz2)) rfl rfl (fun v3 qv3 => ?_)
  obtain ⟨a4, ka4, rfl⟩ := qv3
  refine mj_T.eq (pc2 := 10) (st2 := [.ref a4]) ?_ rfl rfl rfl rfl
  refine mj_T.pl (loc' := [some (.ref p0), some (.ref p1), some (.ref p2), some (.int (jn p3)), some (.ref a4), none, none, none]) rfl rfl rfl rfl ?_
  refine mj_T.pl rfl rfl rfl rfl ?_
  refine jT.callp rfl rfl (Nat.le_of_ble_eq_true rfl) (Nat.le_of_ble_eq_true rfl) (jrv_of o kp2 (by decide) rfl (by decide) rfl _) rfl (mj_Ok.up (Nat.add_le_add_left (by decide) D) (jc_37 (D := D) ty hg o kp2)) rfl rfl (fun v5 qv5 => ?_)
  obtain ⟨a6, ka6, rfl⟩ := qv5
  refine mj_T.eq (pc2 := 16) (st2 := [.ref a6]) ?_ rfl rfl rfl rfl
  refine mj_T.pl (loc' := [some (.ref p0), some (.ref p1), some (.ref p2), some (.int (jn p3)), some (.ref a4), some (.ref a6), none, none]) rfl rfl rfl rfl ?_
  refine mj_T.pl rfl rfl rfl rfl ?_
  refine mj_T.pl (loc' := [some (.ref p0), some (.ref p1), some (.ref p2), some (.int (jn p3)), some (.ref a4), some (.ref a6), some (.int (jn 0)), none]) rfl rfl rfl rfl ?_
  have t21_10 : ∀ (k11 : Nat) (x7 : Int) (w8 : Option Value) (h9 : mj_H), (-2147483648 ≤ x7 ∧ x7 ≤ 2147483647) → (jO K L R g n tm h9) → (0 ≤ x7) → (2147483647 - x7 : Int).toNat = k11 → mj_T (D + 2) mj_m17 21 [some (.ref p0), some (.ref p1), some (.ref p2), some (.int (jn p3)), some (.ref a4), some (.ref a6), some (.int (jn x7)), w8] [] h9 (jQ K L R g n tm [] jV0) := by
    refine jInd (fun k11 ih12 => ?_)
    intro x7 w8 h9 rx7 oh9 ix7 hm13
    refine mj_T.pl rfl rfl rfl rfl ?_
    refine mj_T.pl rfl rfl rfl rfl ?_
    refine jT.getI 13 6 oh9 rfl kp2 (by decide) rfl rfl rfl (fun z14 (az14 : (-1) ≤ z14) (bz14 : z14 ≤ 30) fz14 => ?_)
    have rz14 : -2147483648 ≤ z14 ∧ z14 ≤ 2147483647 := ⟨by omega, by omega⟩
    refine mj_T.pl rfl rfl rfl rfl ?_
    refine jT.iadd rfl (fun z15 rz15 ez15 => ?_)
    clear ez15
    refine jT.icmp rfl rx7 rz15 (fun c29 => ?_) (fun c29 => ?_)
    · have c29 := of_decide_eq_true c29
      refine mj_T.pl rfl rfl rfl rfl ?_
      refine jT.lc 0 rfl rfl ?_
      refine jT.call rfl rfl (Nat.le_of_ble_eq_true rfl) (Nat.le_of_ble_eq_true rfl) (jrv_of oh9 ka4 (by decide) rfl (by decide) rfl _) rfl (mj_Ok.up (Nat.add_le_add_left (by decide) D) (jc_86 (D := D) ty hg oh9 ka4 ⟨by decide, by decide⟩)) rfl rfl (fun v16 h17 qv16 oh17 => ?_)
      obtain rfl : v16 = none := qv16
      refine mj_T.eq (pc2 := 107) (st2 := []) ?_ rfl rfl rfl rfl
      exact jT.ret oh17 rfl rfl rfl rfl
    · have c29 := of_decide_eq_false c29
      iterate 2 refine mj_T.pl rfl rfl rfl rfl ?_
      refine jT.callp rfl rfl (Nat.le_of_ble_eq_true rfl) (Nat.le_of_ble_eq_true rfl) (jrv_of oh9 kp1 (by decide) rfl (by decide) rfl _) rfl (mj_Ok.up (Nat.add_le_add_left (by decide) D) (jc_36 (D := D) ty hg oh9 kp1 rx7)) rfl rfl (fun v18 qv18 => ?_)
      obtain ⟨a19, ka19, rfl⟩ := qv18
      refine mj_T.eq (pc2 := 38) (st2 := [.ref a19]) ?_ rfl rfl rfl rfl
      refine mj_T.pl (loc' := [some (.ref p0), some (.ref p1), some (.ref p2), some (.int (jn p3)), some (.ref a4), some (.ref a6), some (.int (jn x7)), some (.ref a19)]) rfl rfl rfl rfl ?_
      refine mj_T.pl rfl rfl rfl rfl ?_
      refine jT.getR 11 118 18 ty oh9 rfl kp0 (by decide) rfl rfl rfl (fun k20 => ?_)
      iterate 2 refine mj_T.pl rfl rfl rfl rfl ?_
      refine jT.call rfl rfl (Nat.le_of_ble_eq_true rfl) (Nat.le_of_ble_eq_true rfl) (jrv_of oh9 k20 (by decide) rfl (by decide) rfl _) rfl (mj_Ok.up (Nat.add_le_add_left (by decide) D) (jc_95 (D := D) ty hg oh9 k20 ka19 ka6)) rfl rfl (fun v21 h22 qv21 oh22 => ?_)
      obtain rfl : v21 = none := qv21
      refine mj_T.eq (pc2 := 51) (st2 := []) ?_ rfl rfl rfl rfl
      iterate 2 refine mj_T.pl rfl rfl rfl rfl ?_
      refine jT.icmp rfl rx7 rp3 (fun c54 => ?_) (fun c54 => ?_)
      · have c54 := of_decide_eq_true c54
        iterate 2 refine mj_T.pl rfl rfl rfl rfl ?_
        refine jT.getR 11 118 18 ty oh22 rfl kp0 (by decide) rfl rfl rfl (fun k23 => ?_)
        refine jT.call rfl rfl (Nat.le_of_ble_eq_true rfl) (Nat.le_of_ble_eq_true rfl) (jrv_of oh22 ka19 (by decide) rfl (by decide) rfl _) rfl (mj_Ok.up (Nat.add_le_add_left (by decide) D) (jc_87 (D := D) ty hg oh22 ka19 k23)) rfl rfl (fun v24 h25 qv24 oh25 => ?_)
        obtain rfl : v24 = none := qv24
        refine mj_T.eq (pc2 := 95) (st2 := []) ?_ rfl rfl rfl rfl
        refine jT.iinc rfl rfl (fun z26 rz26 ez26 => ?_)
        replace ez26 := ez26 ⟨by omega, by omega⟩
        refine mj_T.eq (loc2 := [some (.ref p0), some (.ref p1), some (.ref p2), some (.int (jn p3)), some (.ref a4), some (.ref a6), some (.int (jn z26)), some (.ref a19)]) ?_ rfl rfl rfl rfl
        refine mj_T.pl rfl rfl rfl rfl ?_
        exact ih12 ((2147483647 - z26 : Int).toNat) (by omega) z26 (some (.ref a19)) h25 rz26 oh25 (by omega) rfl
      · have c54 := of_decide_eq_false c54
        refine mj_T.pl rfl rfl rfl rfl ?_
        refine jT.getR 11 118 18 ty oh22 rfl kp0 (by decide) rfl rfl rfl (fun k27 => ?_)
        iterate 4 refine mj_T.pl rfl rfl rfl rfl ?_
        refine jT.isub rfl (fun z28 rz28 ez28 => ?_)
        clear ez28
        refine jT.callp rfl rfl (Nat.le_of_ble_eq_true rfl) (Nat.le_of_ble_eq_true rfl) (jrv_of oh22 kp2 (by decide) rfl (by decide) rfl _) rfl (mj_Ok.up (Nat.add_le_add_left (by decide) D) (jc_36 (D := D) ty hg oh22 kp2 rz28)) rfl rfl (fun v29 qv29 => ?_)
        obtain ⟨a30, ka30, rfl⟩ := qv29
        refine mj_T.eq (pc2 := 71) (st2 := [.ref a30, .ref a4, .ref (R p0 5)]) ?_ rfl rfl rfl rfl
        refine jT.call rfl rfl (Nat.le_of_ble_eq_true rfl) (Nat.le_of_ble_eq_true rfl) (jrv_of oh22 k27 (by decide) rfl (by decide) rfl _) rfl (mj_Ok.up (Nat.add_le_add_left (by decide) D) (jc_95 (D := D) ty hg oh22 k27 ka4 ka30)) rfl rfl (fun v31 h32 qv31 oh32 => ?_)
        obtain rfl : v31 = none := qv31
        refine mj_T.eq (pc2 := 74) (st2 := []) ?_ rfl rfl rfl rfl
        refine mj_T.pl rfl rfl rfl rfl ?_
        refine jT.getR 11 118 18 ty oh32 rfl kp0 (by decide) rfl rfl rfl (fun k33 => ?_)
        refine mj_T.pl rfl rfl rfl rfl ?_
        refine jT.getR 11 118 18 ty oh32 rfl kp0 (by decide) rfl rfl rfl (fun k34 => ?_)
        refine mj_T.pl rfl rfl rfl rfl ?_
        refine jT.call rfl rfl (Nat.le_of_ble_eq_true rfl) (Nat.le_of_ble_eq_true rfl) (jrv_of oh32 k33 (by decide) rfl (by decide) rfl _) rfl (mj_Ok.up (Nat.add_le_add_left (by decide) D) (jc_91 (D := D) ty hg oh32 k33 k34 ⟨by decide, by decide⟩)) rfl rfl (fun v35 h36 qv35 oh36 => ?_)
        obtain rfl : v35 = none := qv35
        refine mj_T.eq (pc2 := 86) (st2 := []) ?_ rfl rfl rfl rfl
        iterate 2 refine mj_T.pl rfl rfl rfl rfl ?_
        refine jT.getR 11 118 18 ty oh36 rfl kp0 (by decide) rfl rfl rfl (fun k37 => ?_)
        refine jT.call rfl rfl (Nat.le_of_ble_eq_true rfl) (Nat.le_of_ble_eq_true rfl) (jrv_of oh36 ka19 (by decide) rfl (by decide) rfl _) rfl (mj_Ok.up (Nat.add_le_add_left (by decide) D) (jc_87 (D := D) ty hg oh36 ka19 k37)) rfl rfl (fun v38 h39 qv38 oh39 => ?_)
        obtain rfl : v38 = none := qv38
        refine mj_T.eq (pc2 := 95) (st2 := []) ?_ rfl rfl rfl rfl
        refine jT.iinc rfl rfl (fun z40 rz40 ez40 => ?_)
        replace ez40 := ez40 ⟨by omega, by omega⟩
        refine mj_T.eq (loc2 := [some (.ref p0), some (.ref p1), some (.ref p2), some (.int (jn p3)), some (.ref a4), some (.ref a6), some (.int (jn z40)), some (.ref a19)]) ?_ rfl rfl rfl rfl
        refine mj_T.pl rfl rfl rfl rfl ?_
        exact ih12 ((2147483647 - z40 : Int).toNat) (by omega) z40 (some (.ref a19)) h39 rz40 oh39 (by omega) rfl
  exact t21_10 _ 0 none h ⟨by decide, by decide⟩ o (by omega) rfl
-- PolyRegisters$Desk.divideRows([J[J[J[J)Z
theorem jc_16 {D n : Nat} {tm : Int} {h g : mj_H} {K L : Nat → Nat} {R : Nat → Nat → Nat} {p0 : Nat} {p1 : Nat} {p2 : Nat} {p3 : Nat} {p4 : Nat} (ty : jTY K L R) (hg : g.length ≤ n) (o : jO K L R g n tm h) (kp0 : K p0 = 11) (kp1 : K p1 = 2) (kp2 : K p2 = 2) (kp3 : K p3 = 2) (kp4 : K p4 = 2) : mj_Ok (D + 4) 16 [.ref p0, .ref p1, .ref p2, .ref p3, .ref p4] h (jQ K L R g n tm [] (jVi 0 1)) := by
  refine mj_Ok.of (M := mj_m16) (loc := [some (.ref p0), some (.ref p1), some (.ref p2), some (.ref p3), some (.ref p4), none, none]) rfl rfl rfl ?_
  refine mj_T.pl rfl rfl rfl rfl ?_
  refine jT.getR 11 113 13 ty o rfl kp0 (by decide) rfl rfl rfl (fun k1 => ?_)
  refine mj_T.pl rfl rfl rfl rfl ?_
  refine jT.lc 1 rfl rfl ?_
  refine jT.call rfl rfl (Nat.le_of_ble_eq_true rfl) (Nat.le_of_ble_eq_true rfl) (jrv_of o k1 (by decide) rfl (by decide) rfl _) rfl (mj_Ok.up (Nat.add_le_add_left (by decide) D) (jc_40 (D := D) ty hg o k1 kp1 ⟨by decide, by decide⟩)) rfl rfl (fun v2 h3 qv2 oh3 => ?_)
  obtain rfl : v2 = none := qv2
  refine mj_T.eq (pc2 := 9) (st2 := []) ?_ rfl rfl rfl rfl
  refine mj_T.pl rfl rfl rfl rfl ?_
  refine jT.getR 11 113 13 ty oh3 rfl kp0 (by decide) rfl rfl rfl (fun k4 => ?_)
  refine mj_T.pl rfl rfl rfl rfl ?_
  refine jT.lc 1 rfl rfl ?_
  refine jT.call rfl rfl (Nat.le_of_ble_eq_true rfl) (Nat.le_of_ble_eq_true rfl) (jrv_of oh3 k4 (by decide) rfl (by decide) rfl _) rfl (mj_Ok.up (Nat.add_le_add_left (by decide) D) (jc_40 (D := D) ty hg oh3 k4 kp2 ⟨by decide, by decide⟩)) rfl rfl (fun v5 h6 qv5 oh6 => ?_)
  obtain rfl : v5 = none := qv5
  refine mj_T.eq (pc2 := 18) (st2 := []) ?_ rfl rfl rfl rfl
  refine mj_T.pl rfl rfl rfl rfl ?_
  refine jT.getR 11 113 13 ty oh6 rfl kp0 (by decide) rfl rfl rfl (fun k7 => ?_)
  refine jT.call rfl rfl (Nat.le_of_ble_eq_true rfl) (Nat.le_of_ble_eq_true rfl) (jrv_of oh6 k7 (by decide) rfl (by decide) rfl _) rfl (mj_Ok.up (Nat.add_le_add_left (by decide) D) (jc_39 (D := D) ty hg oh6 k7)) rfl rfl (fun v8 h9 qv8 oh9 => ?_)
  obtain rfl : v8 = none := qv8
  refine mj_T.eq (pc2 := 25) (st2 := []) ?_ rfl rfl rfl rfl
  refine mj_T.pl rfl rfl rfl rfl ?_
  refine jT.getR 11 113 13 ty oh9 rfl kp0 (by decide) rfl rfl rfl (fun k10 => ?_)
  refine jT.getI 13 6 oh9 rfl k10 (by decide) rfl rfl rfl (fun z11 (az11 : (-1) ≤ z11) (bz11 : z11 ≤ 30) fz11 => ?_)
  have rz11 : -2147483648 ≤ z11 ∧ z11 ≤ 2147483647 := ⟨by omega, by omega⟩
  refine mj_T.pl rfl rfl rfl rfl ?_
  refine jT.getR 11 113 13 ty oh9 rfl kp0 (by decide) rfl rfl rfl (fun k12 => ?_)
  refine jT.getI 13 6 oh9 rfl k12 (by decide) rfl rfl rfl (fun z13 (az13 : (-1) ≤ z13) (bz13 : z13 ≤ 30) fz13 => ?_)
  have rz13 : -2147483648 ≤ z13 ∧ z13 ≤ 2147483647 := ⟨by omega, by omega⟩
  refine jT.isub rfl (fun z14 rz14 ez14 => ?_)
  replace ez14 := ez14 ⟨by omega, by omega⟩
  refine mj_T.pl (loc' := [some (.ref p0), some (.ref p1), some (.ref p2), some (.ref p3), some (.ref p4), some (.int (jn z14)), none]) rfl rfl rfl rfl ?_
  have t42_18 : ∀ (k19 : Nat) (x15 : Int) (w16 : Option Value) (h17 : mj_H), (-2147483648 ≤ x15 ∧ x15 ≤ 2147483647) → (jO K L R g n tm h17) → (x15 ≤ z14) → (x15 + 1 : Int).toNat = k19 → mj_T (D + 3) mj_m16 42 [some (.ref p0), some (.ref p1), some (.ref p2), some (.ref p3), some (.ref p4), some (.int (jn x15)), w16] [] h17 (jQ K L R g n tm [] (jVi 0 1)) := by
    refine jInd (fun k19 ih20 => ?_)
    intro x15 w16 h17 rx15 oh17 ix15 hm21
    refine mj_T.pl rfl rfl rfl rfl ?_
    refine jT.if0 rfl rx15 (fun c44 => ?_) (fun c44 => ?_)
    · have c44 := of_decide_eq_true c44
      refine mj_T.pl rfl rfl rfl rfl ?_
      refine jT.getR 11 113 13 ty oh17 rfl kp0 (by decide) rfl rfl rfl (fun k22 => ?_)
      refine mj_T.pl rfl rfl rfl rfl ?_
      refine jT.call rfl rfl (Nat.le_of_ble_eq_true rfl) (Nat.le_of_ble_eq_true rfl) (jrv_of oh17 k22 (by decide) rfl (by decide) rfl _) rfl (mj_Ok.up (Nat.add_le_add_left (by decide) D) (jc_44 (D := D) ty hg oh17 k22 kp3)) rfl rfl (fun v23 h24 qv23 oh24 => ?_)
      obtain ⟨z25, az25, bz25, rfl⟩ := qv23
      have rz25 : -2147483648 ≤ z25 ∧ z25 ≤ 2147483647 := ⟨by omega, by omega⟩
      refine mj_T.eq (pc2 := 167) (st2 := [.int (jn z25)]) ?_ rfl rfl rfl rfl
      refine jT.if0 rfl rz25 (fun c167 => ?_) (fun c167 => ?_)
      · have c167 := of_decide_eq_true c167
        refine mj_T.pl rfl rfl rfl rfl ?_
        exact jT.retb oh24 rfl rfl (by omega) (by omega)
      · have c167 := of_decide_eq_false c167
        refine mj_T.pl rfl rfl rfl rfl ?_
        refine jT.getR 11 113 13 ty oh24 rfl kp0 (by decide) rfl rfl rfl (fun k26 => ?_)
        refine mj_T.pl rfl rfl rfl rfl ?_
        refine jT.call rfl rfl (Nat.le_of_ble_eq_true rfl) (Nat.le_of_ble_eq_true rfl) (jrv_of oh24 k26 (by decide) rfl (by decide) rfl _) rfl (mj_Ok.up (Nat.add_le_add_left (by decide) D) (jc_44 (D := D) ty hg oh24 k26 kp4)) rfl rfl (fun v27 h28 qv27 oh28 => ?_)
        obtain ⟨z29, az29, bz29, rfl⟩ := qv27
        have rz29 : -2147483648 ≤ z29 ∧ z29 ≤ 2147483647 := ⟨by omega, by omega⟩
        refine mj_T.eq (pc2 := 179) (st2 := [.int (jn z29)]) ?_ rfl rfl rfl rfl
        refine jT.if0 rfl rz29 (fun c179 => ?_) (fun c179 => ?_)
        · have c179 := of_decide_eq_true c179
          refine mj_T.pl rfl rfl rfl rfl ?_
          exact jT.retb oh28 rfl rfl (by omega) (by omega)
        · have c179 := of_decide_eq_false c179
          iterate 2 refine mj_T.pl rfl rfl rfl rfl ?_
          exact jT.retb oh28 rfl rfl (by omega) (by omega)
    · have c44 := of_decide_eq_false c44
      iterate 2 refine mj_T.pl rfl rfl rfl rfl ?_
      refine jT.iadd rfl (fun z30 rz30 ez30 => ?_)
      replace ez30 := ez30 ⟨by omega, by omega⟩
      refine mj_T.pl (loc' := [some (.ref p0), some (.ref p1), some (.ref p2), some (.ref p3), some (.ref p4), some (.int (jn x15)), some (.int (jn z30))]) rfl rfl rfl rfl ?_
      have t53_33 : ∀ (k34 : Nat) (x31 : Int) (h32 : mj_H), (-2147483648 ≤ x31 ∧ x31 ≤ 2147483647) → (jO K L R g n tm h32) → (z30 ≤ x31) → (2147483647 - x31 : Int).toNat = k34 → mj_T (D + 3) mj_m16 53 [some (.ref p0), some (.ref p1), some (.ref p2), some (.ref p3), some (.ref p4), some (.int (jn x15)), some (.int (jn x31))] [] h32 (jQ K L R g n tm [] (jVi 0 1)) := by
        refine jInd (fun k34 ih35 => ?_)
        intro x31 h32 rx31 oh32 ix31 hm36
        refine mj_T.pl rfl rfl rfl rfl ?_
        refine mj_T.pl rfl rfl rfl rfl ?_
        refine jT.getR 11 113 13 ty oh32 rfl kp0 (by decide) rfl rfl rfl (fun k37 => ?_)
        refine jT.callp rfl rfl (Nat.le_of_ble_eq_true rfl) (Nat.le_of_ble_eq_true rfl) (jrv_of oh32 k37 (by decide) rfl (by decide) rfl _) rfl (mj_Ok.up (Nat.add_le_add_left (by decide) D) (jc_38 (D := D) ty hg oh32 k37)) rfl rfl (fun v38 qv38 => ?_)
        obtain ⟨z39, az39, bz39, rfl⟩ := qv38
        have rz39 : -2147483648 ≤ z39 ∧ z39 ≤ 2147483647 := ⟨by omega, by omega⟩
        refine mj_T.eq (pc2 := 62) (st2 := [.int (jn z39), .int (jn x31)]) ?_ rfl rfl rfl rfl
        refine jT.icmp rfl rx31 rz39 (fun c62 => ?_) (fun c62 => ?_)
        · have c62 := of_decide_eq_true c62
          refine mj_T.pl rfl rfl rfl rfl ?_
          refine jT.getR 11 113 13 ty oh32 rfl kp0 (by decide) rfl rfl rfl (fun k40 => ?_)
          refine mj_T.pl rfl rfl rfl rfl ?_
          refine jT.callp rfl rfl (Nat.le_of_ble_eq_true rfl) (Nat.le_of_ble_eq_true rfl) (jrv_of oh32 k40 (by decide) rfl (by decide) rfl _) rfl (mj_Ok.up (Nat.add_le_add_left (by decide) D) (jc_36 (D := D) ty hg oh32 k40 rx15)) rfl rfl (fun v41 qv41 => ?_)
          obtain ⟨a42, ka42, rfl⟩ := qv41
          refine mj_T.eq (pc2 := 119) (st2 := [.ref a42]) ?_ rfl rfl rfl rfl
          refine mj_T.pl rfl rfl rfl rfl ?_
          refine jT.getR 11 113 13 ty oh32 rfl kp0 (by decide) rfl rfl rfl (fun k43 => ?_)
          refine mj_T.pl rfl rfl rfl rfl ?_
          refine jT.getR 11 113 13 ty oh32 rfl kp0 (by decide) rfl rfl rfl (fun k44 => ?_)
          refine jT.getI 13 6 oh32 rfl k44 (by decide) rfl rfl rfl (fun z45 (az45 : (-1) ≤ z45) (bz45 : z45 ≤ 30) fz45 => ?_)
          have rz45 : -2147483648 ≤ z45 ∧ z45 ≤ 2147483647 := ⟨by omega, by omega⟩
          refine mj_T.pl rfl rfl rfl rfl ?_
          refine jT.iadd rfl (fun z46 rz46 ez46 => ?_)
          replace ez46 := ez46 ⟨by omega, by omega⟩
          refine jT.callp rfl rfl (Nat.le_of_ble_eq_true rfl) (Nat.le_of_ble_eq_true rfl) (jrv_of oh32 k43 (by decide) rfl (by decide) rfl _) rfl (mj_Ok.up (Nat.add_le_add_left (by decide) D) (jc_36 (D := D) ty hg oh32 k43 rz46)) rfl rfl (fun v47 qv47 => ?_)
          obtain ⟨a48, ka48, rfl⟩ := qv47
          refine mj_T.eq (pc2 := 136) (st2 := [.ref a48, .ref a42]) ?_ rfl rfl rfl rfl
          refine jT.call rfl rfl (Nat.le_of_ble_eq_true rfl) (Nat.le_of_ble_eq_true rfl) (jrv_of oh32 ka42 (by decide) rfl (by decide) rfl _) rfl (mj_Ok.up (Nat.add_le_add_left (by decide) D) (jc_87 (D := D) ty hg oh32 ka42 ka48)) rfl rfl (fun v49 h50 qv49 oh50 => ?_)
          obtain rfl : v49 = none := qv49
          refine mj_T.eq (pc2 := 139) (st2 := []) ?_ rfl rfl rfl rfl
          iterate 2 refine mj_T.pl rfl rfl rfl rfl ?_
          refine jT.getR 11 113 13 ty oh50 rfl kp0 (by decide) rfl rfl rfl (fun k51 => ?_)
          refine mj_T.pl rfl rfl rfl rfl ?_
          refine jT.getR 11 113 13 ty oh50 rfl kp0 (by decide) rfl rfl rfl (fun k52 => ?_)
          refine mj_T.pl rfl rfl rfl rfl ?_
          refine jT.call rfl rfl (Nat.le_of_ble_eq_true rfl) (Nat.le_of_ble_eq_true rfl) (jrv_of oh50 kp0 (by decide) rfl (by decide) rfl _) rfl (mj_Ok.up (Nat.add_le_add_left (by decide) D) (jc_17 (D := D) ty hg oh50 kp0 k51 k52 rx15)) rfl rfl (fun v53 h54 qv53 oh54 => ?_)
          obtain rfl : v53 = none := qv53
          refine mj_T.eq (pc2 := 153) (st2 := []) ?_ rfl rfl rfl rfl
          refine jT.iinc rfl rfl (fun z55 rz55 ez55 => ?_)
          replace ez55 := ez55 ⟨by omega, by omega⟩
          refine mj_T.eq (loc2 := [some (.ref p0), some (.ref p1), some (.ref p2), some (.ref p3), some (.ref p4), some (.int (jn z55)), some (.int (jn x31))]) ?_ rfl rfl rfl rfl
          refine mj_T.pl rfl rfl rfl rfl ?_
          exact ih20 ((z55 + 1 : Int).toNat) (by omega) z55 (some (.int (jn x31))) h54 rz55 oh54 (by omega) rfl
        · have c62 := of_decide_eq_false c62
          refine mj_T.pl rfl rfl rfl rfl ?_
          refine jT.getR 11 118 18 ty oh32 rfl kp0 (by decide) rfl rfl rfl (fun k56 => ?_)
          refine mj_T.pl rfl rfl rfl rfl ?_
          refine jT.getR 11 113 13 ty oh32 rfl kp0 (by decide) rfl rfl rfl (fun k57 => ?_)
          refine mj_T.pl rfl rfl rfl rfl ?_
          refine jT.callp rfl rfl (Nat.le_of_ble_eq_true rfl) (Nat.le_of_ble_eq_true rfl) (jrv_of oh32 k57 (by decide) rfl (by decide) rfl _) rfl (mj_Ok.up (Nat.add_le_add_left (by decide) D) (jc_36 (D := D) ty hg oh32 k57 rx31)) rfl rfl (fun v58 qv58 => ?_)
          obtain ⟨a59, ka59, rfl⟩ := qv58
          refine mj_T.eq (pc2 := 78) (st2 := [.ref a59, .ref (R p0 4)]) ?_ rfl rfl rfl rfl
          refine mj_T.pl rfl rfl rfl rfl ?_
          refine jT.getR 11 113 13 ty oh32 rfl kp0 (by decide) rfl rfl rfl (fun k60 => ?_)
          refine jT.callp rfl rfl (Nat.le_of_ble_eq_true rfl) (Nat.le_of_ble_eq_true rfl) (jrv_of oh32 k60 (by decide) rfl (by decide) rfl _) rfl (mj_Ok.up (Nat.add_le_add_left (by decide) D) (jc_37 (D := D) ty hg oh32 k60)) rfl rfl (fun v61 qv61 => ?_)
          obtain ⟨a62, ka62, rfl⟩ := qv61
          refine mj_T.eq (pc2 := 85) (st2 := [.ref a62, .ref a59, .ref (R p0 4)]) ?_ rfl rfl rfl rfl
          refine jT.call rfl rfl (Nat.le_of_ble_eq_true rfl) (Nat.le_of_ble_eq_true rfl) (jrv_of oh32 k56 (by decide) rfl (by decide) rfl _) rfl (mj_Ok.up (Nat.add_le_add_left (by decide) D) (jc_95 (D := D) ty hg oh32 k56 ka59 ka62)) rfl rfl (fun v63 h64 qv63 oh64 => ?_)
          obtain rfl : v63 = none := qv63
          refine mj_T.eq (pc2 := 88) (st2 := []) ?_ rfl rfl rfl rfl
          refine mj_T.pl rfl rfl rfl rfl ?_
          refine jT.getR 11 113 13 ty oh64 rfl kp0 (by decide) rfl rfl rfl (fun k65 => ?_)
          refine mj_T.pl rfl rfl rfl rfl ?_
          refine jT.callp rfl rfl (Nat.le_of_ble_eq_true rfl) (Nat.le_of_ble_eq_true rfl) (jrv_of oh64 k65 (by decide) rfl (by decide) rfl _) rfl (mj_Ok.up (Nat.add_le_add_left (by decide) D) (jc_36 (D := D) ty hg oh64 k65 rx31)) rfl rfl (fun v66 qv66 => ?_)
          obtain ⟨a67, ka67, rfl⟩ := qv66
          refine mj_T.eq (pc2 := 97) (st2 := [.ref a67]) ?_ rfl rfl rfl rfl
          refine mj_T.pl rfl rfl rfl rfl ?_
          refine jT.getR 11 118 18 ty oh64 rfl kp0 (by decide) rfl rfl rfl (fun k68 => ?_)
          refine jT.call rfl rfl (Nat.le_of_ble_eq_true rfl) (Nat.le_of_ble_eq_true rfl) (jrv_of oh64 ka67 (by decide) rfl (by decide) rfl _) rfl (mj_Ok.up (Nat.add_le_add_left (by decide) D) (jc_87 (D := D) ty hg oh64 ka67 k68)) rfl rfl (fun v69 h70 qv69 oh70 => ?_)
          obtain rfl : v69 = none := qv69
          refine mj_T.eq (pc2 := 104) (st2 := []) ?_ rfl rfl rfl rfl
          refine jT.iinc rfl rfl (fun z71 rz71 ez71 => ?_)
          replace ez71 := ez71 ⟨by omega, by omega⟩
          refine mj_T.eq (loc2 := [some (.ref p0), some (.ref p1), some (.ref p2), some (.ref p3), some (.ref p4), some (.int (jn x15)), some (.int (jn z71))]) ?_ rfl rfl rfl rfl
          refine mj_T.pl rfl rfl rfl rfl ?_
          exact ih35 ((2147483647 - z71 : Int).toNat) (by omega) z71 h70 rz71 oh70 (by omega) rfl
      exact t53_33 _ z30 h17 rz30 oh17 (by omega) rfl
  exact t42_18 _ z14 none h9 rz14 oh9 (by omega) rfl
/-! The class by kinds: its methods. -/
-- PolyRegisters$Desk.divideExactly(LPolyRegisters$Poly;LPolyRegisters$Poly;)Z
theorem jc_19 {D n : Nat} {tm : Int} {h g : mj_H} {K L : Nat → Nat} {R : Nat → Nat → Nat} {p0 : Nat} {p1 : Nat} {p2 : Nat} (ty : jTY K L R) (hg : g.length ≤ n) (o : jO K L R g n tm h) (kp0 : K p0 = 11) (kp1 : K p1 = 13) (kp2 : K p2 = 13) : mj_Ok (D + 3) 19 [.ref p0, .ref p1, .ref p2] h (jQ K L R g n tm [] (jVi 0 1)) := by
  refine mj_Ok.of (M := mj_m19) (loc := [some (.ref p0), some (.ref p1), some (.ref p2), none, none, none]) rfl rfl rfl ?_
  refine mj_T.pl rfl rfl rfl rfl ?_
  refine jT.call rfl rfl (Nat.le_of_ble_eq_true rfl) (Nat.le_of_ble_eq_true rfl) (jrv_of o kp2 (by decide) rfl (by decide) rfl _) rfl (mj_Ok.up (Nat.add_le_add_left (by decide) D) (jc_39 (D := D) ty hg o kp2)) rfl rfl (fun v1 h2 qv1 oh2 => ?_)
  obtain rfl : v1 = none := qv1
  refine mj_T.eq (pc2 := 4) (st2 := []) ?_ rfl rfl rfl rfl
  refine mj_T.pl rfl rfl rfl rfl ?_
  refine jT.getR 11 112 12 ty oh2 rfl kp0 (by decide) rfl rfl rfl (fun k3 => ?_)
  refine mj_T.pl rfl rfl rfl rfl ?_
  refine jT.callp rfl rfl (Nat.le_of_ble_eq_true rfl) (Nat.le_of_ble_eq_true rfl) (jrv_of oh2 kp1 (by decide) rfl (by decide) rfl _) rfl (mj_Ok.up (Nat.add_le_add_left (by decide) D) (jc_37 (D := D) ty hg oh2 kp1)) rfl rfl (fun v4 qv4 => ?_)
  obtain ⟨a5, ka5, rfl⟩ := qv4
  refine mj_T.eq (pc2 := 12) (st2 := [.ref a5, .ref (R p0 7)]) ?_ rfl rfl rfl rfl
  refine jT.call rfl rfl (Nat.le_of_ble_eq_true rfl) (Nat.le_of_ble_eq_true rfl) (jrv_of oh2 k3 (by decide) rfl (by decide) rfl _) rfl (mj_Ok.up (Nat.add_le_add_left (by decide) D) (jc_30 (D := D) ty hg oh2 k3 ka5)) rfl rfl (fun v6 h7 qv6 oh7 => ?_)
  obtain rfl : v6 = none := qv6
  refine mj_T.eq (pc2 := 15) (st2 := []) ?_ rfl rfl rfl rfl
  refine mj_T.pl rfl rfl rfl rfl ?_
  refine jT.getR 11 113 13 ty oh7 rfl kp0 (by decide) rfl rfl rfl (fun k8 => ?_)
  refine jT.getI 13 6 oh7 rfl k8 (by decide) rfl rfl rfl (fun z9 (az9 : (-1) ≤ z9) (bz9 : z9 ≤ 30) fz9 => ?_)
  have rz9 : -2147483648 ≤ z9 ∧ z9 ≤ 2147483647 := ⟨by omega, by omega⟩
  refine mj_T.pl rfl rfl rfl rfl ?_
  refine jT.getI 13 6 oh7 rfl kp1 (by decide) rfl rfl rfl (fun z10 (az10 : (-1) ≤ z10) (bz10 : z10 ≤ 30) fz10 => ?_)
  have rz10 : -2147483648 ≤ z10 ∧ z10 ≤ 2147483647 := ⟨by omega, by omega⟩
  refine jT.isub rfl (fun z11 rz11 ez11 => ?_)
  replace ez11 := ez11 ⟨by omega, by omega⟩
  refine mj_T.pl (loc' := [some (.ref p0), some (.ref p1), some (.ref p2), some (.int (jn z11)), none, none]) rfl rfl rfl rfl ?_
  have t28_16 : ∀ (k17 : Nat) (x12 : Int) (w13 : Option Value) (w14 : Option Value) (h15 : mj_H), (-2147483648 ≤ x12 ∧ x12 ≤ 2147483647) → (jO K L R g n tm h15) → (x12 ≤ z11) → (x12 + 1 : Int).toNat = k17 → mj_T (D + 2) mj_m19 28 [some (.ref p0), some (.ref p1), some (.ref p2), some (.int (jn x12)), w13, w14] [] h15 (jQ K L R g n tm [] (jVi 0 1)) := by
    refine jInd (fun k17 ih18 => ?_)
    intro x12 w13 w14 h15 rx12 oh15 ix12 hm19
    refine mj_T.pl rfl rfl rfl rfl ?_
    refine jT.if0 rfl rx12 (fun c29 => ?_) (fun c29 => ?_)
    · have c29 := of_decide_eq_true c29
      refine mj_T.pl rfl rfl rfl rfl ?_
      refine jT.call rfl rfl (Nat.le_of_ble_eq_true rfl) (Nat.le_of_ble_eq_true rfl) (jrv_of oh15 kp2 (by decide) rfl (by decide) rfl _) rfl (mj_Ok.up (Nat.add_le_add_left (by decide) D) (jc_42 (D := D) ty hg oh15 kp2)) rfl rfl (fun v20 h21 qv20 oh21 => ?_)
      obtain rfl : v20 = none := qv20
      refine mj_T.eq (pc2 := 146) (st2 := []) ?_ rfl rfl rfl rfl
      refine mj_T.pl rfl rfl rfl rfl ?_
      refine jT.getR 11 113 13 ty oh21 rfl kp0 (by decide) rfl rfl rfl (fun k22 => ?_)
      refine jT.call rfl rfl (Nat.le_of_ble_eq_true rfl) (Nat.le_of_ble_eq_true rfl) (jrv_of oh21 k22 (by decide) rfl (by decide) rfl _) rfl (mj_Ok.up (Nat.add_le_add_left (by decide) D) (jc_42 (D := D) ty hg oh21 k22)) rfl rfl (fun v23 h24 qv23 oh24 => ?_)
      obtain rfl : v23 = none := qv23
      refine mj_T.eq (pc2 := 153) (st2 := []) ?_ rfl rfl rfl rfl
      refine mj_T.pl rfl rfl rfl rfl ?_
      refine jT.getR 11 113 13 ty oh24 rfl kp0 (by decide) rfl rfl rfl (fun k25 => ?_)
      refine jT.getI 13 6 oh24 rfl k25 (by decide) rfl rfl rfl (fun z26 (az26 : (-1) ≤ z26) (bz26 : z26 ≤ 30) fz26 => ?_)
      have rz26 : -2147483648 ≤ z26 ∧ z26 ≤ 2147483647 := ⟨by omega, by omega⟩
      refine jT.if0 rfl rz26 (fun c160 => ?_) (fun c160 => ?_)
      · have c160 := of_decide_eq_true c160
        refine mj_T.pl rfl rfl rfl rfl ?_
        exact jT.retb oh24 rfl rfl (by omega) (by omega)
      · have c160 := of_decide_eq_false c160
        iterate 2 refine mj_T.pl rfl rfl rfl rfl ?_
        exact jT.retb oh24 rfl rfl (by omega) (by omega)
    · have c29 := of_decide_eq_false c29
      iterate 2 refine mj_T.pl rfl rfl rfl rfl ?_
      refine jT.callp rfl rfl (Nat.le_of_ble_eq_true rfl) (Nat.le_of_ble_eq_true rfl) (jrv_of oh15 kp2 (by decide) rfl (by decide) rfl _) rfl (mj_Ok.up (Nat.add_le_add_left (by decide) D) (jc_36 (D := D) ty hg oh15 kp2 rx12)) rfl rfl (fun v27 qv27 => ?_)
      obtain ⟨a28, ka28, rfl⟩ := qv27
      refine mj_T.eq (pc2 := 37) (st2 := [.ref a28]) ?_ rfl rfl rfl rfl
      refine mj_T.pl (loc' := [some (.ref p0), some (.ref p1), some (.ref p2), some (.int (jn x12)), some (.ref a28), w14]) rfl rfl rfl rfl ?_
      refine mj_T.pl rfl rfl rfl rfl ?_
      refine jT.getR 11 118 18 ty oh15 rfl kp0 (by decide) rfl rfl rfl (fun k29 => ?_)
      refine mj_T.pl rfl rfl rfl rfl ?_
      refine jT.getR 11 113 13 ty oh15 rfl kp0 (by decide) rfl rfl rfl (fun k30 => ?_)
      refine mj_T.pl rfl rfl rfl rfl ?_
      refine jT.getI 13 6 oh15 rfl kp1 (by decide) rfl rfl rfl (fun z31 (az31 : (-1) ≤ z31) (bz31 : z31 ≤ 30) fz31 => ?_)
      have rz31 : -2147483648 ≤ z31 ∧ z31 ≤ 2147483647 := ⟨by omega, by omega⟩
      refine mj_T.pl rfl rfl rfl rfl ?_
      refine jT.iadd rfl (fun z32 rz32 ez32 => ?_)
      replace ez32 := ez32 ⟨by omega, by omega⟩
      refine jT.callp rfl rfl (Nat.le_of_ble_eq_true rfl) (Nat.le_of_ble_eq_true rfl) (jrv_of oh15 k30 (by decide) rfl (by decide) rfl _) rfl (mj_Ok.up (Nat.add_le_add_left (by decide) D) (jc_36 (D := D) ty hg oh15 k30 rz32)) rfl rfl (fun v33 qv33 => ?_)
      obtain ⟨a34, ka34, rfl⟩ := qv33
      refine mj_T.eq (pc2 := 56) (st2 := [.ref a34, .ref (R p0 4)]) ?_ rfl rfl rfl rfl
      refine jT.call rfl rfl (Nat.le_of_ble_eq_true rfl) (Nat.le_of_ble_eq_true rfl) (jrv_of oh15 k29 (by decide) rfl (by decide) rfl _) rfl (mj_Ok.up (Nat.add_le_add_left (by decide) D) (jc_87 (D := D) ty hg oh15 k29 ka34)) rfl rfl (fun v35 h36 qv35 oh36 => ?_)
      obtain rfl : v35 = none := qv35
      refine mj_T.eq (pc2 := 59) (st2 := []) ?_ rfl rfl rfl rfl
      refine mj_T.pl rfl rfl rfl rfl ?_
      refine jT.getR 11 112 12 ty oh36 rfl kp0 (by decide) rfl rfl rfl (fun k37 => ?_)
      refine mj_T.pl rfl rfl rfl rfl ?_
      refine jT.getR 11 118 18 ty oh36 rfl kp0 (by decide) rfl rfl rfl (fun k38 => ?_)
      refine mj_T.pl rfl rfl rfl rfl ?_
      refine jT.call rfl rfl (Nat.le_of_ble_eq_true rfl) (Nat.le_of_ble_eq_true rfl) (jrv_of oh36 k37 (by decide) rfl (by decide) rfl _) rfl (mj_Ok.up (Nat.add_le_add_left (by decide) D) (jc_31 (D := D) ty hg oh36 k37 k38 ka28)) rfl rfl (fun v39 h40 qv39 oh40 => ?_)
      obtain rfl : v39 = none := qv39
      refine mj_T.eq (pc2 := 72) (st2 := []) ?_ rfl rfl rfl rfl
      refine mj_T.pl rfl rfl rfl rfl ?_
      refine jT.getR 11 118 18 ty oh40 rfl kp0 (by decide) rfl rfl rfl (fun k41 => ?_)
      refine jT.getI 18 0 oh40 rfl k41 (by decide) rfl rfl rfl (fun z42 (az42 : (-2147483648) ≤ z42) (bz42 : z42 ≤ 2147483647) fz42 => ?_)
      have rz42 : -2147483648 ≤ z42 ∧ z42 ≤ 2147483647 := ⟨by omega, by omega⟩
      refine jT.if0 rfl rz42 (fun c79 => ?_) (fun c79 => ?_)
      · have c79 := of_decide_eq_true c79
        refine mj_T.pl rfl rfl rfl rfl ?_
        refine mj_T.pl (loc' := [some (.ref p0), some (.ref p1), some (.ref p2), some (.int (jn x12)), some (.ref a28), some (.int (jn 0))]) rfl rfl rfl rfl ?_
        have t87_45 : ∀ (k46 : Nat) (x43 : Int) (h44 : mj_H), (-2147483648 ≤ x43 ∧ x43 ≤ 2147483647) → (jO K L R g n tm h44) → (0 ≤ x43) → (2147483647 - x43 : Int).toNat = k46 → mj_T (D + 2) mj_m19 87 [some (.ref p0), some (.ref p1), some (.ref p2), some (.int (jn x12)), some (.ref a28), some (.int (jn x43))] [] h44 (jQ K L R g n tm [] (jVi 0 1)) := by
          refine jInd (fun k46 ih47 => ?_)
          intro x43 h44 rx43 oh44 ix43 hm48
          refine mj_T.pl rfl rfl rfl rfl ?_
          refine mj_T.pl rfl rfl rfl rfl ?_
          refine jT.getI 13 6 oh44 rfl kp1 (by decide) rfl rfl rfl (fun z49 (az49 : (-1) ≤ z49) (bz49 : z49 ≤ 30) fz49 => ?_)
          have rz49 : -2147483648 ≤ z49 ∧ z49 ≤ 2147483647 := ⟨by omega, by omega⟩
          refine jT.icmp rfl rx43 rz49 (fun c93 => ?_) (fun c93 => ?_)
          · have c93 := of_decide_eq_true c93
            refine jT.iinc rfl rfl (fun z50 rz50 ez50 => ?_)
            replace ez50 := ez50 ⟨by omega, by omega⟩
            refine mj_T.eq (loc2 := [some (.ref p0), some (.ref p1), some (.ref p2), some (.int (jn z50)), some (.ref a28), some (.int (jn x43))]) ?_ rfl rfl rfl rfl
            refine mj_T.pl rfl rfl rfl rfl ?_
            exact ih18 ((z50 + 1 : Int).toNat) (by omega) z50 (some (.ref a28)) (some (.int (jn x43))) h44 rz50 oh44 (by omega) rfl
          · have c93 := of_decide_eq_false c93
            refine mj_T.pl rfl rfl rfl rfl ?_
            refine jT.getR 11 118 18 ty oh44 rfl kp0 (by decide) rfl rfl rfl (fun k51 => ?_)
            iterate 3 refine mj_T.pl rfl rfl rfl rfl ?_
            refine jT.callp rfl rfl (Nat.le_of_ble_eq_true rfl) (Nat.le_of_ble_eq_true rfl) (jrv_of oh44 kp1 (by decide) rfl (by decide) rfl _) rfl (mj_Ok.up (Nat.add_le_add_left (by decide) D) (jc_36 (D := D) ty hg oh44 kp1 rx43)) rfl rfl (fun v52 qv52 => ?_)
            obtain ⟨a53, ka53, rfl⟩ := qv52
            refine mj_T.eq (pc2 := 108) (st2 := [.ref a53, .ref a28, .ref (R p0 5)]) ?_ rfl rfl rfl rfl
            refine jT.call rfl rfl (Nat.le_of_ble_eq_true rfl) (Nat.le_of_ble_eq_true rfl) (jrv_of oh44 k51 (by decide) rfl (by decide) rfl _) rfl (mj_Ok.up (Nat.add_le_add_left (by decide) D) (jc_95 (D := D) ty hg oh44 k51 ka28 ka53)) rfl rfl (fun v54 h55 qv54 oh55 => ?_)
            obtain rfl : v54 = none := qv54
            refine mj_T.eq (pc2 := 111) (st2 := []) ?_ rfl rfl rfl rfl
            refine mj_T.pl rfl rfl rfl rfl ?_
            refine jT.getR 11 113 13 ty oh55 rfl kp0 (by decide) rfl rfl rfl (fun k56 => ?_)
            iterate 2 refine mj_T.pl rfl rfl rfl rfl ?_
            refine jT.iadd rfl (fun z57 rz57 ez57 => ?_)
            replace ez57 := ez57 ⟨by omega, by omega⟩
            refine jT.callp rfl rfl (Nat.le_of_ble_eq_true rfl) (Nat.le_of_ble_eq_true rfl) (jrv_of oh55 k56 (by decide) rfl (by decide) rfl _) rfl (mj_Ok.up (Nat.add_le_add_left (by decide) D) (jc_36 (D := D) ty hg oh55 k56 rz57)) rfl rfl (fun v58 qv58 => ?_)
            obtain ⟨a59, ka59, rfl⟩ := qv58
            refine mj_T.eq (pc2 := 122) (st2 := [.ref a59]) ?_ rfl rfl rfl rfl
            refine mj_T.pl rfl rfl rfl rfl ?_
            refine jT.getR 11 118 18 ty oh55 rfl kp0 (by decide) rfl rfl rfl (fun k60 => ?_)
            refine mj_T.pl rfl rfl rfl rfl ?_
            refine jT.call rfl rfl (Nat.le_of_ble_eq_true rfl) (Nat.le_of_ble_eq_true rfl) (jrv_of oh55 ka59 (by decide) rfl (by decide) rfl _) rfl (mj_Ok.up (Nat.add_le_add_left (by decide) D) (jc_91 (D := D) ty hg oh55 ka59 k60 ⟨by decide, by decide⟩)) rfl rfl (fun v61 h62 qv61 oh62 => ?_)
            obtain rfl : v61 = none := qv61
            refine mj_T.eq (pc2 := 130) (st2 := []) ?_ rfl rfl rfl rfl
            refine jT.iinc rfl rfl (fun z63 rz63 ez63 => ?_)
            replace ez63 := ez63 ⟨by omega, by omega⟩
            refine mj_T.eq (loc2 := [some (.ref p0), some (.ref p1), some (.ref p2), some (.int (jn x12)), some (.ref a28), some (.int (jn z63))]) ?_ rfl rfl rfl rfl
            refine mj_T.pl rfl rfl rfl rfl ?_
            exact ih47 ((2147483647 - z63 : Int).toNat) (by omega) z63 h62 rz63 oh62 (by omega) rfl
        exact t87_45 _ 0 h40 ⟨by decide, by decide⟩ oh40 (by omega) rfl
      · have c79 := of_decide_eq_false c79
        refine mj_T.pl rfl rfl rfl rfl ?_
        exact jT.retb oh40 rfl rfl (by omega) (by omega)
  exact t28_16 _ z11 none none h7 rz11 oh7 (by omega) rfl
-- PolyRegisters$Desk.isDivided([J[J)Z
theorem jc_18 {D n : Nat} {tm : Int} {h g : mj_H} {K L : Nat → Nat} {R : Nat → Nat → Nat} {p0 : Nat} {p1 : Nat} {p2 : Nat} (ty : jTY K L R) (hg : g.length ≤ n) (o : jO K L R g n tm h) (kp0 : K p0 = 11) (kp1 : K p1 = 2) (kp2 : K p2 = 2) : mj_Ok (D + 4) 18 [.ref p0, .ref p1, .ref p2] h (jQ K L R g n tm [] (jVi 0 1)) := by
  refine mj_Ok.of (M := mj_m18) (loc := [some (.ref p0), some (.ref p1), some (.ref p2)]) rfl rfl rfl ?_
  refine mj_T.pl rfl rfl rfl rfl ?_
  refine jT.getR 11 113 13 ty o rfl kp0 (by decide) rfl rfl rfl (fun k1 => ?_)
  refine mj_T.pl rfl rfl rfl rfl ?_
  refine jT.lc 1 rfl rfl ?_
  refine jT.call rfl rfl (Nat.le_of_ble_eq_true rfl) (Nat.le_of_ble_eq_true rfl) (jrv_of o k1 (by decide) rfl (by decide) rfl _) rfl (mj_Ok.up (Nat.add_le_add_left (by decide) D) (jc_40 (D := D) ty hg o k1 kp1 ⟨by decide, by decide⟩)) rfl rfl (fun v2 h3 qv2 oh3 => ?_)
  obtain rfl : v2 = none := qv2
  refine mj_T.eq (pc2 := 9) (st2 := []) ?_ rfl rfl rfl rfl
  refine mj_T.pl rfl rfl rfl rfl ?_
  refine jT.getR 11 113 13 ty oh3 rfl kp0 (by decide) rfl rfl rfl (fun k4 => ?_)
  refine mj_T.pl rfl rfl rfl rfl ?_
  refine jT.lc 1 rfl rfl ?_
  refine jT.call rfl rfl (Nat.le_of_ble_eq_true rfl) (Nat.le_of_ble_eq_true rfl) (jrv_of oh3 k4 (by decide) rfl (by decide) rfl _) rfl (mj_Ok.up (Nat.add_le_add_left (by decide) D) (jc_40 (D := D) ty hg oh3 k4 kp2 ⟨by decide, by decide⟩)) rfl rfl (fun v5 h6 qv5 oh6 => ?_)
  obtain rfl : v5 = none := qv5
  refine mj_T.eq (pc2 := 18) (st2 := []) ?_ rfl rfl rfl rfl
  refine mj_T.pl rfl rfl rfl rfl ?_
  refine jT.getR 11 113 13 ty oh6 rfl kp0 (by decide) rfl rfl rfl (fun k7 => ?_)
  refine jT.getI 13 6 oh6 rfl k7 (by decide) rfl rfl rfl (fun z8 (az8 : (-1) ≤ z8) (bz8 : z8 ≤ 30) fz8 => ?_)
  have rz8 : -2147483648 ≤ z8 ∧ z8 ≤ 2147483647 := ⟨by omega, by omega⟩
  refine mj_T.pl rfl rfl rfl rfl ?_
  refine jT.getR 11 113 13 ty oh6 rfl kp0 (by decide) rfl rfl rfl (fun k9 => ?_)
  refine jT.getI 13 6 oh6 rfl k9 (by decide) rfl rfl rfl (fun z10 (az10 : (-1) ≤ z10) (bz10 : z10 ≤ 30) fz10 => ?_)
  have rz10 : -2147483648 ≤ z10 ∧ z10 ≤ 2147483647 := ⟨by omega, by omega⟩
  have t45_11 : mj_T (D + 3) mj_m18 45 [some (.ref p0), some (.ref p1), some (.ref p2)] [] h6 (jQ K L R g n tm [] (jVi 0 1)) := by
    refine mj_T.pl rfl rfl rfl rfl ?_
    refine jT.getR 11 113 13 ty oh6 rfl kp0 (by decide) rfl rfl rfl (fun k12 => ?_)
    refine jT.getK 13 6 oh6 rfl k12 (by decide) rfl rfl rfl fz8.symm ?_
    refine jT.if0 rfl rz8 (fun c52 => ?_) (fun c52 => ?_)
    · have c52 := of_decide_eq_true c52
      refine mj_T.pl rfl rfl rfl rfl ?_
      exact jT.retb oh6 rfl rfl (by omega) (by omega)
    · have c52 := of_decide_eq_false c52
      iterate 2 refine mj_T.pl rfl rfl rfl rfl ?_
      exact jT.retb oh6 rfl rfl (by omega) (by omega)
  refine jT.icmp rfl rz8 rz10 (fun c32 => ?_) (fun c32 => ?_)
  · have c32 := of_decide_eq_true c32
    exact t45_11 
  · have c32 := of_decide_eq_false c32
    refine mj_T.pl rfl rfl rfl rfl ?_
    refine jT.getR 11 113 13 ty oh6 rfl kp0 (by decide) rfl rfl rfl (fun k13 => ?_)
    refine jT.getK 13 6 oh6 rfl k13 (by decide) rfl rfl rfl fz10.symm ?_
    refine jT.if0 rfl rz10 (fun c42 => ?_) (fun c42 => ?_)
    · have c42 := of_decide_eq_true c42
      iterate 2 refine mj_T.pl rfl rfl rfl rfl ?_
      refine jT.getR 11 113 13 ty oh6 rfl kp0 (by decide) rfl rfl rfl (fun k14 => ?_)
      refine mj_T.pl rfl rfl rfl rfl ?_
      refine jT.getR 11 113 13 ty oh6 rfl kp0 (by decide) rfl rfl rfl (fun k15 => ?_)
      refine jT.call rfl rfl (Nat.le_of_ble_eq_true rfl) (Nat.le_of_ble_eq_true rfl) (jrv_of oh6 kp0 (by decide) rfl (by decide) rfl _) rfl (mj_Ok.up (Nat.add_le_add_left (by decide) D) (jc_19 (D := D) ty hg oh6 kp0 k14 k15)) rfl rfl (fun v16 h17 qv16 oh17 => ?_)
      obtain ⟨z18, az18, bz18, rfl⟩ := qv16
      have rz18 : -2147483648 ≤ z18 ∧ z18 ≤ 2147483647 := ⟨by omega, by omega⟩
      refine mj_T.eq (pc2 := 73) (st2 := [.int (jn z18)]) ?_ rfl rfl rfl rfl
      exact jT.retb oh17 rfl rfl (by omega) (by omega)
    · have c42 := of_decide_eq_false c42
      exact t45_11 
-- PolyRegisters$Desk.divideParts(LPolyRegisters$Poly;LPolyRegisters$Wide;I)V
theorem jc_20 {D n : Nat} {tm : Int} {h g : mj_H} {K L : Nat → Nat} {R : Nat → Nat → Nat} {p0 : Nat} {p1 : Nat} {p2 : Nat} {p3 : Int} (ty : jTY K L R) (hg : g.length ≤ n) (o : jO K L R g n tm h) (kp0 : K p0 = 11) (kp1 : K p1 = 13) (kp2 : K p2 = 18) (rp3 : -2147483648 ≤ p3 ∧ p3 ≤ 2147483647) : mj_Ok (D + 3) 20 [.ref p0, .ref p1, .ref p2, .int (jn p3)] h (jQ K L R g n tm [] jV0) := by
  refine mj_Ok.of (M := mj_m20) (loc := [some (.ref p0), some (.ref p1), some (.ref p2), some (.int (jn p3)), none, none, none]) rfl rfl rfl ?_
  refine mj_T.pl rfl rfl rfl rfl ?_
  refine jT.getR 11 112 12 ty o rfl kp0 (by decide) rfl rfl rfl (fun k1 => ?_)
  refine mj_T.pl rfl rfl rfl rfl ?_
  refine jT.call rfl rfl (Nat.le_of_ble_eq_true rfl) (Nat.le_of_ble_eq_true rfl) (jrv_of o k1 (by decide) rfl (by decide) rfl _) rfl (mj_Ok.up (Nat.add_le_add_left (by decide) D) (jc_30 (D := D) ty hg o k1 kp2)) rfl rfl (fun v2 h3 qv2 oh3 => ?_)
  obtain rfl : v2 = none := qv2
  refine mj_T.eq (pc2 := 8) (st2 := []) ?_ rfl rfl rfl rfl
  refine mj_T.pl rfl rfl rfl rfl ?_
  refine mj_T.pl (loc' := [some (.ref p0), some (.ref p1), some (.ref p2), some (.int (jn p3)), some (.int (jn 0)), none, none]) rfl rfl rfl rfl ?_
  have t11_8 : ∀ (k9 : Nat) (x4 : Int) (w5 : Option Value) (w6 : Option Value) (h7 : mj_H), (-2147483648 ≤ x4 ∧ x4 ≤ 2147483647) → (jO K L R g n tm h7) → (0 ≤ x4) → (2147483647 - x4 : Int).toNat = k9 → mj_T (D + 2) mj_m20 11 [some (.ref p0), some (.ref p1), some (.ref p2), some (.int (jn p3)), some (.int (jn x4)), w5, w6] [] h7 (jQ K L R g n tm [] jV0) := by
    refine jInd (fun k9 ih10 => ?_)
    intro x4 w5 w6 h7 rx4 oh7 ix4 hm11
    refine mj_T.pl rfl rfl rfl rfl ?_
    refine mj_T.pl rfl rfl rfl rfl ?_
    refine jT.getI 13 6 oh7 rfl kp1 (by decide) rfl rfl rfl (fun z12 (az12 : (-1) ≤ z12) (bz12 : z12 ≤ 30) fz12 => ?_)
    have rz12 : -2147483648 ≤ z12 ∧ z12 ≤ 2147483647 := ⟨by omega, by omega⟩
    refine jT.icmp rfl rx4 rz12 (fun c17 => ?_) (fun c17 => ?_)
    · have c17 := of_decide_eq_true c17
      exact jT.ret oh7 rfl rfl rfl rfl
    · have c17 := of_decide_eq_false c17
      iterate 2 refine mj_T.pl rfl rfl rfl rfl ?_
      refine jT.callp rfl rfl (Nat.le_of_ble_eq_true rfl) (Nat.le_of_ble_eq_true rfl) (jrv_of oh7 kp1 (by decide) rfl (by decide) rfl _) rfl (mj_Ok.up (Nat.add_le_add_left (by decide) D) (jc_36 (D := D) ty hg oh7 kp1 rx4)) rfl rfl (fun v13 qv13 => ?_)
      obtain ⟨a14, ka14, rfl⟩ := qv13
      refine mj_T.eq (pc2 := 26) (st2 := [.ref a14]) ?_ rfl rfl rfl rfl
      refine mj_T.pl (loc' := [some (.ref p0), some (.ref p1), some (.ref p2), some (.int (jn p3)), some (.int (jn x4)), some (.ref a14), w6]) rfl rfl rfl rfl ?_
      refine mj_T.pl rfl rfl rfl rfl ?_
      refine mj_T.pl (loc' := [some (.ref p0), some (.ref p1), some (.ref p2), some (.int (jn p3)), some (.int (jn x4)), some (.ref a14), some (.int (jn 0))]) rfl rfl rfl rfl ?_
      have t31_17 : ∀ (k18 : Nat) (x15 : Int) (h16 : mj_H), (-2147483648 ≤ x15 ∧ x15 ≤ 2147483647) → (jO K L R g n tm h16) → (0 ≤ x15) → (2147483647 - x15 : Int).toNat = k18 → mj_T (D + 2) mj_m20 31 [some (.ref p0), some (.ref p1), some (.ref p2), some (.int (jn p3)), some (.int (jn x4)), some (.ref a14), some (.int (jn x15))] [] h16 (jQ K L R g n tm [] jV0) := by
        refine jInd (fun k18 ih19 => ?_)
        intro x15 h16 rx15 oh16 ix15 hm20
        refine mj_T.pl rfl rfl rfl rfl ?_
        refine mj_T.pl rfl rfl rfl rfl ?_
        refine jT.icmp rfl rx15 rp3 (fun c34 => ?_) (fun c34 => ?_)
        · have c34 := of_decide_eq_true c34
          refine jT.iinc rfl rfl (fun z21 rz21 ez21 => ?_)
          replace ez21 := ez21 ⟨by omega, by omega⟩
          refine mj_T.eq (loc2 := [some (.ref p0), some (.ref p1), some (.ref p2), some (.int (jn p3)), some (.int (jn z21)), some (.ref a14), some (.int (jn x15))]) ?_ rfl rfl rfl rfl
          refine mj_T.pl rfl rfl rfl rfl ?_
          exact ih10 ((2147483647 - z21 : Int).toNat) (by omega) z21 (some (.ref a14)) (some (.int (jn x15))) h16 rz21 oh16 (by omega) rfl
        · have c34 := of_decide_eq_false c34
          refine mj_T.pl rfl rfl rfl rfl ?_
          refine jT.getR 11 112 12 ty oh16 rfl kp0 (by decide) rfl rfl rfl (fun k22 => ?_)
          iterate 2 refine mj_T.pl rfl rfl rfl rfl ?_
          refine jT.getR 11 118 18 ty oh16 rfl kp0 (by decide) rfl rfl rfl (fun k23 => ?_)
          refine jT.call rfl rfl (Nat.le_of_ble_eq_true rfl) (Nat.le_of_ble_eq_true rfl) (jrv_of oh16 k22 (by decide) rfl (by decide) rfl _) rfl (mj_Ok.up (Nat.add_le_add_left (by decide) D) (jc_31 (D := D) ty hg oh16 k22 ka14 k23)) rfl rfl (fun v24 h25 qv24 oh25 => ?_)
          obtain rfl : v24 = none := qv24
          refine mj_T.eq (pc2 := 50) (st2 := []) ?_ rfl rfl rfl rfl
          iterate 2 refine mj_T.pl rfl rfl rfl rfl ?_
          refine jT.getR 11 118 18 ty oh25 rfl kp0 (by decide) rfl rfl rfl (fun k26 => ?_)
          refine jT.call rfl rfl (Nat.le_of_ble_eq_true rfl) (Nat.le_of_ble_eq_true rfl) (jrv_of oh25 ka14 (by decide) rfl (by decide) rfl _) rfl (mj_Ok.up (Nat.add_le_add_left (by decide) D) (jc_87 (D := D) ty hg oh25 ka14 k26)) rfl rfl (fun v27 h28 qv27 oh28 => ?_)
          obtain rfl : v27 = none := qv27
          refine mj_T.eq (pc2 := 59) (st2 := []) ?_ rfl rfl rfl rfl
          refine jT.iinc rfl rfl (fun z29 rz29 ez29 => ?_)
          replace ez29 := ez29 ⟨by omega, by omega⟩
          refine mj_T.eq (loc2 := [some (.ref p0), some (.ref p1), some (.ref p2), some (.int (jn p3)), some (.int (jn x4)), some (.ref a14), some (.int (jn z29))]) ?_ rfl rfl rfl rfl
          refine mj_T.pl rfl rfl rfl rfl ?_
          exact ih19 ((2147483647 - z29 : Int).toNat) (by omega) z29 h28 rz29 oh28 (by omega) rfl
      exact t31_17 _ 0 h7 ⟨by decide, by decide⟩ oh7 (by omega) rfl
  exact t11_8 _ 0 none none h3 ⟨by decide, by decide⟩ oh3 (by omega) rfl
-- PolyRegisters$Desk.gather(J[J)V
theorem jc_21 {D n : Nat} {tm : Int} {h g : mj_H} {K L : Nat → Nat} {R : Nat → Nat → Nat} {p0 : Nat} {p1 : Int} {p2 : Nat} (ty : jTY K L R) (hg : g.length ≤ n) (o : jO K L R g n tm h) (kp0 : K p0 = 11) (jp1 : jR p1) (kp2 : K p2 = 2) : mj_Ok (D + 3) 21 [.ref p0, .long (jl p1), .ref p2] h (jQ K L R g n tm [] jV0) := by
  refine mj_Ok.of (M := mj_m21) (loc := [some (.ref p0), some (.long (jl p1)), none, some (.ref p2), none]) rfl rfl rfl ?_
  refine mj_T.pl rfl rfl rfl rfl ?_
  refine jT.getR 11 118 18 ty o rfl kp0 (by decide) rfl rfl rfl (fun k1 => ?_)
  refine mj_T.pl rfl rfl rfl rfl ?_
  refine jT.call rfl rfl (Nat.le_of_ble_eq_true rfl) (Nat.le_of_ble_eq_true rfl) (jrv_of o k1 (by decide) rfl (by decide) rfl _) rfl (mj_Ok.up (Nat.add_le_add_left (by decide) D) (jc_86 (D := D) ty hg o k1 jp1)) rfl rfl (fun v2 h3 qv2 oh3 => ?_)
  obtain rfl : v2 = none := qv2
  refine mj_T.eq (pc2 := 8) (st2 := []) ?_ rfl rfl rfl rfl
  refine mj_T.pl rfl rfl rfl rfl ?_
  refine mj_T.pl (loc' := [some (.ref p0), some (.long (jl p1)), none, some (.ref p2), some (.int (jn 0))]) rfl rfl rfl rfl ?_
  have t11_6 : ∀ (k7 : Nat) (x4 : Int) (h5 : mj_H), (-2147483648 ≤ x4 ∧ x4 ≤ 2147483647) → (jO K L R g n tm h5) → (0 ≤ x4) → (2147483647 - x4 : Int).toNat = k7 → mj_T (D + 2) mj_m21 11 [some (.ref p0), some (.long (jl p1)), none, some (.ref p2), some (.int (jn x4))] [] h5 (jQ K L R g n tm [] jV0) := by
    refine jInd (fun k7 ih8 => ?_)
    intro x4 h5 rx4 oh5 ix4 hm9
    refine mj_T.pl rfl rfl rfl rfl ?_
    refine mj_T.pl rfl rfl rfl rfl ?_
    refine jT.alen 2 ty oh5 rfl kp2 (by decide) (by decide) (fun z10 ez10 (az10 : 13 ≤ z10) (bz10 : z10 ≤ 13) => ?_)
    have rz10 : -2147483648 ≤ z10 ∧ z10 ≤ 2147483647 := ⟨by omega, by omega⟩
    refine jT.icmp rfl rx4 rz10 (fun c15 => ?_) (fun c15 => ?_)
    · have c15 := of_decide_eq_true c15
      refine mj_T.pl rfl rfl rfl rfl ?_
      refine jT.getR 11 113 13 ty oh5 rfl kp0 (by decide) rfl rfl rfl (fun k11 => ?_)
      refine jT.call rfl rfl (Nat.le_of_ble_eq_true rfl) (Nat.le_of_ble_eq_true rfl) (jrv_of oh5 k11 (by decide) rfl (by decide) rfl _) rfl (mj_Ok.up (Nat.add_le_add_left (by decide) D) (jc_42 (D := D) ty hg oh5 k11)) rfl rfl (fun v12 h13 qv12 oh13 => ?_)
      obtain rfl : v12 = none := qv12
      refine mj_T.eq (pc2 := 74) (st2 := []) ?_ rfl rfl rfl rfl
      exact jT.ret oh13 rfl rfl rfl rfl
    · have c15 := of_decide_eq_false c15
      refine mj_T.pl rfl rfl rfl rfl ?_
      refine jT.getR 11 118 18 ty oh5 rfl kp0 (by decide) rfl rfl rfl (fun k14 => ?_)
      iterate 2 refine mj_T.pl rfl rfl rfl rfl ?_
      refine jT.lald oh5 rfl kp2 rx4 ⟨by omega, by omega⟩ (fun z15 jz15 => ?_)
      refine jT.call rfl rfl (Nat.le_of_ble_eq_true rfl) (Nat.le_of_ble_eq_true rfl) (jrv_of oh5 k14 (by decide) rfl (by decide) rfl _) rfl (mj_Ok.up (Nat.add_le_add_left (by decide) D) (jc_86 (D := D) ty hg oh5 k14 jz15)) rfl rfl (fun v16 h17 qv16 oh17 => ?_)
      obtain rfl : v16 = none := qv16
      refine mj_T.eq (pc2 := 29) (st2 := []) ?_ rfl rfl rfl rfl
      refine mj_T.pl rfl rfl rfl rfl ?_
      refine jT.getR 11 118 18 ty oh17 rfl kp0 (by decide) rfl rfl rfl (fun k18 => ?_)
      refine mj_T.pl rfl rfl rfl rfl ?_
      refine jT.getR 11 118 18 ty oh17 rfl kp0 (by decide) rfl rfl rfl (fun k19 => ?_)
      refine mj_T.pl rfl rfl rfl rfl ?_
      refine jT.getR 11 118 18 ty oh17 rfl kp0 (by decide) rfl rfl rfl (fun k20 => ?_)
      refine jT.call rfl rfl (Nat.le_of_ble_eq_true rfl) (Nat.le_of_ble_eq_true rfl) (jrv_of oh17 k18 (by decide) rfl (by decide) rfl _) rfl (mj_Ok.up (Nat.add_le_add_left (by decide) D) (jc_95 (D := D) ty hg oh17 k18 k19 k20)) rfl rfl (fun v21 h22 qv21 oh22 => ?_)
      obtain rfl : v21 = none := qv21
      refine mj_T.eq (pc2 := 44) (st2 := []) ?_ rfl rfl rfl rfl
      refine mj_T.pl rfl rfl rfl rfl ?_
      refine jT.getR 11 113 13 ty oh22 rfl kp0 (by decide) rfl rfl rfl (fun k23 => ?_)
      refine mj_T.pl rfl rfl rfl rfl ?_
      refine jT.callp rfl rfl (Nat.le_of_ble_eq_true rfl) (Nat.le_of_ble_eq_true rfl) (jrv_of oh22 k23 (by decide) rfl (by decide) rfl _) rfl (mj_Ok.up (Nat.add_le_add_left (by decide) D) (jc_36 (D := D) ty hg oh22 k23 rx4)) rfl rfl (fun v24 qv24 => ?_)
      obtain ⟨a25, ka25, rfl⟩ := qv24
      refine mj_T.eq (pc2 := 53) (st2 := [.ref a25]) ?_ rfl rfl rfl rfl
      refine mj_T.pl rfl rfl rfl rfl ?_
      refine jT.getR 11 118 18 ty oh22 rfl kp0 (by decide) rfl rfl rfl (fun k26 => ?_)
      refine mj_T.pl rfl rfl rfl rfl ?_
      refine jT.call rfl rfl (Nat.le_of_ble_eq_true rfl) (Nat.le_of_ble_eq_true rfl) (jrv_of oh22 ka25 (by decide) rfl (by decide) rfl _) rfl (mj_Ok.up (Nat.add_le_add_left (by decide) D) (jc_91 (D := D) ty hg oh22 ka25 k26 ⟨by decide, by decide⟩)) rfl rfl (fun v27 h28 qv27 oh28 => ?_)
      obtain rfl : v27 = none := qv27
      refine mj_T.eq (pc2 := 61) (st2 := []) ?_ rfl rfl rfl rfl
      refine jT.iinc rfl rfl (fun z29 rz29 ez29 => ?_)
      replace ez29 := ez29 ⟨by omega, by omega⟩
      refine mj_T.eq (loc2 := [some (.ref p0), some (.long (jl p1)), none, some (.ref p2), some (.int (jn z29))]) ?_ rfl rfl rfl rfl
      refine mj_T.pl rfl rfl rfl rfl ?_
      exact ih8 ((2147483647 - z29 : Int).toNat) (by omega) z29 h28 rz29 oh28 (by omega) rfl
  exact t11_6 _ 0 h3 ⟨by decide, by decide⟩ oh3 (by omega) rfl
-- PolyRegisters$Desk.commonOf(LPolyRegisters$Wide;J)J
theorem jc_23 {D n : Nat} {tm : Int} {h g : mj_H} {K L : Nat → Nat} {R : Nat → Nat → Nat} {p0 : Nat} {p1 : Nat} {p2 : Int} (ty : jTY K L R) (hg : g.length ≤ n) (o : jO K L R g n tm h) (kp0 : K p0 = 11) (kp1 : K p1 = 18) (jp2 : jR p2) : mj_Ok (D + 3) 23 [.ref p0, .ref p1, .long (jl p2)] h (jQ K L R g n tm [] jVl) := by
  refine mj_Ok.of (M := mj_m23) (loc := [some (.ref p0), some (.ref p1), some (.long (jl p2)), none]) rfl rfl rfl ?_
  refine mj_T.pl rfl rfl rfl rfl ?_
  refine jT.getR 11 118 18 ty o rfl kp0 (by decide) rfl rfl rfl (fun k1 => ?_)
  refine mj_T.pl rfl rfl rfl rfl ?_
  refine jT.call rfl rfl (Nat.le_of_ble_eq_true rfl) (Nat.le_of_ble_eq_true rfl) (jrv_of o k1 (by decide) rfl (by decide) rfl _) rfl (mj_Ok.up (Nat.add_le_add_left (by decide) D) (jc_86 (D := D) ty hg o k1 jp2)) rfl rfl (fun v2 h3 qv2 oh3 => ?_)
  obtain rfl : v2 = none := qv2
  refine mj_T.eq (pc2 := 8) (st2 := []) ?_ rfl rfl rfl rfl
  refine mj_T.pl rfl rfl rfl rfl ?_
  refine jT.getR 11 112 12 ty oh3 rfl kp0 (by decide) rfl rfl rfl (fun k4 => ?_)
  refine mj_T.pl rfl rfl rfl rfl ?_
  refine jT.getR 11 118 18 ty oh3 rfl kp0 (by decide) rfl rfl rfl (fun k5 => ?_)
  refine jT.call rfl rfl (Nat.le_of_ble_eq_true rfl) (Nat.le_of_ble_eq_true rfl) (jrv_of oh3 k4 (by decide) rfl (by decide) rfl _) rfl (mj_Ok.up (Nat.add_le_add_left (by decide) D) (jc_30 (D := D) ty hg oh3 k4 k5)) rfl rfl (fun v6 h7 qv6 oh7 => ?_)
  obtain rfl : v6 = none := qv6
  refine mj_T.eq (pc2 := 19) (st2 := []) ?_ rfl rfl rfl rfl
  refine mj_T.pl rfl rfl rfl rfl ?_
  refine jT.getR 11 118 18 ty oh7 rfl kp0 (by decide) rfl rfl rfl (fun k8 => ?_)
  refine mj_T.pl rfl rfl rfl rfl ?_
  refine jT.call rfl rfl (Nat.le_of_ble_eq_true rfl) (Nat.le_of_ble_eq_true rfl) (jrv_of oh7 k8 (by decide) rfl (by decide) rfl _) rfl (mj_Ok.up (Nat.add_le_add_left (by decide) D) (jc_87 (D := D) ty hg oh7 k8 kp1)) rfl rfl (fun v9 h10 qv9 oh10 => ?_)
  obtain rfl : v9 = none := qv9
  refine mj_T.eq (pc2 := 27) (st2 := []) ?_ rfl rfl rfl rfl
  refine mj_T.pl rfl rfl rfl rfl ?_
  refine jT.getR 11 112 12 ty oh10 rfl kp0 (by decide) rfl rfl rfl (fun k11 => ?_)
  refine mj_T.pl rfl rfl rfl rfl ?_
  refine jT.getR 11 118 18 ty oh10 rfl kp0 (by decide) rfl rfl rfl (fun k12 => ?_)
  refine mj_T.pl rfl rfl rfl rfl ?_
  refine jT.getR 11 118 18 ty oh10 rfl kp0 (by decide) rfl rfl rfl (fun k13 => ?_)
  refine jT.call rfl rfl (Nat.le_of_ble_eq_true rfl) (Nat.le_of_ble_eq_true rfl) (jrv_of oh10 k11 (by decide) rfl (by decide) rfl _) rfl (mj_Ok.up (Nat.add_le_add_left (by decide) D) (jc_31 (D := D) ty hg oh10 k11 k12 k13)) rfl rfl (fun v14 h15 qv14 oh15 => ?_)
  obtain rfl : v14 = none := qv14
  refine mj_T.eq (pc2 := 42) (st2 := []) ?_ rfl rfl rfl rfl
  refine mj_T.pl rfl rfl rfl rfl ?_
  refine jT.getR 11 118 18 ty oh15 rfl kp0 (by decide) rfl rfl rfl (fun k16 => ?_)
  refine jT.callp rfl rfl (Nat.le_of_ble_eq_true rfl) (Nat.le_of_ble_eq_true rfl) (jrv_of oh15 k16 (by decide) rfl (by decide) rfl _) rfl (mj_Ok.up (Nat.add_le_add_left (by decide) D) (jc_100 (D := D) ty hg oh15 k16)) rfl rfl (fun v17 qv17 => ?_)
  obtain ⟨z18, jz18, rfl⟩ := qv17
  refine mj_T.eq (pc2 := 49) (st2 := [.long (jl z18)]) ?_ rfl rfl rfl rfl
  refine mj_T.pl rfl rfl rfl rfl ?_
  refine jT.callp rfl rfl (Nat.le_of_ble_eq_true rfl) (Nat.le_of_ble_eq_true rfl) rfl rfl (mj_Ok.up (Nat.add_le_add_left (by decide) D) (jc_171 (D := D) ty hg oh15 jz18 jp2)) rfl rfl (fun v19 qv19 => ?_)
  obtain ⟨z20, jz20, rfl⟩ := qv19
  refine mj_T.eq (pc2 := 53) (st2 := [.long (jl z20)]) ?_ rfl rfl rfl rfl
  exact jT.ret oh15 rfl rfl rfl ⟨z20, jz20, rfl⟩
-- PolyRegisters$Desk.shorten(J)J
theorem jc_22 {D n : Nat} {tm : Int} {h g : mj_H} {K L : Nat → Nat} {R : Nat → Nat → Nat} {p0 : Nat} {p1 : Int} (ty : jTY K L R) (hg : g.length ≤ n) (o : jO K L R g n tm h) (kp0 : K p0 = 11) (jp1 : jR p1) : mj_Ok (D + 4) 22 [.ref p0, .long (jl p1)] h (jQ K L R g n tm [] jVl) := by
  refine mj_Ok.of (M := mj_m22) (loc := [some (.ref p0), some (.long (jl p1)), none, none, none, none]) rfl rfl rfl ?_
  refine mj_T.pl rfl rfl rfl rfl ?_
  refine mj_T.pl (loc' := [some (.ref p0), some (.long (jl p1)), none, some (.long (jl p1)), none, none]) rfl rfl rfl rfl ?_
  refine mj_T.pl rfl rfl rfl rfl ?_
  refine mj_T.pl (loc' := [some (.ref p0), some (.long (jl p1)), none, some (.long (jl p1)), none, some (.int (jn 0))]) rfl rfl rfl rfl ?_
  have t5_4 : ∀ (k5 : Nat) (y1 : Int) (x2 : Int) (h3 : mj_H), (jR y1) → (-2147483648 ≤ x2 ∧ x2 ≤ 2147483647) → (jO K L R g n tm h3) → (0 ≤ x2) → (2147483647 - x2 : Int).toNat = k5 → mj_T (D + 3) mj_m22 5 [some (.ref p0), some (.long (jl p1)), none, some (.long (jl y1)), none, some (.int (jn x2))] [] h3 (jQ K L R g n tm [] jVl) := by
    refine jInd (fun k5 ih6 => ?_)
    intro y1 x2 h3 jy1 rx2 oh3 ix2 hm7
    refine mj_T.pl rfl rfl rfl rfl ?_
    refine mj_T.pl rfl rfl rfl rfl ?_
    refine jT.getR 11 113 13 ty oh3 rfl kp0 (by decide) rfl rfl rfl (fun k8 => ?_)
    refine jT.getI 13 6 oh3 rfl k8 (by decide) rfl rfl rfl (fun z9 (az9 : (-1) ≤ z9) (bz9 : z9 ≤ 30) fz9 => ?_)
    have rz9 : -2147483648 ≤ z9 ∧ z9 ≤ 2147483647 := ⟨by omega, by omega⟩
    refine jT.icmp rfl rx2 rz9 (fun c14 => ?_) (fun c14 => ?_)
    · have c14 := of_decide_eq_true c14
      refine mj_T.pl rfl rfl rfl rfl ?_
      refine jT.getR 11 118 18 ty oh3 rfl kp0 (by decide) rfl rfl rfl (fun k10 => ?_)
      refine mj_T.pl rfl rfl rfl rfl ?_
      refine jT.call rfl rfl (Nat.le_of_ble_eq_true rfl) (Nat.le_of_ble_eq_true rfl) (jrv_of oh3 k10 (by decide) rfl (by decide) rfl _) rfl (mj_Ok.up (Nat.add_le_add_left (by decide) D) (jc_86 (D := D) ty hg oh3 k10 jy1)) rfl rfl (fun v11 h12 qv11 oh12 => ?_)
      obtain rfl : v11 = none := qv11
      refine mj_T.eq (pc2 := 46) (st2 := []) ?_ rfl rfl rfl rfl
      iterate 2 refine mj_T.pl rfl rfl rfl rfl ?_
      refine jT.getR 11 113 13 ty oh12 rfl kp0 (by decide) rfl rfl rfl (fun k13 => ?_)
      refine mj_T.pl rfl rfl rfl rfl ?_
      refine jT.getR 11 118 18 ty oh12 rfl kp0 (by decide) rfl rfl rfl (fun k14 => ?_)
      refine mj_T.pl rfl rfl rfl rfl ?_
      refine jT.call rfl rfl (Nat.le_of_ble_eq_true rfl) (Nat.le_of_ble_eq_true rfl) (jrv_of oh12 kp0 (by decide) rfl (by decide) rfl _) rfl (mj_Ok.up (Nat.add_le_add_left (by decide) D) (jc_20 (D := D) ty hg oh12 kp0 k13 k14 ⟨by decide, by decide⟩)) rfl rfl (fun v15 h16 qv15 oh16 => ?_)
      obtain rfl : v15 = none := qv15
      refine mj_T.eq (pc2 := 59) (st2 := []) ?_ rfl rfl rfl rfl
      refine mj_T.pl rfl rfl rfl rfl ?_
      exact jT.ret oh16 rfl rfl rfl ⟨y1, jy1, rfl⟩
    · have c14 := of_decide_eq_false c14
      iterate 2 refine mj_T.pl rfl rfl rfl rfl ?_
      refine jT.getR 11 113 13 ty oh3 rfl kp0 (by decide) rfl rfl rfl (fun k17 => ?_)
      refine mj_T.pl rfl rfl rfl rfl ?_
      refine jT.callp rfl rfl (Nat.le_of_ble_eq_true rfl) (Nat.le_of_ble_eq_true rfl) (jrv_of oh3 k17 (by decide) rfl (by decide) rfl _) rfl (mj_Ok.up (Nat.add_le_add_left (by decide) D) (jc_36 (D := D) ty hg oh3 k17 rx2)) rfl rfl (fun v18 qv18 => ?_)
      obtain ⟨a19, ka19, rfl⟩ := qv18
      refine mj_T.eq (pc2 := 27) (st2 := [.ref a19, .ref p0]) ?_ rfl rfl rfl rfl
      refine mj_T.pl rfl rfl rfl rfl ?_
      refine jT.call rfl rfl (Nat.le_of_ble_eq_true rfl) (Nat.le_of_ble_eq_true rfl) (jrv_of oh3 kp0 (by decide) rfl (by decide) rfl _) rfl (mj_Ok.up (Nat.add_le_add_left (by decide) D) (jc_23 (D := D) ty hg oh3 kp0 ka19 jy1)) rfl rfl (fun v20 h21 qv20 oh21 => ?_)
      obtain ⟨z22, jz22, rfl⟩ := qv20
      refine mj_T.eq (pc2 := 31) (st2 := [.long (jl z22)]) ?_ rfl rfl rfl rfl
      refine mj_T.pl (loc' := [some (.ref p0), some (.long (jl p1)), none, some (.long (jl z22)), none, some (.int (jn x2))]) rfl rfl rfl rfl ?_
      refine jT.iinc rfl rfl (fun z23 rz23 ez23 => ?_)
      replace ez23 := ez23 ⟨by omega, by omega⟩
      refine mj_T.eq (loc2 := [some (.ref p0), some (.long (jl p1)), none, some (.long (jl z22)), none, some (.int (jn z23))]) ?_ rfl rfl rfl rfl
      refine mj_T.pl rfl rfl rfl rfl ?_
      exact ih6 ((2147483647 - z23 : Int).toNat) (by omega) z22 z23 h21 jz22 rz23 oh21 (by omega) rfl
  exact t5_4 _ p1 0 h jp1 ⟨by decide, by decide⟩ o (by omega) rfl
-- PolyRegisters$Desk.enlarge(LPolyRegisters$Wide;J)V
theorem jc_24 {D n : Nat} {tm : Int} {h g : mj_H} {K L : Nat → Nat} {R : Nat → Nat → Nat} {p0 : Nat} {p1 : Nat} {p2 : Int} (ty : jTY K L R) (hg : g.length ≤ n) (o : jO K L R g n tm h) (kp0 : K p0 = 11) (kp1 : K p1 = 18) (jp2 : jR p2) : mj_Ok (D + 2) 24 [.ref p0, .ref p1, .long (jl p2)] h (jQ K L R g n tm [] jV0) := by
  refine mj_Ok.of (M := mj_m24) (loc := [some (.ref p0), some (.ref p1), some (.long (jl p2)), none]) rfl rfl rfl ?_
  refine mj_T.pl rfl rfl rfl rfl ?_
  refine jT.getR 11 118 18 ty o rfl kp0 (by decide) rfl rfl rfl (fun k1 => ?_)
  refine mj_T.pl rfl rfl rfl rfl ?_
  refine jT.call rfl rfl (Nat.le_of_ble_eq_true rfl) (Nat.le_of_ble_eq_true rfl) (jrv_of o k1 (by decide) rfl (by decide) rfl _) rfl (mj_Ok.up (Nat.add_le_add_left (by decide) D) (jc_86 (D := D) ty hg o k1 jp2)) rfl rfl (fun v2 h3 qv2 oh3 => ?_)
  obtain rfl : v2 = none := qv2
  refine mj_T.eq (pc2 := 8) (st2 := []) ?_ rfl rfl rfl rfl
  refine mj_T.pl rfl rfl rfl rfl ?_
  refine jT.getR 11 118 18 ty oh3 rfl kp0 (by decide) rfl rfl rfl (fun k4 => ?_)
  iterate 2 refine mj_T.pl rfl rfl rfl rfl ?_
  refine jT.getR 11 118 18 ty oh3 rfl kp0 (by decide) rfl rfl rfl (fun k5 => ?_)
  refine jT.call rfl rfl (Nat.le_of_ble_eq_true rfl) (Nat.le_of_ble_eq_true rfl) (jrv_of oh3 k4 (by decide) rfl (by decide) rfl _) rfl (mj_Ok.up (Nat.add_le_add_left (by decide) D) (jc_95 (D := D) ty hg oh3 k4 kp1 k5)) rfl rfl (fun v6 h7 qv6 oh7 => ?_)
  obtain rfl : v6 = none := qv6
  refine mj_T.eq (pc2 := 20) (st2 := []) ?_ rfl rfl rfl rfl
  iterate 2 refine mj_T.pl rfl rfl rfl rfl ?_
  refine jT.getR 11 118 18 ty oh7 rfl kp0 (by decide) rfl rfl rfl (fun k8 => ?_)
  refine jT.call rfl rfl (Nat.le_of_ble_eq_true rfl) (Nat.le_of_ble_eq_true rfl) (jrv_of oh7 kp1 (by decide) rfl (by decide) rfl _) rfl (mj_Ok.up (Nat.add_le_add_left (by decide) D) (jc_87 (D := D) ty hg oh7 kp1 k8)) rfl rfl (fun v9 h10 qv9 oh10 => ?_)
  obtain rfl : v9 = none := qv9
  refine mj_T.eq (pc2 := 28) (st2 := []) ?_ rfl rfl rfl rfl
  exact jT.ret oh10 rfl rfl rfl rfl
-- PolyRegisters$Desk.lessen(LPolyRegisters$Wide;J)V
theorem jc_25 {D n : Nat} {tm : Int} {h g : mj_H} {K L : Nat → Nat} {R : Nat → Nat → Nat} {p0 : Nat} {p1 : Nat} {p2 : Int} (ty : jTY K L R) (hg : g.length ≤ n) (o : jO K L R g n tm h) (kp0 : K p0 = 11) (kp1 : K p1 = 18) (jp2 : jR p2) : mj_Ok (D + 3) 25 [.ref p0, .ref p1, .long (jl p2)] h (jQ K L R g n tm [] jV0) := by
  refine mj_Ok.of (M := mj_m25) (loc := [some (.ref p0), some (.ref p1), some (.long (jl p2)), none]) rfl rfl rfl ?_
  refine mj_T.pl rfl rfl rfl rfl ?_
  refine jT.getR 11 118 18 ty o rfl kp0 (by decide) rfl rfl rfl (fun k1 => ?_)
  refine mj_T.pl rfl rfl rfl rfl ?_
  refine jT.call rfl rfl (Nat.le_of_ble_eq_true rfl) (Nat.le_of_ble_eq_true rfl) (jrv_of o k1 (by decide) rfl (by decide) rfl _) rfl (mj_Ok.up (Nat.add_le_add_left (by decide) D) (jc_86 (D := D) ty hg o k1 jp2)) rfl rfl (fun v2 h3 qv2 oh3 => ?_)
  obtain rfl : v2 = none := qv2
  refine mj_T.eq (pc2 := 8) (st2 := []) ?_ rfl rfl rfl rfl
  refine mj_T.pl rfl rfl rfl rfl ?_
  refine jT.getR 11 112 12 ty oh3 rfl kp0 (by decide) rfl rfl rfl (fun k4 => ?_)
  refine mj_T.pl rfl rfl rfl rfl ?_
  refine jT.getR 11 118 18 ty oh3 rfl kp0 (by decide) rfl rfl rfl (fun k5 => ?_)
  refine jT.call rfl rfl (Nat.le_of_ble_eq_true rfl) (Nat.le_of_ble_eq_true rfl) (jrv_of oh3 k4 (by decide) rfl (by decide) rfl _) rfl (mj_Ok.up (Nat.add_le_add_left (by decide) D) (jc_30 (D := D) ty hg oh3 k4 k5)) rfl rfl (fun v6 h7 qv6 oh7 => ?_)
  obtain rfl : v6 = none := qv6
  refine mj_T.eq (pc2 := 19) (st2 := []) ?_ rfl rfl rfl rfl
  refine mj_T.pl rfl rfl rfl rfl ?_
  refine jT.getR 11 112 12 ty oh7 rfl kp0 (by decide) rfl rfl rfl (fun k8 => ?_)
  iterate 2 refine mj_T.pl rfl rfl rfl rfl ?_
  refine jT.getR 11 118 18 ty oh7 rfl kp0 (by decide) rfl rfl rfl (fun k9 => ?_)
  refine jT.call rfl rfl (Nat.le_of_ble_eq_true rfl) (Nat.le_of_ble_eq_true rfl) (jrv_of oh7 k8 (by decide) rfl (by decide) rfl _) rfl (mj_Ok.up (Nat.add_le_add_left (by decide) D) (jc_31 (D := D) ty hg oh7 k8 kp1 k9)) rfl rfl (fun v10 h11 qv10 oh11 => ?_)
  obtain rfl : v10 = none := qv10
  refine mj_T.eq (pc2 := 31) (st2 := []) ?_ rfl rfl rfl rfl
  iterate 2 refine mj_T.pl rfl rfl rfl rfl ?_
  refine jT.getR 11 118 18 ty oh11 rfl kp0 (by decide) rfl rfl rfl (fun k12 => ?_)
  refine jT.call rfl rfl (Nat.le_of_ble_eq_true rfl) (Nat.le_of_ble_eq_true rfl) (jrv_of oh11 kp1 (by decide) rfl (by decide) rfl _) rfl (mj_Ok.up (Nat.add_le_add_left (by decide) D) (jc_87 (D := D) ty hg oh11 kp1 k12)) rfl rfl (fun v13 h14 qv13 oh14 => ?_)
  obtain rfl : v13 = none := qv13
  refine mj_T.eq (pc2 := 39) (st2 := []) ?_ rfl rfl rfl rfl
  exact jT.ret oh14 rfl rfl rfl rfl
-- PolyRegisters$Desk.stretch(LPolyRegisters$Poly;J)V
theorem jc_26 {D n : Nat} {tm : Int} {h g : mj_H} {K L : Nat → Nat} {R : Nat → Nat → Nat} {p0 : Nat} {p1 : Nat} {p2 : Int} (ty : jTY K L R) (hg : g.length ≤ n) (o : jO K L R g n tm h) (kp0 : K p0 = 11) (kp1 : K p1 = 13) (jp2 : jR p2) : mj_Ok (D + 2) 26 [.ref p0, .ref p1, .long (jl p2)] h (jQ K L R g n tm [] jV0) := by
  refine mj_Ok.of (M := mj_m26) (loc := [some (.ref p0), some (.ref p1), some (.long (jl p2)), none, none]) rfl rfl rfl ?_
  refine mj_T.pl rfl rfl rfl rfl ?_
  refine jT.getR 11 118 18 ty o rfl kp0 (by decide) rfl rfl rfl (fun k1 => ?_)
  refine jT.lc 1 rfl rfl ?_
  refine jT.call rfl rfl (Nat.le_of_ble_eq_true rfl) (Nat.le_of_ble_eq_true rfl) (jrv_of o k1 (by decide) rfl (by decide) rfl _) rfl (mj_Ok.up (Nat.add_le_add_left (by decide) D) (jc_86 (D := D) ty hg o k1 ⟨by decide, by decide⟩)) rfl rfl (fun v2 h3 qv2 oh3 => ?_)
  obtain rfl : v2 = none := qv2
  refine mj_T.eq (pc2 := 8) (st2 := []) ?_ rfl rfl rfl rfl
  refine mj_T.pl rfl rfl rfl rfl ?_
  refine jT.getI 13 6 oh3 rfl kp1 (by decide) rfl rfl rfl (fun z4 (az4 : (-1) ≤ z4) (bz4 : z4 ≤ 30) fz4 => ?_)
  have rz4 : -2147483648 ≤ z4 ∧ z4 ≤ 2147483647 := ⟨by omega, by omega⟩
  refine mj_T.pl rfl rfl rfl rfl ?_
  refine jT.isub rfl (fun z5 rz5 ez5 => ?_)
  replace ez5 := ez5 ⟨by omega, by omega⟩
  refine mj_T.pl (loc' := [some (.ref p0), some (.ref p1), some (.long (jl p2)), none, some (.int (jn z5))]) rfl rfl rfl rfl ?_
  have t16_8 : ∀ (k9 : Nat) (x6 : Int) (h7 : mj_H), (-2147483648 ≤ x6 ∧ x6 ≤ 2147483647) → (jO K L R g n tm h7) → (x6 ≤ z5) → (x6 + 1 : Int).toNat = k9 → mj_T (D + 1) mj_m26 16 [some (.ref p0), some (.ref p1), some (.long (jl p2)), none, some (.int (jn x6))] [] h7 (jQ K L R g n tm [] jV0) := by
    refine jInd (fun k9 ih10 => ?_)
    intro x6 h7 rx6 oh7 ix6 hm11
    refine mj_T.pl rfl rfl rfl rfl ?_
    refine jT.if0 rfl rx6 (fun c18 => ?_) (fun c18 => ?_)
    · have c18 := of_decide_eq_true c18
      exact jT.ret oh7 rfl rfl rfl rfl
    · have c18 := of_decide_eq_false c18
      refine mj_T.pl rfl rfl rfl rfl ?_
      refine jT.lc 1 rfl rfl ?_
      refine mj_T.lif rfl rfl jp2 ⟨by decide, by decide⟩ (fun c23 => ?_) (fun c23 => ?_)
      · have c23 := of_decide_eq_true c23
        exact jT.ret oh7 rfl rfl rfl rfl
      · have c23 := of_decide_eq_false c23
        refine mj_T.pl rfl rfl rfl rfl ?_
        refine jT.getR 11 118 18 ty oh7 rfl kp0 (by decide) rfl rfl rfl (fun k12 => ?_)
        refine mj_T.pl rfl rfl rfl rfl ?_
        refine jT.call rfl rfl (Nat.le_of_ble_eq_true rfl) (Nat.le_of_ble_eq_true rfl) (jrv_of oh7 k12 (by decide) rfl (by decide) rfl _) rfl (mj_Ok.up (Nat.add_le_add_left (by decide) D) (jc_86 (D := D) ty hg oh7 k12 jp2)) rfl rfl (fun v13 h14 qv13 oh14 => ?_)
        obtain rfl : v13 = none := qv13
        refine mj_T.eq (pc2 := 35) (st2 := []) ?_ rfl rfl rfl rfl
        refine mj_T.pl rfl rfl rfl rfl ?_
        refine jT.getR 11 118 18 ty oh14 rfl kp0 (by decide) rfl rfl rfl (fun k15 => ?_)
        refine mj_T.pl rfl rfl rfl rfl ?_
        refine jT.getR 11 118 18 ty oh14 rfl kp0 (by decide) rfl rfl rfl (fun k16 => ?_)
        refine mj_T.pl rfl rfl rfl rfl ?_
        refine jT.getR 11 118 18 ty oh14 rfl kp0 (by decide) rfl rfl rfl (fun k17 => ?_)
        refine jT.call rfl rfl (Nat.le_of_ble_eq_true rfl) (Nat.le_of_ble_eq_true rfl) (jrv_of oh14 k15 (by decide) rfl (by decide) rfl _) rfl (mj_Ok.up (Nat.add_le_add_left (by decide) D) (jc_95 (D := D) ty hg oh14 k15 k16 k17)) rfl rfl (fun v18 h19 qv18 oh19 => ?_)
        obtain rfl : v18 = none := qv18
        refine mj_T.eq (pc2 := 50) (st2 := []) ?_ rfl rfl rfl rfl
        refine mj_T.pl rfl rfl rfl rfl ?_
        refine jT.getR 11 118 18 ty oh19 rfl kp0 (by decide) rfl rfl rfl (fun k20 => ?_)
        refine mj_T.pl rfl rfl rfl rfl ?_
        refine jT.getR 11 118 18 ty oh19 rfl kp0 (by decide) rfl rfl rfl (fun k21 => ?_)
        refine jT.call rfl rfl (Nat.le_of_ble_eq_true rfl) (Nat.le_of_ble_eq_true rfl) (jrv_of oh19 k20 (by decide) rfl (by decide) rfl _) rfl (mj_Ok.up (Nat.add_le_add_left (by decide) D) (jc_87 (D := D) ty hg oh19 k20 k21)) rfl rfl (fun v22 h23 qv22 oh23 => ?_)
        obtain rfl : v22 = none := qv22
        refine mj_T.eq (pc2 := 61) (st2 := []) ?_ rfl rfl rfl rfl
        refine mj_T.pl rfl rfl rfl rfl ?_
        refine jT.getR 11 118 18 ty oh23 rfl kp0 (by decide) rfl rfl rfl (fun k24 => ?_)
        iterate 2 refine mj_T.pl rfl rfl rfl rfl ?_
        refine jT.callp rfl rfl (Nat.le_of_ble_eq_true rfl) (Nat.le_of_ble_eq_true rfl) (jrv_of oh23 kp1 (by decide) rfl (by decide) rfl _) rfl (mj_Ok.up (Nat.add_le_add_left (by decide) D) (jc_36 (D := D) ty hg oh23 kp1 rx6)) rfl rfl (fun v25 qv25 => ?_)
        obtain ⟨a26, ka26, rfl⟩ := qv25
        refine mj_T.eq (pc2 := 71) (st2 := [.ref a26, .ref (R p0 4)]) ?_ rfl rfl rfl rfl
        refine mj_T.pl rfl rfl rfl rfl ?_
        refine jT.getR 11 118 18 ty oh23 rfl kp0 (by decide) rfl rfl rfl (fun k27 => ?_)
        refine jT.call rfl rfl (Nat.le_of_ble_eq_true rfl) (Nat.le_of_ble_eq_true rfl) (jrv_of oh23 k24 (by decide) rfl (by decide) rfl _) rfl (mj_Ok.up (Nat.add_le_add_left (by decide) D) (jc_95 (D := D) ty hg oh23 k24 ka26 k27)) rfl rfl (fun v28 h29 qv28 oh29 => ?_)
        obtain rfl : v28 = none := qv28
        refine mj_T.eq (pc2 := 78) (st2 := []) ?_ rfl rfl rfl rfl
        iterate 2 refine mj_T.pl rfl rfl rfl rfl ?_
        refine jT.callp rfl rfl (Nat.le_of_ble_eq_true rfl) (Nat.le_of_ble_eq_true rfl) (jrv_of oh29 kp1 (by decide) rfl (by decide) rfl _) rfl (mj_Ok.up (Nat.add_le_add_left (by decide) D) (jc_36 (D := D) ty hg oh29 kp1 rx6)) rfl rfl (fun v30 qv30 => ?_)
        obtain ⟨a31, ka31, rfl⟩ := qv30
        refine mj_T.eq (pc2 := 84) (st2 := [.ref a31]) ?_ rfl rfl rfl rfl
        refine mj_T.pl rfl rfl rfl rfl ?_
        refine jT.getR 11 118 18 ty oh29 rfl kp0 (by decide) rfl rfl rfl (fun k32 => ?_)
        refine jT.call rfl rfl (Nat.le_of_ble_eq_true rfl) (Nat.le_of_ble_eq_true rfl) (jrv_of oh29 ka31 (by decide) rfl (by decide) rfl _) rfl (mj_Ok.up (Nat.add_le_add_left (by decide) D) (jc_87 (D := D) ty hg oh29 ka31 k32)) rfl rfl (fun v33 h34 qv33 oh34 => ?_)
        obtain rfl : v33 = none := qv33
        refine mj_T.eq (pc2 := 91) (st2 := []) ?_ rfl rfl rfl rfl
        refine jT.iinc rfl rfl (fun z35 rz35 ez35 => ?_)
        replace ez35 := ez35 ⟨by omega, by omega⟩
        refine mj_T.eq (loc2 := [some (.ref p0), some (.ref p1), some (.long (jl p2)), none, some (.int (jn z35))]) ?_ rfl rfl rfl rfl
        refine mj_T.pl rfl rfl rfl rfl ?_
        exact ih10 ((z35 + 1 : Int).toNat) (by omega) z35 h34 rz35 oh34 (by omega) rfl
  exact t16_8 _ z5 h3 rz5 oh3 (by omega) rfl
-- PolyRegisters$Desk.valueAt(LPolyRegisters$Poly;LPolyRegisters$Wide;)I
theorem jc_28 {D n : Nat} {tm : Int} {h g : mj_H} {K L : Nat → Nat} {R : Nat → Nat → Nat} {p0 : Nat} {p1 : Nat} {p2 : Nat} (ty : jTY K L R) (hg : g.length ≤ n) (o : jO K L R g n tm h) (kp0 : K p0 = 11) (kp1 : K p1 = 13) (kp2 : K p2 = 18) : mj_Ok (D + 3) 28 [.ref p0, .ref p1, .ref p2] h (jQ K L R g n tm [] (jVi (-2147483648) 2147483647)) := by
  refine mj_Ok.of (M := mj_m28) (loc := [some (.ref p0), some (.ref p1), some (.ref p2), none]) rfl rfl rfl ?_
  refine mj_T.pl rfl rfl rfl rfl ?_
  refine jT.getR 11 118 18 ty o rfl kp0 (by decide) rfl rfl rfl (fun k1 => ?_)
  refine jT.lc 0 rfl rfl ?_
  refine jT.call rfl rfl (Nat.le_of_ble_eq_true rfl) (Nat.le_of_ble_eq_true rfl) (jrv_of o k1 (by decide) rfl (by decide) rfl _) rfl (mj_Ok.up (Nat.add_le_add_left (by decide) D) (jc_86 (D := D) ty hg o k1 ⟨by decide, by decide⟩)) rfl rfl (fun v2 h3 qv2 oh3 => ?_)
  obtain rfl : v2 = none := qv2
  refine mj_T.eq (pc2 := 8) (st2 := []) ?_ rfl rfl rfl rfl
  refine mj_T.pl rfl rfl rfl rfl ?_
  refine jT.getI 13 6 oh3 rfl kp1 (by decide) rfl rfl rfl (fun z4 (az4 : (-1) ≤ z4) (bz4 : z4 ≤ 30) fz4 => ?_)
  have rz4 : -2147483648 ≤ z4 ∧ z4 ≤ 2147483647 := ⟨by omega, by omega⟩
  refine mj_T.pl (loc' := [some (.ref p0), some (.ref p1), some (.ref p2), some (.int (jn z4))]) rfl rfl rfl rfl ?_
  have t13_7 : ∀ (k8 : Nat) (x5 : Int) (h6 : mj_H), (-2147483648 ≤ x5 ∧ x5 ≤ 2147483647) → (jO K L R g n tm h6) → (x5 ≤ z4) → (x5 + 1 : Int).toNat = k8 → mj_T (D + 2) mj_m28 13 [some (.ref p0), some (.ref p1), some (.ref p2), some (.int (jn x5))] [] h6 (jQ K L R g n tm [] (jVi (-2147483648) 2147483647)) := by
    refine jInd (fun k8 ih9 => ?_)
    intro x5 h6 rx5 oh6 ix5 hm10
    refine mj_T.pl rfl rfl rfl rfl ?_
    refine jT.if0 rfl rx5 (fun c14 => ?_) (fun c14 => ?_)
    · have c14 := of_decide_eq_true c14
      refine mj_T.pl rfl rfl rfl rfl ?_
      refine jT.getR 11 118 18 ty oh6 rfl kp0 (by decide) rfl rfl rfl (fun k11 => ?_)
      refine jT.getI 18 0 oh6 rfl k11 (by decide) rfl rfl rfl (fun z12 (az12 : (-2147483648) ≤ z12) (bz12 : z12 ≤ 2147483647) fz12 => ?_)
      have rz12 : -2147483648 ≤ z12 ∧ z12 ≤ 2147483647 := ⟨by omega, by omega⟩
      exact jT.ret oh6 rfl rfl rfl ⟨z12, by omega, by omega, rfl⟩
    · have c14 := of_decide_eq_false c14
      refine mj_T.pl rfl rfl rfl rfl ?_
      refine jT.getR 11 118 18 ty oh6 rfl kp0 (by decide) rfl rfl rfl (fun k13 => ?_)
      refine mj_T.pl rfl rfl rfl rfl ?_
      refine jT.getR 11 118 18 ty oh6 rfl kp0 (by decide) rfl rfl rfl (fun k14 => ?_)
      refine mj_T.pl rfl rfl rfl rfl ?_
      refine jT.call rfl rfl (Nat.le_of_ble_eq_true rfl) (Nat.le_of_ble_eq_true rfl) (jrv_of oh6 k13 (by decide) rfl (by decide) rfl _) rfl (mj_Ok.up (Nat.add_le_add_left (by decide) D) (jc_95 (D := D) ty hg oh6 k13 k14 kp2)) rfl rfl (fun v15 h16 qv15 oh16 => ?_)
      obtain rfl : v15 = none := qv15
      refine mj_T.eq (pc2 := 29) (st2 := []) ?_ rfl rfl rfl rfl
      refine mj_T.pl rfl rfl rfl rfl ?_
      refine jT.getR 11 118 18 ty oh16 rfl kp0 (by decide) rfl rfl rfl (fun k17 => ?_)
      iterate 2 refine mj_T.pl rfl rfl rfl rfl ?_
      refine jT.callp rfl rfl (Nat.le_of_ble_eq_true rfl) (Nat.le_of_ble_eq_true rfl) (jrv_of oh16 kp1 (by decide) rfl (by decide) rfl _) rfl (mj_Ok.up (Nat.add_le_add_left (by decide) D) (jc_36 (D := D) ty hg oh16 kp1 rx5)) rfl rfl (fun v18 qv18 => ?_)
      obtain ⟨a19, ka19, rfl⟩ := qv18
      refine mj_T.eq (pc2 := 38) (st2 := [.ref a19, .ref (R p0 5)]) ?_ rfl rfl rfl rfl
      refine mj_T.pl rfl rfl rfl rfl ?_
      refine jT.call rfl rfl (Nat.le_of_ble_eq_true rfl) (Nat.le_of_ble_eq_true rfl) (jrv_of oh16 k17 (by decide) rfl (by decide) rfl _) rfl (mj_Ok.up (Nat.add_le_add_left (by decide) D) (jc_91 (D := D) ty hg oh16 k17 ka19 ⟨by decide, by decide⟩)) rfl rfl (fun v20 h21 qv20 oh21 => ?_)
      obtain rfl : v20 = none := qv20
      refine mj_T.eq (pc2 := 42) (st2 := []) ?_ rfl rfl rfl rfl
      refine mj_T.pl rfl rfl rfl rfl ?_
      refine jT.getR 11 118 18 ty oh21 rfl kp0 (by decide) rfl rfl rfl (fun k22 => ?_)
      refine mj_T.pl rfl rfl rfl rfl ?_
      refine jT.getR 11 118 18 ty oh21 rfl kp0 (by decide) rfl rfl rfl (fun k23 => ?_)
      refine jT.call rfl rfl (Nat.le_of_ble_eq_true rfl) (Nat.le_of_ble_eq_true rfl) (jrv_of oh21 k22 (by decide) rfl (by decide) rfl _) rfl (mj_Ok.up (Nat.add_le_add_left (by decide) D) (jc_87 (D := D) ty hg oh21 k22 k23)) rfl rfl (fun v24 h25 qv24 oh25 => ?_)
      obtain rfl : v24 = none := qv24
      refine mj_T.eq (pc2 := 53) (st2 := []) ?_ rfl rfl rfl rfl
      refine jT.iinc rfl rfl (fun z26 rz26 ez26 => ?_)
      replace ez26 := ez26 ⟨by omega, by omega⟩
      refine mj_T.eq (loc2 := [some (.ref p0), some (.ref p1), some (.ref p2), some (.int (jn z26))]) ?_ rfl rfl rfl rfl
      refine mj_T.pl rfl rfl rfl rfl ?_
      exact ih9 ((z26 + 1 : Int).toNat) (by omega) z26 h25 rz26 oh25 (by omega) rfl
  exact t13_7 _ z4 h3 rz4 oh3 (by omega) rfl
-- PolyRegisters$Desk.valueAt([JII)I
theorem jc_27 {D n : Nat} {tm : Int} {h g : mj_H} {K L : Nat → Nat} {R : Nat → Nat → Nat} {p0 : Nat} {p1 : Nat} {p2 : Int} {p3 : Int} (ty : jTY K L R) (hg : g.length ≤ n) (o : jO K L R g n tm h) (kp0 : K p0 = 11) (kp1 : K p1 = 2) (rp2 : -2147483648 ≤ p2 ∧ p2 ≤ 2147483647) (rp3 : -2147483648 ≤ p3 ∧ p3 ≤ 2147483647) : mj_Ok (D + 4) 27 [.ref p0, .ref p1, .int (jn p2), .int (jn p3)] h (jQ K L R g n tm [] (jVi (-2147483648) 2147483647)) := by
  refine mj_Ok.of (M := mj_m27) (loc := [some (.ref p0), some (.ref p1), some (.int (jn p2)), some (.int (jn p3))]) rfl rfl rfl ?_
  refine mj_T.pl rfl rfl rfl rfl ?_
  refine jT.getR 11 113 13 ty o rfl kp0 (by decide) rfl rfl rfl (fun k1 => ?_)
  refine mj_T.pl rfl rfl rfl rfl ?_
  refine jT.lc 1 rfl rfl ?_
  refine jT.call rfl rfl (Nat.le_of_ble_eq_true rfl) (Nat.le_of_ble_eq_true rfl) (jrv_of o k1 (by decide) rfl (by decide) rfl _) rfl (mj_Ok.up (Nat.add_le_add_left (by decide) D) (jc_40 (D := D) ty hg o k1 kp1 ⟨by decide, by decide⟩)) rfl rfl (fun v2 h3 qv2 oh3 => ?_)
  obtain rfl : v2 = none := qv2
  refine mj_T.eq (pc2 := 9) (st2 := []) ?_ rfl rfl rfl rfl
  iterate 2 refine mj_T.pl rfl rfl rfl rfl ?_
  refine jT.getR 11 113 13 ty oh3 rfl kp0 (by decide) rfl rfl rfl (fun k4 => ?_)
  refine mj_T.pl rfl rfl rfl rfl ?_
  refine jT.i2l rfl rp3 ?_
  have j5 : jR p3 := ⟨by omega, by omega⟩
  refine jT.call rfl rfl (Nat.le_of_ble_eq_true rfl) (Nat.le_of_ble_eq_true rfl) (jrv_of oh3 kp0 (by decide) rfl (by decide) rfl _) rfl (mj_Ok.up (Nat.add_le_add_left (by decide) D) (jc_26 (D := D) ty hg oh3 kp0 k4 j5)) rfl rfl (fun v6 h7 qv6 oh7 => ?_)
  obtain rfl : v6 = none := qv6
  refine mj_T.eq (pc2 := 19) (st2 := []) ?_ rfl rfl rfl rfl
  refine mj_T.pl rfl rfl rfl rfl ?_
  refine jT.getR 11 118 18 ty oh7 rfl kp0 (by decide) rfl rfl rfl (fun k8 => ?_)
  refine mj_T.pl rfl rfl rfl rfl ?_
  refine jT.i2l rfl rp2 ?_
  have j9 : jR p2 := ⟨by omega, by omega⟩
  refine jT.call rfl rfl (Nat.le_of_ble_eq_true rfl) (Nat.le_of_ble_eq_true rfl) (jrv_of oh7 k8 (by decide) rfl (by decide) rfl _) rfl (mj_Ok.up (Nat.add_le_add_left (by decide) D) (jc_86 (D := D) ty hg oh7 k8 j9)) rfl rfl (fun v10 h11 qv10 oh11 => ?_)
  obtain rfl : v10 = none := qv10
  refine mj_T.eq (pc2 := 28) (st2 := []) ?_ rfl rfl rfl rfl
  iterate 2 refine mj_T.pl rfl rfl rfl rfl ?_
  refine jT.getR 11 113 13 ty oh11 rfl kp0 (by decide) rfl rfl rfl (fun k12 => ?_)
  refine mj_T.pl rfl rfl rfl rfl ?_
  refine jT.getR 11 118 18 ty oh11 rfl kp0 (by decide) rfl rfl rfl (fun k13 => ?_)
  refine jT.call rfl rfl (Nat.le_of_ble_eq_true rfl) (Nat.le_of_ble_eq_true rfl) (jrv_of oh11 kp0 (by decide) rfl (by decide) rfl _) rfl (mj_Ok.up (Nat.add_le_add_left (by decide) D) (jc_28 (D := D) ty hg oh11 kp0 k12 k13)) rfl rfl (fun v14 h15 qv14 oh15 => ?_)
  obtain ⟨z16, az16, bz16, rfl⟩ := qv14
  have rz16 : -2147483648 ≤ z16 ∧ z16 ≤ 2147483647 := ⟨by omega, by omega⟩
  refine mj_T.eq (pc2 := 40) (st2 := [.int (jn z16)]) ?_ rfl rfl rfl rfl
  exact jT.ret oh15 rfl rfl rfl ⟨z16, by omega, by omega, rfl⟩
/-! The class by kinds: its methods. -/
-- PolyRegisters$Sturm.renewKnown(I)V
theorem jc_72 {D n : Nat} {tm : Int} {h g : mj_H} {K L : Nat → Nat} {R : Nat → Nat → Nat} {p0 : Nat} {p1 : Int} (ty : jTY K L R) (hg : g.length ≤ n) (o : jO K L R g n tm h) (kp0 : K p0 = 16) (rp1 : -2147483648 ≤ p1 ∧ p1 ≤ 2147483647) : mj_Ok (D + 3) 72 [.ref p0, .int (jn p1)] h (jQ K L R g n tm [] jV0) := by
  refine mj_Ok.of (M := mj_m72) (loc := [some (.ref p0), some (.int (jn p1)), none, none]) rfl rfl rfl ?_
  refine mj_T.pl rfl rfl rfl rfl ?_
  refine jT.getR 16 111 11 ty o rfl kp0 (by decide) rfl rfl rfl (fun k1 => ?_)
  refine jT.getR 11 118 18 ty o rfl k1 (by decide) rfl rfl rfl (fun k2 => ?_)
  refine mj_T.pl (loc' := [some (.ref p0), some (.int (jn p1)), some (.ref (R (R p0 0) 4)), none]) rfl rfl rfl rfl ?_
  iterate 2 refine mj_T.pl rfl rfl rfl rfl ?_
  refine jT.getR 16 118 18 ty o rfl kp0 (by decide) rfl rfl rfl (fun k3 => ?_)
  refine jT.call rfl rfl (Nat.le_of_ble_eq_true rfl) (Nat.le_of_ble_eq_true rfl) (jrv_of o k2 (by decide) rfl (by decide) rfl _) rfl (mj_Ok.up (Nat.add_le_add_left (by decide) D) (jc_87 (D := D) ty hg o k2 k3)) rfl rfl (fun v4 h5 qv4 oh5 => ?_)
  obtain rfl : v4 = none := qv4
  refine mj_T.eq (pc2 := 16) (st2 := []) ?_ rfl rfl rfl rfl
  refine mj_T.pl rfl rfl rfl rfl ?_
  refine mj_T.pl (loc' := [some (.ref p0), some (.int (jn p1)), some (.ref (R (R p0 0) 4)), some (.int (jn 1))]) rfl rfl rfl rfl ?_
  have t18_8 : ∀ (k9 : Nat) (x6 : Int) (h7 : mj_H), (-2147483648 ≤ x6 ∧ x6 ≤ 2147483647) → (jO K L R g n tm h7) → (1 ≤ x6) → (2147483647 - x6 : Int).toNat = k9 → mj_T (D + 2) mj_m72 18 [some (.ref p0), some (.int (jn p1)), some (.ref (R (R p0 0) 4)), some (.int (jn x6))] [] h7 (jQ K L R g n tm [] jV0) := by
    refine jInd (fun k9 ih10 => ?_)
    intro x6 h7 rx6 oh7 ix6 hm11
    refine mj_T.pl rfl rfl rfl rfl ?_
    refine mj_T.pl rfl rfl rfl rfl ?_
    refine jT.icmp rfl rx6 rp1 (fun c20 => ?_) (fun c20 => ?_)
    · have c20 := of_decide_eq_true c20
      refine mj_T.pl rfl rfl rfl rfl ?_
      refine jT.getR 16 111 11 ty oh7 rfl kp0 (by decide) rfl rfl rfl (fun k12 => ?_)
      refine jT.getR 11 112 12 ty oh7 rfl k12 (by decide) rfl rfl rfl (fun k13 => ?_)
      refine mj_T.pl rfl rfl rfl rfl ?_
      refine jT.getR 16 118 18 ty oh7 rfl kp0 (by decide) rfl rfl rfl (fun k14 => ?_)
      refine jT.call rfl rfl (Nat.le_of_ble_eq_true rfl) (Nat.le_of_ble_eq_true rfl) (jrv_of oh7 k13 (by decide) rfl (by decide) rfl _) rfl (mj_Ok.up (Nat.add_le_add_left (by decide) D) (jc_30 (D := D) ty hg oh7 k13 k14)) rfl rfl (fun v15 h16 qv15 oh16 => ?_)
      obtain rfl : v15 = none := qv15
      refine mj_T.eq (pc2 := 69) (st2 := []) ?_ rfl rfl rfl rfl
      refine mj_T.pl rfl rfl rfl rfl ?_
      refine mj_T.pl (loc' := [some (.ref p0), some (.int (jn p1)), some (.ref (R (R p0 0) 4)), some (.int (jn 1))]) rfl rfl rfl rfl ?_
      have t71_19 : ∀ (k20 : Nat) (x17 : Int) (h18 : mj_H), (-2147483648 ≤ x17 ∧ x17 ≤ 2147483647) → (jO K L R g n tm h18) → (1 ≤ x17) → (2147483647 - x17 : Int).toNat = k20 → mj_T (D + 2) mj_m72 71 [some (.ref p0), some (.int (jn p1)), some (.ref (R (R p0 0) 4)), some (.int (jn x17))] [] h18 (jQ K L R g n tm [] jV0) := by
        refine jInd (fun k20 ih21 => ?_)
        intro x17 h18 rx17 oh18 ix17 hm22
        refine mj_T.pl rfl rfl rfl rfl ?_
        refine mj_T.pl rfl rfl rfl rfl ?_
        refine jT.icmp rfl rx17 rp1 (fun c73 => ?_) (fun c73 => ?_)
        · have c73 := of_decide_eq_true c73
          refine mj_T.pl rfl rfl rfl rfl ?_
          refine jT.getR 16 118 18 ty oh18 rfl kp0 (by decide) rfl rfl rfl (fun k23 => ?_)
          refine mj_T.pl rfl rfl rfl rfl ?_
          refine jT.call rfl rfl (Nat.le_of_ble_eq_true rfl) (Nat.le_of_ble_eq_true rfl) (jrv_of oh18 k23 (by decide) rfl (by decide) rfl _) rfl (mj_Ok.up (Nat.add_le_add_left (by decide) D) (jc_87 (D := D) ty hg oh18 k23 k2)) rfl rfl (fun v24 h25 qv24 oh25 => ?_)
          obtain rfl : v24 = none := qv24
          refine mj_T.eq (pc2 := 119) (st2 := []) ?_ rfl rfl rfl rfl
          exact jT.ret oh25 rfl rfl rfl rfl
        · have c73 := of_decide_eq_false c73
          refine mj_T.pl rfl rfl rfl rfl ?_
          refine jT.getR 16 111 11 ty oh18 rfl kp0 (by decide) rfl rfl rfl (fun k26 => ?_)
          refine jT.getR 11 112 12 ty oh18 rfl k26 (by decide) rfl rfl rfl (fun k27 => ?_)
          iterate 2 refine mj_T.pl rfl rfl rfl rfl ?_
          refine jT.getR 16 111 11 ty oh18 rfl kp0 (by decide) rfl rfl rfl (fun k28 => ?_)
          refine jT.getR 11 118 18 ty oh18 rfl k28 (by decide) rfl rfl rfl (fun k29 => ?_)
          refine jT.call rfl rfl (Nat.le_of_ble_eq_true rfl) (Nat.le_of_ble_eq_true rfl) (jrv_of oh18 k27 (by decide) rfl (by decide) rfl _) rfl (mj_Ok.up (Nat.add_le_add_left (by decide) D) (jc_31 (D := D) ty hg oh18 k27 k2 k29)) rfl rfl (fun v30 h31 qv30 oh31 => ?_)
          obtain rfl : v30 = none := qv30
          refine mj_T.eq (pc2 := 94) (st2 := []) ?_ rfl rfl rfl rfl
          iterate 2 refine mj_T.pl rfl rfl rfl rfl ?_
          refine jT.getR 16 111 11 ty oh31 rfl kp0 (by decide) rfl rfl rfl (fun k32 => ?_)
          refine jT.getR 11 118 18 ty oh31 rfl k32 (by decide) rfl rfl rfl (fun k33 => ?_)
          refine jT.call rfl rfl (Nat.le_of_ble_eq_true rfl) (Nat.le_of_ble_eq_true rfl) (jrv_of oh31 k2 (by decide) rfl (by decide) rfl _) rfl (mj_Ok.up (Nat.add_le_add_left (by decide) D) (jc_87 (D := D) ty hg oh31 k2 k33)) rfl rfl (fun v34 h35 qv34 oh35 => ?_)
          obtain rfl : v34 = none := qv34
          refine mj_T.eq (pc2 := 105) (st2 := []) ?_ rfl rfl rfl rfl
          refine jT.iinc rfl rfl (fun z36 rz36 ez36 => ?_)
          replace ez36 := ez36 ⟨by omega, by omega⟩
          refine mj_T.eq (loc2 := [some (.ref p0), some (.int (jn p1)), some (.ref (R (R p0 0) 4)), some (.int (jn z36))]) ?_ rfl rfl rfl rfl
          refine mj_T.pl rfl rfl rfl rfl ?_
          exact ih21 ((2147483647 - z36 : Int).toNat) (by omega) z36 h35 rz36 oh35 (by omega) rfl
      exact t71_19 _ 1 h16 ⟨by decide, by decide⟩ oh16 (by omega) rfl
    · have c20 := of_decide_eq_false c20
      refine mj_T.pl rfl rfl rfl rfl ?_
      refine jT.getR 16 111 11 ty oh7 rfl kp0 (by decide) rfl rfl rfl (fun k37 => ?_)
      refine jT.getR 11 118 18 ty oh7 rfl k37 (by decide) rfl rfl rfl (fun k38 => ?_)
      iterate 2 refine mj_T.pl rfl rfl rfl rfl ?_
      refine jT.getR 16 118 18 ty oh7 rfl kp0 (by decide) rfl rfl rfl (fun k39 => ?_)
      refine jT.call rfl rfl (Nat.le_of_ble_eq_true rfl) (Nat.le_of_ble_eq_true rfl) (jrv_of oh7 k38 (by decide) rfl (by decide) rfl _) rfl (mj_Ok.up (Nat.add_le_add_left (by decide) D) (jc_95 (D := D) ty hg oh7 k38 k2 k39)) rfl rfl (fun v40 h41 qv40 oh41 => ?_)
      obtain rfl : v40 = none := qv40
      refine mj_T.eq (pc2 := 38) (st2 := []) ?_ rfl rfl rfl rfl
      iterate 2 refine mj_T.pl rfl rfl rfl rfl ?_
      refine jT.getR 16 111 11 ty oh41 rfl kp0 (by decide) rfl rfl rfl (fun k42 => ?_)
      refine jT.getR 11 118 18 ty oh41 rfl k42 (by decide) rfl rfl rfl (fun k43 => ?_)
      refine jT.call rfl rfl (Nat.le_of_ble_eq_true rfl) (Nat.le_of_ble_eq_true rfl) (jrv_of oh41 k2 (by decide) rfl (by decide) rfl _) rfl (mj_Ok.up (Nat.add_le_add_left (by decide) D) (jc_87 (D := D) ty hg oh41 k2 k43)) rfl rfl (fun v44 h45 qv44 oh45 => ?_)
      obtain rfl : v44 = none := qv44
      refine mj_T.eq (pc2 := 49) (st2 := []) ?_ rfl rfl rfl rfl
      refine jT.iinc rfl rfl (fun z46 rz46 ez46 => ?_)
      replace ez46 := ez46 ⟨by omega, by omega⟩
      refine mj_T.eq (loc2 := [some (.ref p0), some (.int (jn p1)), some (.ref (R (R p0 0) 4)), some (.int (jn z46))]) ?_ rfl rfl rfl rfl
      refine mj_T.pl rfl rfl rfl rfl ?_
      exact ih10 ((2147483647 - z46 : Int).toNat) (by omega) z46 h45 rz46 oh45 (by omega) rfl
  exact t18_8 _ 1 h5 ⟨by decide, by decide⟩ oh5 (by omega) rfl
-- PolyRegisters$Sturm.makeNext(LPolyRegisters$Poly;LPolyRegisters$Poly;LPolyRegisters$Poly;)V
theorem jc_71 {D n : Nat} {tm : Int} {h g : mj_H} {K L : Nat → Nat} {R : Nat → Nat → Nat} {p0 : Nat} {p1 : Nat} {p2 : Nat} {p3 : Nat} (ty : jTY K L R) (hg : g.length ≤ n) (o : jO K L R g n tm h) (kp0 : K p0 = 16) (kp1 : K p1 = 13) (kp2 : K p2 = 13) (kp3 : K p3 = 13) : mj_Ok (D + 4) 71 [.ref p0, .ref p1, .ref p2, .ref p3] h (jQ K L R g n tm [] jV0) := by
  refine mj_Ok.of (M := mj_m71) (loc := [some (.ref p0), some (.ref p1), some (.ref p2), some (.ref p3), none, none]) rfl rfl rfl ?_
  refine mj_T.pl rfl rfl rfl rfl ?_
  refine jT.getI 13 6 o rfl kp1 (by decide) rfl rfl rfl (fun z1 (az1 : (-1) ≤ z1) (bz1 : z1 ≤ 30) fz1 => ?_)
  have rz1 : -2147483648 ≤ z1 ∧ z1 ≤ 2147483647 := ⟨by omega, by omega⟩
  refine mj_T.pl rfl rfl rfl rfl ?_
  refine jT.getI 13 6 o rfl kp2 (by decide) rfl rfl rfl (fun z2 (az2 : (-1) ≤ z2) (bz2 : z2 ≤ 30) fz2 => ?_)
  have rz2 : -2147483648 ≤ z2 ∧ z2 ≤ 2147483647 := ⟨by omega, by omega⟩
  refine jT.isub rfl (fun z3 rz3 ez3 => ?_)
  replace ez3 := ez3 ⟨by omega, by omega⟩
  refine mj_T.pl (loc' := [some (.ref p0), some (.ref p1), some (.ref p2), some (.ref p3), some (.int (jn z3)), none]) rfl rfl rfl rfl ?_
  refine mj_T.pl rfl rfl rfl rfl ?_
  refine jT.getR 16 111 11 ty o rfl kp0 (by decide) rfl rfl rfl (fun k4 => ?_)
  refine jT.getR 11 113 13 ty o rfl k4 (by decide) rfl rfl rfl (fun k5 => ?_)
  refine mj_T.pl rfl rfl rfl rfl ?_
  refine jT.call rfl rfl (Nat.le_of_ble_eq_true rfl) (Nat.le_of_ble_eq_true rfl) (jrv_of o k5 (by decide) rfl (by decide) rfl _) rfl (mj_Ok.up (Nat.add_le_add_left (by decide) D) (jc_41 (D := D) ty hg o k5 kp1)) rfl rfl (fun v6 h7 qv6 oh7 => ?_)
  obtain rfl : v6 = none := qv6
  refine mj_T.eq (pc2 := 22) (st2 := []) ?_ rfl rfl rfl rfl
  refine mj_T.pl rfl rfl rfl rfl ?_
  refine mj_T.pl (loc' := [some (.ref p0), some (.ref p1), some (.ref p2), some (.ref p3), some (.int (jn z3)), some (.int (jn z3))]) rfl rfl rfl rfl ?_
  have t26_10 : ∀ (k11 : Nat) (x8 : Int) (h9 : mj_H), (-2147483648 ≤ x8 ∧ x8 ≤ 2147483647) → (jO K L R g n tm h9) → (x8 ≤ z3) → (x8 + 1 : Int).toNat = k11 → mj_T (D + 3) mj_m71 26 [some (.ref p0), some (.ref p1), some (.ref p2), some (.ref p3), some (.int (jn z3)), some (.int (jn x8))] [] h9 (jQ K L R g n tm [] jV0) := by
    refine jInd (fun k11 ih12 => ?_)
    intro x8 h9 rx8 oh9 ix8 hm13
    refine mj_T.pl rfl rfl rfl rfl ?_
    refine jT.if0 rfl rx8 (fun c28 => ?_) (fun c28 => ?_)
    · have c28 := of_decide_eq_true c28
      refine mj_T.pl rfl rfl rfl rfl ?_
      refine jT.getR 16 111 11 ty oh9 rfl kp0 (by decide) rfl rfl rfl (fun k14 => ?_)
      refine jT.getR 11 113 13 ty oh9 rfl k14 (by decide) rfl rfl rfl (fun k15 => ?_)
      refine jT.call rfl rfl (Nat.le_of_ble_eq_true rfl) (Nat.le_of_ble_eq_true rfl) (jrv_of oh9 k15 (by decide) rfl (by decide) rfl _) rfl (mj_Ok.up (Nat.add_le_add_left (by decide) D) (jc_42 (D := D) ty hg oh9 k15)) rfl rfl (fun v16 h17 qv16 oh17 => ?_)
      obtain rfl : v16 = none := qv16
      refine mj_T.eq (pc2 := 64) (st2 := []) ?_ rfl rfl rfl rfl
      refine mj_T.pl rfl rfl rfl rfl ?_
      refine jT.getR 16 111 11 ty oh17 rfl kp0 (by decide) rfl rfl rfl (fun k18 => ?_)
      refine mj_T.pl rfl rfl rfl rfl ?_
      refine jT.getR 16 111 11 ty oh17 rfl kp0 (by decide) rfl rfl rfl (fun k19 => ?_)
      refine jT.getR 11 113 13 ty oh17 rfl k19 (by decide) rfl rfl rfl (fun k20 => ?_)
      refine mj_T.pl rfl rfl rfl rfl ?_
      refine jT.getR 16 118 18 ty oh17 rfl kp0 (by decide) rfl rfl rfl (fun k21 => ?_)
      refine mj_T.pl rfl rfl rfl rfl ?_
      refine jT.call rfl rfl (Nat.le_of_ble_eq_true rfl) (Nat.le_of_ble_eq_true rfl) (jrv_of oh17 k18 (by decide) rfl (by decide) rfl _) rfl (mj_Ok.up (Nat.add_le_add_left (by decide) D) (jc_20 (D := D) ty hg oh17 k18 k20 k21 ⟨by decide, by decide⟩)) rfl rfl (fun v22 h23 qv22 oh23 => ?_)
      obtain rfl : v22 = none := qv22
      refine mj_T.eq (pc2 := 83) (st2 := []) ?_ rfl rfl rfl rfl
      refine mj_T.pl rfl rfl rfl rfl ?_
      refine jT.getR 16 111 11 ty oh23 rfl kp0 (by decide) rfl rfl rfl (fun k24 => ?_)
      refine mj_T.pl rfl rfl rfl rfl ?_
      refine jT.getR 16 111 11 ty oh23 rfl kp0 (by decide) rfl rfl rfl (fun k25 => ?_)
      refine jT.getR 11 113 13 ty oh23 rfl k25 (by decide) rfl rfl rfl (fun k26 => ?_)
      refine mj_T.pl rfl rfl rfl rfl ?_
      refine jT.getR 16 118 18 ty oh23 rfl kp0 (by decide) rfl rfl rfl (fun k27 => ?_)
      refine mj_T.pl rfl rfl rfl rfl ?_
      refine jT.call rfl rfl (Nat.le_of_ble_eq_true rfl) (Nat.le_of_ble_eq_true rfl) (jrv_of oh23 k24 (by decide) rfl (by decide) rfl _) rfl (mj_Ok.up (Nat.add_le_add_left (by decide) D) (jc_20 (D := D) ty hg oh23 k24 k26 k27 rz3)) rfl rfl (fun v28 h29 qv28 oh29 => ?_)
      obtain rfl : v28 = none := qv28
      refine mj_T.eq (pc2 := 103) (st2 := []) ?_ rfl rfl rfl rfl
      iterate 2 refine mj_T.pl rfl rfl rfl rfl ?_
      refine jT.getR 16 111 11 ty oh29 rfl kp0 (by decide) rfl rfl rfl (fun k30 => ?_)
      refine jT.getR 11 113 13 ty oh29 rfl k30 (by decide) rfl rfl rfl (fun k31 => ?_)
      refine jT.call rfl rfl (Nat.le_of_ble_eq_true rfl) (Nat.le_of_ble_eq_true rfl) (jrv_of oh29 kp3 (by decide) rfl (by decide) rfl _) rfl (mj_Ok.up (Nat.add_le_add_left (by decide) D) (jc_41 (D := D) ty hg oh29 kp3 k31)) rfl rfl (fun v32 h33 qv32 oh33 => ?_)
      obtain rfl : v32 = none := qv32
      refine mj_T.eq (pc2 := 114) (st2 := []) ?_ rfl rfl rfl rfl
      refine mj_T.pl rfl rfl rfl rfl ?_
      refine jT.callp rfl rfl (Nat.le_of_ble_eq_true rfl) (Nat.le_of_ble_eq_true rfl) (jrv_of oh33 kp2 (by decide) rfl (by decide) rfl _) rfl (mj_Ok.up (Nat.add_le_add_left (by decide) D) (jc_37 (D := D) ty hg oh33 kp2)) rfl rfl (fun v34 qv34 => ?_)
      obtain ⟨a35, ka35, rfl⟩ := qv34
      refine mj_T.eq (pc2 := 118) (st2 := [.ref a35]) ?_ rfl rfl rfl rfl
      refine jT.getI 18 0 oh33 rfl ka35 (by decide) rfl rfl rfl (fun z36 (az36 : (-2147483648) ≤ z36) (bz36 : z36 ≤ 2147483647) fz36 => ?_)
      have rz36 : -2147483648 ≤ z36 ∧ z36 ≤ 2147483647 := ⟨by omega, by omega⟩
      have t135_38 : ∀ (h37 : mj_H), (jO K L R g n tm h37) → mj_T (D + 3) mj_m71 135 [some (.ref p0), some (.ref p1), some (.ref p2), some (.ref p3), some (.int (jn z3)), some (.int (jn x8))] [] h37 (jQ K L R g n tm [] jV0) := by
        intro h37 oh37
        refine mj_T.pl rfl rfl rfl rfl ?_
        refine jT.getR 16 118 18 ty oh37 rfl kp0 (by decide) rfl rfl rfl (fun k39 => ?_)
        refine mj_T.pl rfl rfl rfl rfl ?_
        refine jT.callp rfl rfl (Nat.le_of_ble_eq_true rfl) (Nat.le_of_ble_eq_true rfl) (jrv_of oh37 kp2 (by decide) rfl (by decide) rfl _) rfl (mj_Ok.up (Nat.add_le_add_left (by decide) D) (jc_37 (D := D) ty hg oh37 kp2)) rfl rfl (fun v40 qv40 => ?_)
        obtain ⟨a41, ka41, rfl⟩ := qv40
        refine mj_T.eq (pc2 := 143) (st2 := [.ref a41, .ref (R p0 3)]) ?_ rfl rfl rfl rfl
        refine jT.call rfl rfl (Nat.le_of_ble_eq_true rfl) (Nat.le_of_ble_eq_true rfl) (jrv_of oh37 k39 (by decide) rfl (by decide) rfl _) rfl (mj_Ok.up (Nat.add_le_add_left (by decide) D) (jc_88 (D := D) ty hg oh37 k39 ka41)) rfl rfl (fun v42 h43 qv42 oh43 => ?_)
        obtain rfl : v42 = none := qv42
        refine mj_T.eq (pc2 := 146) (st2 := []) ?_ rfl rfl rfl rfl
        refine mj_T.pl rfl rfl rfl rfl ?_
        refine jT.if0 rfl rz3 (fun c148 => ?_) (fun c148 => ?_)
        · have c148 := of_decide_eq_true c148
          exact jT.ret oh43 rfl rfl rfl rfl
        · have c148 := of_decide_eq_false c148
          iterate 2 refine mj_T.pl rfl rfl rfl rfl ?_
          refine jT.call rfl rfl (Nat.le_of_ble_eq_true rfl) (Nat.le_of_ble_eq_true rfl) (jrv_of oh43 kp0 (by decide) rfl (by decide) rfl _) rfl (mj_Ok.up (Nat.add_le_add_left (by decide) D) (jc_72 (D := D) ty hg oh43 kp0 rz3)) rfl rfl (fun v44 h45 qv44 oh45 => ?_)
          obtain rfl : v44 = none := qv44
          refine mj_T.eq (pc2 := 157) (st2 := []) ?_ rfl rfl rfl rfl
          exact jT.ret oh45 rfl rfl rfl rfl
      have t131_46 : mj_T (D + 3) mj_m71 131 [some (.ref p0), some (.ref p1), some (.ref p2), some (.ref p3), some (.int (jn z3)), some (.int (jn x8))] [] h33 (jQ K L R g n tm [] jV0) := by
        refine mj_T.pl rfl rfl rfl rfl ?_
        refine jT.call rfl rfl (Nat.le_of_ble_eq_true rfl) (Nat.le_of_ble_eq_true rfl) (jrv_of oh33 kp3 (by decide) rfl (by decide) rfl _) rfl (mj_Ok.up (Nat.add_le_add_left (by decide) D) (jc_43 (D := D) ty hg oh33 kp3)) rfl rfl (fun v47 h48 qv47 oh48 => ?_)
        obtain rfl : v47 = none := qv47
        refine mj_T.eq (pc2 := 135) (st2 := []) ?_ rfl rfl rfl rfl
        exact t135_38 h48 oh48
      refine jT.if0 rfl rz36 (fun c121 => ?_) (fun c121 => ?_)
      · have c121 := of_decide_eq_true c121
        exact t131_46 
      · have c121 := of_decide_eq_false c121
        iterate 2 refine mj_T.pl rfl rfl rfl rfl ?_
        refine jT.irem rfl ⟨by decide, by decide⟩ (by decide) (fun z49 rz49 => ?_)
        refine jT.if0 rfl rz49 (fun c128 => ?_) (fun c128 => ?_)
        · have c128 := of_decide_eq_true c128
          exact t135_38 h33 oh33
        · have c128 := of_decide_eq_false c128
          exact t131_46 
    · have c28 := of_decide_eq_false c28
      refine mj_T.pl rfl rfl rfl rfl ?_
      refine jT.getR 16 111 11 ty oh9 rfl kp0 (by decide) rfl rfl rfl (fun k50 => ?_)
      refine mj_T.pl rfl rfl rfl rfl ?_
      refine jT.getR 16 111 11 ty oh9 rfl kp0 (by decide) rfl rfl rfl (fun k51 => ?_)
      refine jT.getR 11 113 13 ty oh9 rfl k51 (by decide) rfl rfl rfl (fun k52 => ?_)
      iterate 2 refine mj_T.pl rfl rfl rfl rfl ?_
      refine jT.call rfl rfl (Nat.le_of_ble_eq_true rfl) (Nat.le_of_ble_eq_true rfl) (jrv_of oh9 k50 (by decide) rfl (by decide) rfl _) rfl (mj_Ok.up (Nat.add_le_add_left (by decide) D) (jc_17 (D := D) ty hg oh9 k50 k52 kp2 rx8)) rfl rfl (fun v53 h54 qv53 oh54 => ?_)
      obtain rfl : v53 = none := qv53
      refine mj_T.eq (pc2 := 48) (st2 := []) ?_ rfl rfl rfl rfl
      refine jT.iinc rfl rfl (fun z55 rz55 ez55 => ?_)
      replace ez55 := ez55 ⟨by omega, by omega⟩
      refine mj_T.eq (loc2 := [some (.ref p0), some (.ref p1), some (.ref p2), some (.ref p3), some (.int (jn z3)), some (.int (jn z55))]) ?_ rfl rfl rfl rfl
      refine mj_T.pl rfl rfl rfl rfl ?_
      exact ih12 ((z55 + 1 : Int).toNat) (by omega) z55 h54 rz55 oh54 (by omega) rfl
  exact t26_10 _ z3 h7 rz3 oh7 (by omega) rfl
-- PolyRegisters$Sturm.goOn()V
theorem jc_70 {D n : Nat} {tm : Int} {h g : mj_H} {K L : Nat → Nat} {R : Nat → Nat → Nat} {p0 : Nat} (ty : jTY K L R) (hg : g.length ≤ n) (o : jO K L R g n tm h) (kp0 : K p0 = 16) : mj_Ok (D + 5) 70 [.ref p0] h (jQ K L R g n tm [] jV0) := by
  refine mj_Ok.of (M := mj_m70) (loc := [some (.ref p0), none]) rfl rfl rfl ?_
  iterate 2 refine mj_T.pl rfl rfl rfl rfl ?_
  refine jT.getR 16 105 5 ty o rfl kp0 (by decide) rfl rfl rfl (fun k1 => ?_)
  refine mj_T.pl rfl rfl rfl rfl ?_
  have l2 : 14 ≤ (L (R p0 1) : Int) ∧ (L (R p0 1) : Int) ≤ 14 := jlen 5 ty k1 (by decide) (by decide)
  refine jT.aald 5 13 ty o rfl k1 (by decide) (by decide) rfl ⟨by decide, by decide⟩ ⟨by omega, by omega⟩ (fun k3 => ?_)
  refine jT.getI 13 6 o rfl k3 (by decide) rfl rfl rfl (fun z4 (az4 : (-1) ≤ z4) (bz4 : z4 ≤ 30) fz4 => ?_)
  have rz4 : -2147483648 ≤ z4 ∧ z4 ≤ 2147483647 := ⟨by omega, by omega⟩
  have t18_6 : ∀ (x5 : Int), (-2147483648 ≤ x5 ∧ x5 ≤ 2147483647) → mj_T (D + 4) mj_m70 18 [some (.ref p0), none] [.int (jn x5), .ref p0] h (jQ K L R g n tm [] jV0) := by
    intro x5 rx5
    refine jT.putI 16 0 o rfl kp0 (by decide) rfl rfl rfl (Or.inl rfl) (by show (-2147483648) ≤ x5; omega) (by show x5 ≤ 2147483647; omega) (fun h7 oh7 wh7 uh7 => ?_)
    refine mj_T.pl rfl rfl rfl rfl ?_
    refine jT.getR 16 118 18 ty oh7 rfl kp0 (by decide) rfl rfl rfl (fun k8 => ?_)
    refine jT.lc 1 rfl rfl ?_
    refine jT.call rfl rfl (Nat.le_of_ble_eq_true rfl) (Nat.le_of_ble_eq_true rfl) (jrv_of oh7 k8 (by decide) rfl (by decide) rfl _) rfl (mj_Ok.up (Nat.add_le_add_left (by decide) D) (jc_86 (D := D) ty hg oh7 k8 ⟨by decide, by decide⟩)) rfl rfl (fun v9 h10 qv9 oh10 => ?_)
    obtain rfl : v9 = none := qv9
    refine mj_T.eq (pc2 := 29) (st2 := []) ?_ rfl rfl rfl rfl
    refine mj_T.pl rfl rfl rfl rfl ?_
    refine jT.getR 16 118 18 ty oh10 rfl kp0 (by decide) rfl rfl rfl (fun k11 => ?_)
    refine jT.lc 1 rfl rfl ?_
    refine jT.call rfl rfl (Nat.le_of_ble_eq_true rfl) (Nat.le_of_ble_eq_true rfl) (jrv_of oh10 k11 (by decide) rfl (by decide) rfl _) rfl (mj_Ok.up (Nat.add_le_add_left (by decide) D) (jc_86 (D := D) ty hg oh10 k11 ⟨by decide, by decide⟩)) rfl rfl (fun v12 h13 qv12 oh13 => ?_)
    obtain rfl : v12 = none := qv12
    refine mj_T.eq (pc2 := 37) (st2 := []) ?_ rfl rfl rfl rfl
    refine mj_T.pl rfl rfl rfl rfl ?_
    refine mj_T.pl (loc' := [some (.ref p0), some (.int (jn 2))]) rfl rfl rfl rfl ?_
    have t39_16 : ∀ (k17 : Nat) (x14 : Int) (h15 : mj_H), (-2147483648 ≤ x14 ∧ x14 ≤ 2147483647) → (jO K L R g n tm h15) → (2 ≤ x14) → (2147483647 - x14 : Int).toNat = k17 → mj_T (D + 4) mj_m70 39 [some (.ref p0), some (.int (jn x14))] [] h15 (jQ K L R g n tm [] jV0) := by
      refine jInd (fun k17 ih18 => ?_)
      intro x14 h15 rx14 oh15 ix14 hm19
      refine mj_T.pl rfl rfl rfl rfl ?_
      refine mj_T.pl rfl rfl rfl rfl ?_
      refine jT.getR 16 105 5 ty oh15 rfl kp0 (by decide) rfl rfl rfl (fun k20 => ?_)
      refine jT.alen 5 ty oh15 rfl k20 (by decide) (by decide) (fun z21 ez21 (az21 : 14 ≤ z21) (bz21 : z21 ≤ 14) => ?_)
      have rz21 : -2147483648 ≤ z21 ∧ z21 ≤ 2147483647 := ⟨by omega, by omega⟩
      refine jT.icmp rfl rx14 rz21 (fun c45 => ?_) (fun c45 => ?_)
      · have c45 := of_decide_eq_true c45
        exact jT.ret oh15 rfl rfl rfl rfl
      · have c45 := of_decide_eq_false c45
        refine mj_T.pl rfl rfl rfl rfl ?_
        refine jT.getR 16 105 5 ty oh15 rfl kp0 (by decide) rfl rfl rfl (fun k22 => ?_)
        iterate 2 refine mj_T.pl rfl rfl rfl rfl ?_
        refine jT.isub rfl (fun z23 rz23 ez23 => ?_)
        replace ez23 := ez23 ⟨by omega, by omega⟩
        refine jT.aald 5 13 ty oh15 rfl k22 (by decide) (by decide) rfl rz23 ⟨by omega, by omega⟩ (fun k24 => ?_)
        refine jT.getI 13 6 oh15 rfl k24 (by decide) rfl rfl rfl (fun z25 (az25 : (-1) ≤ z25) (bz25 : z25 ≤ 30) fz25 => ?_)
        have rz25 : -2147483648 ≤ z25 ∧ z25 ≤ 2147483647 := ⟨by omega, by omega⟩
        refine jT.if0 rfl rz25 (fun c59 => ?_) (fun c59 => ?_)
        · have c59 := of_decide_eq_true c59
          exact jT.ret oh15 rfl rfl rfl rfl
        · have c59 := of_decide_eq_false c59
          iterate 2 refine mj_T.pl rfl rfl rfl rfl ?_
          refine jT.getR 16 105 5 ty oh15 rfl kp0 (by decide) rfl rfl rfl (fun k26 => ?_)
          iterate 2 refine mj_T.pl rfl rfl rfl rfl ?_
          refine jT.isub rfl (fun z27 rz27 ez27 => ?_)
          replace ez27 := ez27 ⟨by omega, by omega⟩
          refine jT.aald 5 13 ty oh15 rfl k26 (by decide) (by decide) rfl rz27 ⟨by omega, by omega⟩ (fun k28 => ?_)
          refine mj_T.pl rfl rfl rfl rfl ?_
          refine jT.getR 16 105 5 ty oh15 rfl kp0 (by decide) rfl rfl rfl (fun k29 => ?_)
          iterate 2 refine mj_T.pl rfl rfl rfl rfl ?_
          refine jT.isub rfl (fun z30 rz30 ez30 => ?_)
          replace ez30 := ez30 ⟨by omega, by omega⟩
          refine jT.aald 5 13 ty oh15 rfl k29 (by decide) (by decide) rfl rz30 ⟨by omega, by omega⟩ (fun k31 => ?_)
          refine mj_T.pl rfl rfl rfl rfl ?_
          refine jT.getR 16 105 5 ty oh15 rfl kp0 (by decide) rfl rfl rfl (fun k32 => ?_)
          refine mj_T.pl rfl rfl rfl rfl ?_
          refine jT.aald 5 13 ty oh15 rfl k32 (by decide) (by decide) rfl rx14 ⟨by omega, by omega⟩ (fun k33 => ?_)
          refine jT.call rfl rfl (Nat.le_of_ble_eq_true rfl) (Nat.le_of_ble_eq_true rfl) (jrv_of oh15 kp0 (by decide) rfl (by decide) rfl _) rfl (mj_Ok.up (Nat.add_le_add_left (by decide) D) (jc_71 (D := D) ty hg oh15 kp0 k28 k31 k33)) rfl rfl (fun v34 h35 qv34 oh35 => ?_)
          obtain rfl : v34 = none := qv34
          refine mj_T.eq (pc2 := 88) (st2 := []) ?_ rfl rfl rfl rfl
          refine mj_T.pl rfl rfl rfl rfl ?_
          refine jT.getR 16 105 5 ty oh35 rfl kp0 (by decide) rfl rfl rfl (fun k36 => ?_)
          refine mj_T.pl rfl rfl rfl rfl ?_
          refine jT.aald 5 13 ty oh35 rfl k36 (by decide) (by decide) rfl rx14 ⟨by omega, by omega⟩ (fun k37 => ?_)
          refine jT.getI 13 6 oh35 rfl k37 (by decide) rfl rfl rfl (fun z38 (az38 : (-1) ≤ z38) (bz38 : z38 ≤ 30) fz38 => ?_)
          have rz38 : -2147483648 ≤ z38 ∧ z38 ≤ 2147483647 := ⟨by omega, by omega⟩
          refine jT.if0 rfl rz38 (fun c97 => ?_) (fun c97 => ?_)
          · have c97 := of_decide_eq_true c97
            iterate 3 refine mj_T.pl rfl rfl rfl rfl ?_
            refine jT.iadd rfl (fun z39 rz39 ez39 => ?_)
            replace ez39 := ez39 ⟨by omega, by omega⟩
            refine jT.putI 16 0 oh35 rfl kp0 (by decide) rfl rfl rfl (Or.inl rfl) (by show (-2147483648) ≤ z39; omega) (by show z39 ≤ 2147483647; omega) (fun h40 oh40 wh40 uh40 => ?_)
            refine jT.iinc rfl rfl (fun z41 rz41 ez41 => ?_)
            replace ez41 := ez41 ⟨by omega, by omega⟩
            refine mj_T.eq (loc2 := [some (.ref p0), some (.int (jn z41))]) ?_ rfl rfl rfl rfl
            refine mj_T.pl rfl rfl rfl rfl ?_
            exact ih18 ((2147483647 - z41 : Int).toNat) (by omega) z41 h40 rz41 oh40 (by omega) rfl
          · have c97 := of_decide_eq_false c97
            exact jT.ret oh35 rfl rfl rfl rfl
    exact t39_16 _ 2 h13 ⟨by decide, by decide⟩ oh13 (by omega) rfl
  refine jT.if0 rfl rz4 (fun c10 => ?_) (fun c10 => ?_)
  · have c10 := of_decide_eq_true c10
    refine mj_T.pl rfl rfl rfl rfl ?_
    exact t18_6 2 ⟨by decide, by decide⟩
  · have c10 := of_decide_eq_false c10
    iterate 2 refine mj_T.pl rfl rfl rfl rfl ?_
    exact t18_6 1 ⟨by decide, by decide⟩
-- PolyRegisters$Sturm.last()LPolyRegisters$Poly;
theorem jc_73 {D n : Nat} {tm : Int} {h g : mj_H} {K L : Nat → Nat} {R : Nat → Nat → Nat} {p0 : Nat} (ty : jTY K L R) (hg : g.length ≤ n) (o : jO K L R g n tm h) (kp0 : K p0 = 16) : mj_Ok (D + 1) 73 [.ref p0] h (jQp K L R g n tm h [] (jVr K 13)) := by
  refine mj_Ok.of (M := mj_m73) (loc := [some (.ref p0)]) rfl rfl rfl ?_
  refine mj_T.pl rfl rfl rfl rfl ?_
  refine jT.getR 16 105 5 ty o rfl kp0 (by decide) rfl rfl rfl (fun k1 => ?_)
  refine mj_T.pl rfl rfl rfl rfl ?_
  refine jT.getI 16 0 o rfl kp0 (by decide) rfl rfl rfl (fun z2 (az2 : (-2147483648) ≤ z2) (bz2 : z2 ≤ 2147483647) fz2 => ?_)
  have rz2 : -2147483648 ≤ z2 ∧ z2 ≤ 2147483647 := ⟨by omega, by omega⟩
  refine jT.if0 rfl rz2 (fun c8 => ?_) (fun c8 => ?_)
  · have c8 := of_decide_eq_true c8
    refine mj_T.pl rfl rfl rfl rfl ?_
    have l3 : 14 ≤ (L (R p0 1) : Int) ∧ (L (R p0 1) : Int) ≤ 14 := jlen 5 ty k1 (by decide) (by decide)
    refine jT.aald 5 13 ty o rfl k1 (by decide) (by decide) rfl ⟨by decide, by decide⟩ ⟨by omega, by omega⟩ (fun k4 => ?_)
    exact jT.retp rfl rfl rfl ⟨(R (R p0 1) (0 : Int).toNat), k4, rfl⟩
  · have c8 := of_decide_eq_false c8
    refine mj_T.pl rfl rfl rfl rfl ?_
    refine jT.getK 16 0 o rfl kp0 (by decide) rfl rfl rfl fz2.symm ?_
    refine mj_T.pl rfl rfl rfl rfl ?_
    refine jT.getR 16 105 5 ty o rfl kp0 (by decide) rfl rfl rfl (fun k5 => ?_)
    refine jT.alen 5 ty o rfl k5 (by decide) (by decide) (fun z6 ez6 (az6 : 14 ≤ z6) (bz6 : z6 ≤ 14) => ?_)
    have rz6 : -2147483648 ≤ z6 ∧ z6 ≤ 2147483647 := ⟨by omega, by omega⟩
    refine jT.icmp rfl rz2 rz6 (fun c20 => ?_) (fun c20 => ?_)
    · have c20 := of_decide_eq_true c20
      refine mj_T.pl rfl rfl rfl rfl ?_
      refine jT.aald 5 13 ty o rfl k1 (by decide) (by decide) rfl ⟨by decide, by decide⟩ ⟨by omega, by omega⟩ (fun k7 => ?_)
      exact jT.retp rfl rfl rfl ⟨(R (R p0 1) (0 : Int).toNat), k7, rfl⟩
    · have c20 := of_decide_eq_false c20
      refine mj_T.pl rfl rfl rfl rfl ?_
      refine jT.getK 16 0 o rfl kp0 (by decide) rfl rfl rfl fz2.symm ?_
      refine mj_T.pl rfl rfl rfl rfl ?_
      refine jT.isub rfl (fun z8 rz8 ez8 => ?_)
      replace ez8 := ez8 ⟨by omega, by omega⟩
      refine mj_T.pl rfl rfl rfl rfl ?_
      refine jT.aald 5 13 ty o rfl k1 (by decide) (by decide) rfl rz8 ⟨by omega, by omega⟩ (fun k9 => ?_)
      exact jT.retp rfl rfl rfl ⟨(R (R p0 1) (z8 : Int).toNat), k9, rfl⟩
-- PolyRegisters$Sturm.putDerivative()V
theorem jc_69 {D n : Nat} {tm : Int} {h g : mj_H} {K L : Nat → Nat} {R : Nat → Nat → Nat} {p0 : Nat} (ty : jTY K L R) (hg : g.length ≤ n) (o : jO K L R g n tm h) (kp0 : K p0 = 16) : mj_Ok (D + 3) 69 [.ref p0] h (jQ K L R g n tm [] jV0) := by
  refine mj_Ok.of (M := mj_m69) (loc := [some (.ref p0), none, none]) rfl rfl rfl ?_
  refine mj_T.pl rfl rfl rfl rfl ?_
  refine jT.getR 16 105 5 ty o rfl kp0 (by decide) rfl rfl rfl (fun k1 => ?_)
  refine mj_T.pl rfl rfl rfl rfl ?_
  have l2 : 14 ≤ (L (R p0 1) : Int) ∧ (L (R p0 1) : Int) ≤ 14 := jlen 5 ty k1 (by decide) (by decide)
  refine jT.aald 5 13 ty o rfl k1 (by decide) (by decide) rfl ⟨by decide, by decide⟩ ⟨by omega, by omega⟩ (fun k3 => ?_)
  refine mj_T.pl (loc' := [some (.ref p0), some (.ref (R (R p0 1) (1 : Int).toNat)), none]) rfl rfl rfl rfl ?_
  refine mj_T.pl rfl rfl rfl rfl ?_
  refine jT.call rfl rfl (Nat.le_of_ble_eq_true rfl) (Nat.le_of_ble_eq_true rfl) (jrv_of o k3 (by decide) rfl (by decide) rfl _) rfl (mj_Ok.up (Nat.add_le_add_left (by decide) D) (jc_39 (D := D) ty hg o k3)) rfl rfl (fun v4 h5 qv4 oh5 => ?_)
  obtain rfl : v4 = none := qv4
  refine mj_T.eq (pc2 := 11) (st2 := []) ?_ rfl rfl rfl rfl
  refine mj_T.pl rfl rfl rfl rfl ?_
  refine mj_T.pl (loc' := [some (.ref p0), some (.ref (R (R p0 1) (1 : Int).toNat)), some (.int (jn 1))]) rfl rfl rfl rfl ?_
  have t13_8 : ∀ (k9 : Nat) (x6 : Int) (h7 : mj_H), (-2147483648 ≤ x6 ∧ x6 ≤ 2147483647) → (jO K L R g n tm h7) → (1 ≤ x6) → (2147483647 - x6 : Int).toNat = k9 → mj_T (D + 2) mj_m69 13 [some (.ref p0), some (.ref (R (R p0 1) (1 : Int).toNat)), some (.int (jn x6))] [] h7 (jQ K L R g n tm [] jV0) := by
    refine jInd (fun k9 ih10 => ?_)
    intro x6 h7 rx6 oh7 ix6 hm11
    refine mj_T.pl rfl rfl rfl rfl ?_
    refine mj_T.pl rfl rfl rfl rfl ?_
    refine jT.getR 16 105 5 ty oh7 rfl kp0 (by decide) rfl rfl rfl (fun k12 => ?_)
    refine mj_T.pl rfl rfl rfl rfl ?_
    refine jT.aald 5 13 ty oh7 rfl k12 (by decide) (by decide) rfl ⟨by decide, by decide⟩ ⟨by omega, by omega⟩ (fun k13 => ?_)
    refine jT.getI 13 6 oh7 rfl k13 (by decide) rfl rfl rfl (fun z14 (az14 : (-1) ≤ z14) (bz14 : z14 ≤ 30) fz14 => ?_)
    have rz14 : -2147483648 ≤ z14 ∧ z14 ≤ 2147483647 := ⟨by omega, by omega⟩
    refine jT.icmp rfl rx6 rz14 (fun c23 => ?_) (fun c23 => ?_)
    · have c23 := of_decide_eq_true c23
      refine mj_T.pl rfl rfl rfl rfl ?_
      refine jT.call rfl rfl (Nat.le_of_ble_eq_true rfl) (Nat.le_of_ble_eq_true rfl) (jrv_of oh7 k3 (by decide) rfl (by decide) rfl _) rfl (mj_Ok.up (Nat.add_le_add_left (by decide) D) (jc_42 (D := D) ty hg oh7 k3)) rfl rfl (fun v15 h16 qv15 oh16 => ?_)
      obtain rfl : v15 = none := qv15
      refine mj_T.eq (pc2 := 68) (st2 := []) ?_ rfl rfl rfl rfl
      exact jT.ret oh16 rfl rfl rfl rfl
    · have c23 := of_decide_eq_false c23
      iterate 3 refine mj_T.pl rfl rfl rfl rfl ?_
      refine jT.isub rfl (fun z17 rz17 ez17 => ?_)
      replace ez17 := ez17 ⟨by omega, by omega⟩
      refine jT.callp rfl rfl (Nat.le_of_ble_eq_true rfl) (Nat.le_of_ble_eq_true rfl) (jrv_of oh7 k3 (by decide) rfl (by decide) rfl _) rfl (mj_Ok.up (Nat.add_le_add_left (by decide) D) (jc_36 (D := D) ty hg oh7 k3 rz17)) rfl rfl (fun v18 qv18 => ?_)
      obtain ⟨a19, ka19, rfl⟩ := qv18
      refine mj_T.eq (pc2 := 33) (st2 := [.ref a19]) ?_ rfl rfl rfl rfl
      refine mj_T.pl rfl rfl rfl rfl ?_
      refine jT.getR 16 105 5 ty oh7 rfl kp0 (by decide) rfl rfl rfl (fun k20 => ?_)
      refine mj_T.pl rfl rfl rfl rfl ?_
      refine jT.aald 5 13 ty oh7 rfl k20 (by decide) (by decide) rfl ⟨by decide, by decide⟩ ⟨by omega, by omega⟩ (fun k21 => ?_)
      refine mj_T.pl rfl rfl rfl rfl ?_
      refine jT.callp rfl rfl (Nat.le_of_ble_eq_true rfl) (Nat.le_of_ble_eq_true rfl) (jrv_of oh7 k21 (by decide) rfl (by decide) rfl _) rfl (mj_Ok.up (Nat.add_le_add_left (by decide) D) (jc_36 (D := D) ty hg oh7 k21 rx6)) rfl rfl (fun v22 qv22 => ?_)
      obtain ⟨a23, ka23, rfl⟩ := qv22
      refine mj_T.eq (pc2 := 43) (st2 := [.ref a23, .ref a19]) ?_ rfl rfl rfl rfl
      refine jT.call rfl rfl (Nat.le_of_ble_eq_true rfl) (Nat.le_of_ble_eq_true rfl) (jrv_of oh7 ka19 (by decide) rfl (by decide) rfl _) rfl (mj_Ok.up (Nat.add_le_add_left (by decide) D) (jc_87 (D := D) ty hg oh7 ka19 ka23)) rfl rfl (fun v24 h25 qv24 oh25 => ?_)
      obtain rfl : v24 = none := qv24
      refine mj_T.eq (pc2 := 46) (st2 := []) ?_ rfl rfl rfl rfl
      iterate 3 refine mj_T.pl rfl rfl rfl rfl ?_
      refine jT.isub rfl (fun z26 rz26 ez26 => ?_)
      replace ez26 := ez26 ⟨by omega, by omega⟩
      refine jT.callp rfl rfl (Nat.le_of_ble_eq_true rfl) (Nat.le_of_ble_eq_true rfl) (jrv_of oh25 k3 (by decide) rfl (by decide) rfl _) rfl (mj_Ok.up (Nat.add_le_add_left (by decide) D) (jc_36 (D := D) ty hg oh25 k3 rz26)) rfl rfl (fun v27 qv27 => ?_)
      obtain ⟨a28, ka28, rfl⟩ := qv27
      refine mj_T.eq (pc2 := 53) (st2 := [.ref a28]) ?_ rfl rfl rfl rfl
      refine mj_T.pl rfl rfl rfl rfl ?_
      refine jT.i2l rfl rx6 ?_
      have j29 : jR x6 := ⟨by omega, by omega⟩
      refine jT.call rfl rfl (Nat.le_of_ble_eq_true rfl) (Nat.le_of_ble_eq_true rfl) (jrv_of oh25 ka28 (by decide) rfl (by decide) rfl _) rfl (mj_Ok.up (Nat.add_le_add_left (by decide) D) (jc_96 (D := D) ty hg oh25 ka28 j29)) rfl rfl (fun v30 h31 qv30 oh31 => ?_)
      obtain rfl : v30 = none := qv30
      refine mj_T.eq (pc2 := 58) (st2 := []) ?_ rfl rfl rfl rfl
      refine jT.iinc rfl rfl (fun z32 rz32 ez32 => ?_)
      replace ez32 := ez32 ⟨by omega, by omega⟩
      refine mj_T.eq (loc2 := [some (.ref p0), some (.ref (R (R p0 1) (1 : Int).toNat)), some (.int (jn z32))]) ?_ rfl rfl rfl rfl
      refine mj_T.pl rfl rfl rfl rfl ?_
      exact ih10 ((2147483647 - z32 : Int).toNat) (by omega) z32 h31 rz32 oh31 (by omega) rfl
  exact t13_8 _ 1 h5 ⟨by decide, by decide⟩ oh5 (by omega) rfl
-- PolyRegisters$Sturm.changesFar(I)I
theorem jc_77 {D n : Nat} {tm : Int} {h g : mj_H} {K L : Nat → Nat} {R : Nat → Nat → Nat} {p0 : Nat} {p1 : Int} (ty : jTY K L R) (hg : g.length ≤ n) (o : jO K L R g n tm h) (kp0 : K p0 = 16) (rp1 : -2147483648 ≤ p1 ∧ p1 ≤ 2147483647) : mj_Ok (D + 3) 77 [.ref p0, .int (jn p1)] h (jQp K L R g n tm h [] (jVi (-2147483648) 2147483647)) := by
  refine mj_Ok.of (M := mj_m77) (loc := [some (.ref p0), some (.int (jn p1)), none, none, none, none]) rfl rfl rfl ?_
  refine mj_T.pl rfl rfl rfl rfl ?_
  refine mj_T.pl (loc' := [some (.ref p0), some (.int (jn p1)), some (.int (jn 0)), none, none, none]) rfl rfl rfl rfl ?_
  refine mj_T.pl rfl rfl rfl rfl ?_
  refine mj_T.pl (loc' := [some (.ref p0), some (.int (jn p1)), some (.int (jn 0)), some (.int (jn 0)), none, none]) rfl rfl rfl rfl ?_
  refine mj_T.pl rfl rfl rfl rfl ?_
  refine mj_T.pl (loc' := [some (.ref p0), some (.int (jn p1)), some (.int (jn 0)), some (.int (jn 0)), some (.int (jn 0)), none]) rfl rfl rfl rfl ?_
  have t7_5 : ∀ (k6 : Nat) (x1 : Int) (x2 : Int) (x3 : Int) (w4 : Option Value), (-2147483648 ≤ x1 ∧ x1 ≤ 2147483647) → (-2147483648 ≤ x2 ∧ x2 ≤ 2147483647) → (-2147483648 ≤ x3 ∧ x3 ≤ 2147483647) → (0 ≤ x3) → (2147483647 - x3 : Int).toNat = k6 → mj_T (D + 2) mj_m77 7 [some (.ref p0), some (.int (jn p1)), some (.int (jn x1)), some (.int (jn x2)), some (.int (jn x3)), w4] [] h (jQp K L R g n tm h [] (jVi (-2147483648) 2147483647)) := by
    refine jInd (fun k6 ih7 => ?_)
    intro x1 x2 x3 w4 rx1 rx2 rx3 ix3 hm8
    refine mj_T.pl rfl rfl rfl rfl ?_
    refine mj_T.pl rfl rfl rfl rfl ?_
    refine jT.getI 16 0 o rfl kp0 (by decide) rfl rfl rfl (fun z9 (az9 : (-2147483648) ≤ z9) (bz9 : z9 ≤ 2147483647) fz9 => ?_)
    have rz9 : -2147483648 ≤ z9 ∧ z9 ≤ 2147483647 := ⟨by omega, by omega⟩
    refine jT.icmp rfl rx3 rz9 (fun c13 => ?_) (fun c13 => ?_)
    · have c13 := of_decide_eq_true c13
      refine mj_T.pl rfl rfl rfl rfl ?_
      exact jT.retp rfl rfl rfl ⟨x1, by omega, by omega, rfl⟩
    · have c13 := of_decide_eq_false c13
      iterate 2 refine mj_T.pl rfl rfl rfl rfl ?_
      refine jT.getR 16 105 5 ty o rfl kp0 (by decide) rfl rfl rfl (fun k10 => ?_)
      refine jT.alen 5 ty o rfl k10 (by decide) (by decide) (fun z11 ez11 (az11 : 14 ≤ z11) (bz11 : z11 ≤ 14) => ?_)
      have rz11 : -2147483648 ≤ z11 ∧ z11 ≤ 2147483647 := ⟨by omega, by omega⟩
      refine jT.icmp rfl rx3 rz11 (fun c23 => ?_) (fun c23 => ?_)
      · have c23 := of_decide_eq_true c23
        refine mj_T.pl rfl rfl rfl rfl ?_
        exact jT.retp rfl rfl rfl ⟨x1, by omega, by omega, rfl⟩
      · have c23 := of_decide_eq_false c23
        refine mj_T.pl rfl rfl rfl rfl ?_
        refine jT.getR 16 105 5 ty o rfl kp0 (by decide) rfl rfl rfl (fun k12 => ?_)
        refine mj_T.pl rfl rfl rfl rfl ?_
        refine jT.aald 5 13 ty o rfl k12 (by decide) (by decide) rfl rx3 ⟨by omega, by omega⟩ (fun k13 => ?_)
        refine jT.callpp rfl rfl (Nat.le_of_ble_eq_true rfl) (Nat.le_of_ble_eq_true rfl) (jrv_of o k13 (by decide) rfl (by decide) rfl _) rfl (mj_Ok.up (Nat.add_le_add_left (by decide) D) (jc_37 (D := D) ty hg o k13)) rfl rfl (fun v14 qv14 => ?_)
        obtain ⟨a15, ka15, rfl⟩ := qv14
        refine mj_T.eq (pc2 := 36) (st2 := [.ref a15]) ?_ rfl rfl rfl rfl
        refine jT.getI 18 0 o rfl ka15 (by decide) rfl rfl rfl (fun z16 (az16 : (-2147483648) ≤ z16) (bz16 : z16 ≤ 2147483647) fz16 => ?_)
        have rz16 : -2147483648 ≤ z16 ∧ z16 ≤ 2147483647 := ⟨by omega, by omega⟩
        refine mj_T.pl rfl rfl rfl rfl ?_
        refine jT.getR 16 105 5 ty o rfl kp0 (by decide) rfl rfl rfl (fun k17 => ?_)
        refine mj_T.pl rfl rfl rfl rfl ?_
        refine jT.aald 5 13 ty o rfl k17 (by decide) (by decide) rfl rx3 ⟨by omega, by omega⟩ (fun k18 => ?_)
        refine jT.getI 13 6 o rfl k18 (by decide) rfl rfl rfl (fun z19 (az19 : (-1) ≤ z19) (bz19 : z19 ≤ 30) fz19 => ?_)
        have rz19 : -2147483648 ≤ z19 ∧ z19 ≤ 2147483647 := ⟨by omega, by omega⟩
        refine mj_T.pl rfl rfl rfl rfl ?_
        refine jT.irem rfl ⟨by decide, by decide⟩ (by decide) (fun z20 rz20 => ?_)
        have t59_22 : ∀ (x21 : Int), (-2147483648 ≤ x21 ∧ x21 ≤ 2147483647) → mj_T (D + 2) mj_m77 59 [some (.ref p0), some (.int (jn p1)), some (.int (jn x1)), some (.int (jn x2)), some (.int (jn x3)), w4] [.int (jn x21), .int (jn z16)] h (jQp K L R g n tm h [] (jVi (-2147483648) 2147483647)) := by
          intro x21 rx21
          refine jT.imul rfl (fun z23 rz23 ez23 => ?_)
          clear ez23
          refine mj_T.pl (loc' := [some (.ref p0), some (.int (jn p1)), some (.int (jn x1)), some (.int (jn x2)), some (.int (jn x3)), some (.int (jn z23))]) rfl rfl rfl rfl ?_
          iterate 3 refine mj_T.pl rfl rfl rfl rfl ?_
          refine jT.imul rfl (fun z24 rz24 ez24 => ?_)
          clear ez24
          refine jT.if0 rfl rz24 (fun c67 => ?_) (fun c67 => ?_)
          · have c67 := of_decide_eq_true c67
            refine mj_T.pl rfl rfl rfl rfl ?_
            refine jT.iadd rfl (fun z25 rz25 ez25 => ?_)
            replace ez25 := ez25 ⟨by omega, by omega⟩
            refine mj_T.pl (loc' := [some (.ref p0), some (.int (jn p1)), some (.int (jn z25)), some (.int (jn x2)), some (.int (jn x3)), some (.int (jn z23))]) rfl rfl rfl rfl ?_
            refine mj_T.pl rfl rfl rfl rfl ?_
            refine mj_T.pl (loc' := [some (.ref p0), some (.int (jn p1)), some (.int (jn z25)), some (.int (jn z23)), some (.int (jn x3)), some (.int (jn z23))]) rfl rfl rfl rfl ?_
            refine jT.iinc rfl rfl (fun z26 rz26 ez26 => ?_)
            replace ez26 := ez26 ⟨by omega, by omega⟩
            refine mj_T.eq (loc2 := [some (.ref p0), some (.int (jn p1)), some (.int (jn z25)), some (.int (jn z23)), some (.int (jn z26)), some (.int (jn z23))]) ?_ rfl rfl rfl rfl
            refine mj_T.pl rfl rfl rfl rfl ?_
            exact ih7 ((2147483647 - z26 : Int).toNat) (by omega) z25 z23 z26 (some (.int (jn z23))) rz25 rz23 rz26 (by omega) rfl
          · have c67 := of_decide_eq_false c67
            iterate 2 refine mj_T.pl rfl rfl rfl rfl ?_
            refine jT.iadd rfl (fun z27 rz27 ez27 => ?_)
            clear ez27
            refine mj_T.pl (loc' := [some (.ref p0), some (.int (jn p1)), some (.int (jn z27)), some (.int (jn x2)), some (.int (jn x3)), some (.int (jn z23))]) rfl rfl rfl rfl ?_
            refine mj_T.pl rfl rfl rfl rfl ?_
            refine mj_T.pl (loc' := [some (.ref p0), some (.int (jn p1)), some (.int (jn z27)), some (.int (jn z23)), some (.int (jn x3)), some (.int (jn z23))]) rfl rfl rfl rfl ?_
            refine jT.iinc rfl rfl (fun z28 rz28 ez28 => ?_)
            replace ez28 := ez28 ⟨by omega, by omega⟩
            refine mj_T.eq (loc2 := [some (.ref p0), some (.int (jn p1)), some (.int (jn z27)), some (.int (jn z23)), some (.int (jn z28)), some (.int (jn z23))]) ?_ rfl rfl rfl rfl
            refine mj_T.pl rfl rfl rfl rfl ?_
            exact ih7 ((2147483647 - z28 : Int).toNat) (by omega) z27 z23 z28 (some (.int (jn z23))) rz27 rz23 rz28 (by omega) rfl
        refine jT.if0 rfl rz20 (fun c51 => ?_) (fun c51 => ?_)
        · have c51 := of_decide_eq_true c51
          refine mj_T.pl rfl rfl rfl rfl ?_
          exact t59_22 1 ⟨by decide, by decide⟩
        · have c51 := of_decide_eq_false c51
          iterate 2 refine mj_T.pl rfl rfl rfl rfl ?_
          exact t59_22 p1 rp1
  exact t7_5 _ 0 0 0 none ⟨by decide, by decide⟩ ⟨by decide, by decide⟩ ⟨by decide, by decide⟩ (by omega) rfl
-- PolyRegisters$Sturm.stretch(J)V
theorem jc_74 {D n : Nat} {tm : Int} {h g : mj_H} {K L : Nat → Nat} {R : Nat → Nat → Nat} {p0 : Nat} {p1 : Int} (ty : jTY K L R) (hg : g.length ≤ n) (o : jO K L R g n tm h) (kp0 : K p0 = 16) (jp1 : jR p1) : mj_Ok (D + 3) 74 [.ref p0, .long (jl p1)] h (jQ K L R g n tm [] jV0) := by
  refine mj_Ok.of (M := mj_m74) (loc := [some (.ref p0), some (.long (jl p1)), none, none]) rfl rfl rfl ?_
  refine mj_T.pl rfl rfl rfl rfl ?_
  refine mj_T.pl (loc' := [some (.ref p0), some (.long (jl p1)), none, some (.int (jn 0))]) rfl rfl rfl rfl ?_
  have t2_3 : ∀ (k4 : Nat) (x1 : Int) (h2 : mj_H), (-2147483648 ≤ x1 ∧ x1 ≤ 2147483647) → (jO K L R g n tm h2) → (0 ≤ x1) → (2147483647 - x1 : Int).toNat = k4 → mj_T (D + 2) mj_m74 2 [some (.ref p0), some (.long (jl p1)), none, some (.int (jn x1))] [] h2 (jQ K L R g n tm [] jV0) := by
    refine jInd (fun k4 ih5 => ?_)
    intro x1 h2 rx1 oh2 ix1 hm6
    refine mj_T.pl rfl rfl rfl rfl ?_
    refine mj_T.pl rfl rfl rfl rfl ?_
    refine jT.getI 16 0 oh2 rfl kp0 (by decide) rfl rfl rfl (fun z7 (az7 : (-2147483648) ≤ z7) (bz7 : z7 ≤ 2147483647) fz7 => ?_)
    have rz7 : -2147483648 ≤ z7 ∧ z7 ≤ 2147483647 := ⟨by omega, by omega⟩
    refine jT.icmp rfl rx1 rz7 (fun c7 => ?_) (fun c7 => ?_)
    · have c7 := of_decide_eq_true c7
      exact jT.ret oh2 rfl rfl rfl rfl
    · have c7 := of_decide_eq_false c7
      iterate 2 refine mj_T.pl rfl rfl rfl rfl ?_
      refine jT.getR 16 105 5 ty oh2 rfl kp0 (by decide) rfl rfl rfl (fun k8 => ?_)
      refine jT.alen 5 ty oh2 rfl k8 (by decide) (by decide) (fun z9 ez9 (az9 : 14 ≤ z9) (bz9 : z9 ≤ 14) => ?_)
      have rz9 : -2147483648 ≤ z9 ∧ z9 ≤ 2147483647 := ⟨by omega, by omega⟩
      refine jT.icmp rfl rx1 rz9 (fun c16 => ?_) (fun c16 => ?_)
      · have c16 := of_decide_eq_true c16
        exact jT.ret oh2 rfl rfl rfl rfl
      · have c16 := of_decide_eq_false c16
        refine mj_T.pl rfl rfl rfl rfl ?_
        refine jT.getR 16 111 11 ty oh2 rfl kp0 (by decide) rfl rfl rfl (fun k10 => ?_)
        refine mj_T.pl rfl rfl rfl rfl ?_
        refine jT.getR 16 105 5 ty oh2 rfl kp0 (by decide) rfl rfl rfl (fun k11 => ?_)
        refine mj_T.pl rfl rfl rfl rfl ?_
        refine jT.aald 5 13 ty oh2 rfl k11 (by decide) (by decide) rfl rx1 ⟨by omega, by omega⟩ (fun k12 => ?_)
        refine mj_T.pl rfl rfl rfl rfl ?_
        refine jT.call rfl rfl (Nat.le_of_ble_eq_true rfl) (Nat.le_of_ble_eq_true rfl) (jrv_of oh2 k10 (by decide) rfl (by decide) rfl _) rfl (mj_Ok.up (Nat.add_le_add_left (by decide) D) (jc_26 (D := D) ty hg oh2 k10 k12 jp1)) rfl rfl (fun v13 h14 qv13 oh14 => ?_)
        obtain rfl : v13 = none := qv13
        refine mj_T.eq (pc2 := 33) (st2 := []) ?_ rfl rfl rfl rfl
        refine jT.iinc rfl rfl (fun z15 rz15 ez15 => ?_)
        replace ez15 := ez15 ⟨by omega, by omega⟩
        refine mj_T.eq (loc2 := [some (.ref p0), some (.long (jl p1)), none, some (.int (jn z15))]) ?_ rfl rfl rfl rfl
        refine mj_T.pl rfl rfl rfl rfl ?_
        exact ih5 ((2147483647 - z15 : Int).toNat) (by omega) z15 h14 rz15 oh14 (by omega) rfl
  exact t2_3 _ 0 h ⟨by decide, by decide⟩ o (by omega) rfl
-- PolyRegisters$Sturm.changesAt(LPolyRegisters$Wide;)I
theorem jc_76 {D n : Nat} {tm : Int} {h g : mj_H} {K L : Nat → Nat} {R : Nat → Nat → Nat} {p0 : Nat} {p1 : Nat} (ty : jTY K L R) (hg : g.length ≤ n) (o : jO K L R g n tm h) (kp0 : K p0 = 16) (kp1 : K p1 = 18) : mj_Ok (D + 4) 76 [.ref p0, .ref p1] h (jQ K L R g n tm [] (jVi (-2147483648) 2147483647)) := by
  refine mj_Ok.of (M := mj_m76) (loc := [some (.ref p0), some (.ref p1), none, none, none, none]) rfl rfl rfl ?_
  refine mj_T.pl rfl rfl rfl rfl ?_
  refine mj_T.pl (loc' := [some (.ref p0), some (.ref p1), some (.int (jn 0)), none, none, none]) rfl rfl rfl rfl ?_
  refine mj_T.pl rfl rfl rfl rfl ?_
  refine mj_T.pl (loc' := [some (.ref p0), some (.ref p1), some (.int (jn 0)), some (.int (jn 0)), none, none]) rfl rfl rfl rfl ?_
  refine mj_T.pl rfl rfl rfl rfl ?_
  refine mj_T.pl (loc' := [some (.ref p0), some (.ref p1), some (.int (jn 0)), some (.int (jn 0)), some (.int (jn 0)), none]) rfl rfl rfl rfl ?_
  have t7_6 : ∀ (k7 : Nat) (x1 : Int) (x2 : Int) (x3 : Int) (w4 : Option Value) (h5 : mj_H), (-2147483648 ≤ x1 ∧ x1 ≤ 2147483647) → (-2147483648 ≤ x2 ∧ x2 ≤ 2147483647) → (-2147483648 ≤ x3 ∧ x3 ≤ 2147483647) → (jO K L R g n tm h5) → (0 ≤ x3) → (2147483647 - x3 : Int).toNat = k7 → mj_T (D + 3) mj_m76 7 [some (.ref p0), some (.ref p1), some (.int (jn x1)), some (.int (jn x2)), some (.int (jn x3)), w4] [] h5 (jQ K L R g n tm [] (jVi (-2147483648) 2147483647)) := by
    refine jInd (fun k7 ih8 => ?_)
    intro x1 x2 x3 w4 h5 rx1 rx2 rx3 oh5 ix3 hm9
    refine mj_T.pl rfl rfl rfl rfl ?_
    refine mj_T.pl rfl rfl rfl rfl ?_
    refine jT.getI 16 0 oh5 rfl kp0 (by decide) rfl rfl rfl (fun z10 (az10 : (-2147483648) ≤ z10) (bz10 : z10 ≤ 2147483647) fz10 => ?_)
    have rz10 : -2147483648 ≤ z10 ∧ z10 ≤ 2147483647 := ⟨by omega, by omega⟩
    refine jT.icmp rfl rx3 rz10 (fun c13 => ?_) (fun c13 => ?_)
    · have c13 := of_decide_eq_true c13
      refine mj_T.pl rfl rfl rfl rfl ?_
      exact jT.ret oh5 rfl rfl rfl ⟨x1, by omega, by omega, rfl⟩
    · have c13 := of_decide_eq_false c13
      iterate 2 refine mj_T.pl rfl rfl rfl rfl ?_
      refine jT.getR 16 105 5 ty oh5 rfl kp0 (by decide) rfl rfl rfl (fun k11 => ?_)
      refine jT.alen 5 ty oh5 rfl k11 (by decide) (by decide) (fun z12 ez12 (az12 : 14 ≤ z12) (bz12 : z12 ≤ 14) => ?_)
      have rz12 : -2147483648 ≤ z12 ∧ z12 ≤ 2147483647 := ⟨by omega, by omega⟩
      refine jT.icmp rfl rx3 rz12 (fun c23 => ?_) (fun c23 => ?_)
      · have c23 := of_decide_eq_true c23
        refine mj_T.pl rfl rfl rfl rfl ?_
        exact jT.ret oh5 rfl rfl rfl ⟨x1, by omega, by omega, rfl⟩
      · have c23 := of_decide_eq_false c23
        refine mj_T.pl rfl rfl rfl rfl ?_
        refine jT.getR 16 111 11 ty oh5 rfl kp0 (by decide) rfl rfl rfl (fun k13 => ?_)
        refine mj_T.pl rfl rfl rfl rfl ?_
        refine jT.getR 16 105 5 ty oh5 rfl kp0 (by decide) rfl rfl rfl (fun k14 => ?_)
        refine mj_T.pl rfl rfl rfl rfl ?_
        refine jT.aald 5 13 ty oh5 rfl k14 (by decide) (by decide) rfl rx3 ⟨by omega, by omega⟩ (fun k15 => ?_)
        refine mj_T.pl rfl rfl rfl rfl ?_
        refine jT.call rfl rfl (Nat.le_of_ble_eq_true rfl) (Nat.le_of_ble_eq_true rfl) (jrv_of oh5 k13 (by decide) rfl (by decide) rfl _) rfl (mj_Ok.up (Nat.add_le_add_left (by decide) D) (jc_28 (D := D) ty hg oh5 k13 k15 kp1)) rfl rfl (fun v16 h17 qv16 oh17 => ?_)
        obtain ⟨z18, az18, bz18, rfl⟩ := qv16
        have rz18 : -2147483648 ≤ z18 ∧ z18 ≤ 2147483647 := ⟨by omega, by omega⟩
        refine mj_T.eq (pc2 := 41) (st2 := [.int (jn z18)]) ?_ rfl rfl rfl rfl
        refine mj_T.pl (loc' := [some (.ref p0), some (.ref p1), some (.int (jn x1)), some (.int (jn x2)), some (.int (jn x3)), some (.int (jn z18))]) rfl rfl rfl rfl ?_
        iterate 3 refine mj_T.pl rfl rfl rfl rfl ?_
        refine jT.imul rfl (fun z19 rz19 ez19 => ?_)
        clear ez19
        have t56_21 : ∀ (x20 : Int), (0 ≤ x20 ∧ x20 ≤ 1) → mj_T (D + 3) mj_m76 56 [some (.ref p0), some (.ref p1), some (.int (jn x1)), some (.int (jn x2)), some (.int (jn x3)), some (.int (jn z18))] [.int (jn x20), .int (jn x1)] h17 (jQ K L R g n tm [] (jVi (-2147483648) 2147483647)) := by
          intro x20 ax20
          have rx20 : -2147483648 ≤ x20 ∧ x20 ≤ 2147483647 := ⟨by omega, by omega⟩
          refine jT.iadd rfl (fun z22 rz22 ez22 => ?_)
          clear ez22
          refine mj_T.pl (loc' := [some (.ref p0), some (.ref p1), some (.int (jn z22)), some (.int (jn x2)), some (.int (jn x3)), some (.int (jn z18))]) rfl rfl rfl rfl ?_
          refine mj_T.pl rfl rfl rfl rfl ?_
          refine jT.if0 rfl rz18 (fun c60 => ?_) (fun c60 => ?_)
          · have c60 := jne1 c60
            refine mj_T.pl rfl rfl rfl rfl ?_
            refine mj_T.pl (loc' := [some (.ref p0), some (.ref p1), some (.int (jn z22)), some (.int (jn z18)), some (.int (jn x3)), some (.int (jn z18))]) rfl rfl rfl rfl ?_
            refine jT.iinc rfl rfl (fun z23 rz23 ez23 => ?_)
            replace ez23 := ez23 ⟨by omega, by omega⟩
            refine mj_T.eq (loc2 := [some (.ref p0), some (.ref p1), some (.int (jn z22)), some (.int (jn z18)), some (.int (jn z23)), some (.int (jn z18))]) ?_ rfl rfl rfl rfl
            refine mj_T.pl rfl rfl rfl rfl ?_
            exact ih8 ((2147483647 - z23 : Int).toNat) (by omega) z22 z18 z23 (some (.int (jn z18))) h17 rz22 rz18 rz23 oh17 (by omega) rfl
          · have c60 := jne2 c60
            iterate 2 refine mj_T.pl rfl rfl rfl rfl ?_
            refine mj_T.pl (loc' := [some (.ref p0), some (.ref p1), some (.int (jn z22)), some (.int (jn x2)), some (.int (jn x3)), some (.int (jn z18))]) rfl rfl rfl rfl ?_
            refine jT.iinc rfl rfl (fun z24 rz24 ez24 => ?_)
            replace ez24 := ez24 ⟨by omega, by omega⟩
            refine mj_T.eq (loc2 := [some (.ref p0), some (.ref p1), some (.int (jn z22)), some (.int (jn x2)), some (.int (jn z24)), some (.int (jn z18))]) ?_ rfl rfl rfl rfl
            refine mj_T.pl rfl rfl rfl rfl ?_
            exact ih8 ((2147483647 - z24 : Int).toNat) (by omega) z22 x2 z24 (some (.int (jn z18))) h17 rz22 rx2 rz24 oh17 (by omega) rfl
        refine jT.if0 rfl rz19 (fun c48 => ?_) (fun c48 => ?_)
        · have c48 := of_decide_eq_true c48
          refine mj_T.pl rfl rfl rfl rfl ?_
          exact t56_21 0 ⟨by omega, by omega⟩
        · have c48 := of_decide_eq_false c48
          iterate 2 refine mj_T.pl rfl rfl rfl rfl ?_
          exact t56_21 1 ⟨by omega, by omega⟩
  exact t7_6 _ 0 0 0 none h ⟨by decide, by decide⟩ ⟨by decide, by decide⟩ ⟨by decide, by decide⟩ o (by omega) rfl
-- PolyRegisters$Sturm.begin([JJ)V
theorem jc_68 {D n : Nat} {tm : Int} {h g : mj_H} {K L : Nat → Nat} {R : Nat → Nat → Nat} {p0 : Nat} {p1 : Nat} {p2 : Int} (ty : jTY K L R) (hg : g.length ≤ n) (o : jO K L R g n tm h) (kp0 : K p0 = 16) (kp1 : K p1 = 2) (jp2 : jR p2) : mj_Ok (D + 6) 68 [.ref p0, .ref p1, .long (jl p2)] h (jQ K L R g n tm [] jV0) := by
  refine mj_Ok.of (M := mj_m68) (loc := [some (.ref p0), some (.ref p1), some (.long (jl p2)), none]) rfl rfl rfl ?_
  refine mj_T.pl rfl rfl rfl rfl ?_
  refine jT.getR 16 105 5 ty o rfl kp0 (by decide) rfl rfl rfl (fun k1 => ?_)
  refine mj_T.pl rfl rfl rfl rfl ?_
  have l2 : 14 ≤ (L (R p0 1) : Int) ∧ (L (R p0 1) : Int) ≤ 14 := jlen 5 ty k1 (by decide) (by decide)
  refine jT.aald 5 13 ty o rfl k1 (by decide) (by decide) rfl ⟨by decide, by decide⟩ ⟨by omega, by omega⟩ (fun k3 => ?_)
  iterate 2 refine mj_T.pl rfl rfl rfl rfl ?_
  refine jT.call rfl rfl (Nat.le_of_ble_eq_true rfl) (Nat.le_of_ble_eq_true rfl) (jrv_of o k3 (by decide) rfl (by decide) rfl _) rfl (mj_Ok.up (Nat.add_le_add_left (by decide) D) (jc_40 (D := D) ty hg o k3 kp1 jp2)) rfl rfl (fun v4 h5 qv4 oh5 => ?_)
  obtain rfl : v4 = none := qv4
  refine mj_T.eq (pc2 := 11) (st2 := []) ?_ rfl rfl rfl rfl
  refine mj_T.pl rfl rfl rfl rfl ?_
  refine jT.call rfl rfl (Nat.le_of_ble_eq_true rfl) (Nat.le_of_ble_eq_true rfl) (jrv_of oh5 kp0 (by decide) rfl (by decide) rfl _) rfl (mj_Ok.up (Nat.add_le_add_left (by decide) D) (jc_69 (D := D) ty hg oh5 kp0)) rfl rfl (fun v6 h7 qv6 oh7 => ?_)
  obtain rfl : v6 = none := qv6
  refine mj_T.eq (pc2 := 15) (st2 := []) ?_ rfl rfl rfl rfl
  refine mj_T.pl rfl rfl rfl rfl ?_
  refine jT.call rfl rfl (Nat.le_of_ble_eq_true rfl) (Nat.le_of_ble_eq_true rfl) (jrv_of oh7 kp0 (by decide) rfl (by decide) rfl _) rfl (mj_Ok.up (Nat.add_le_add_left (by decide) D) (jc_70 (D := D) ty hg oh7 kp0)) rfl rfl (fun v8 h9 qv8 oh9 => ?_)
  obtain rfl : v8 = none := qv8
  refine mj_T.eq (pc2 := 19) (st2 := []) ?_ rfl rfl rfl rfl
  exact jT.ret oh9 rfl rfl rfl rfl
-- PolyRegisters$Sturm.changesAt(J)I
theorem jc_75 {D n : Nat} {tm : Int} {h g : mj_H} {K L : Nat → Nat} {R : Nat → Nat → Nat} {p0 : Nat} {p1 : Int} (ty : jTY K L R) (hg : g.length ≤ n) (o : jO K L R g n tm h) (kp0 : K p0 = 16) (jp1 : jR p1) : mj_Ok (D + 5) 75 [.ref p0, .long (jl p1)] h (jQ K L R g n tm [] (jVi (-2147483648) 2147483647)) := by
  refine mj_Ok.of (M := mj_m75) (loc := [some (.ref p0), some (.long (jl p1)), none]) rfl rfl rfl ?_
  refine mj_T.pl rfl rfl rfl rfl ?_
  refine jT.getR 16 118 18 ty o rfl kp0 (by decide) rfl rfl rfl (fun k1 => ?_)
  refine mj_T.pl rfl rfl rfl rfl ?_
  refine jT.call rfl rfl (Nat.le_of_ble_eq_true rfl) (Nat.le_of_ble_eq_true rfl) (jrv_of o k1 (by decide) rfl (by decide) rfl _) rfl (mj_Ok.up (Nat.add_le_add_left (by decide) D) (jc_86 (D := D) ty hg o k1 jp1)) rfl rfl (fun v2 h3 qv2 oh3 => ?_)
  obtain rfl : v2 = none := qv2
  refine mj_T.eq (pc2 := 8) (st2 := []) ?_ rfl rfl rfl rfl
  iterate 2 refine mj_T.pl rfl rfl rfl rfl ?_
  refine jT.getR 16 118 18 ty oh3 rfl kp0 (by decide) rfl rfl rfl (fun k4 => ?_)
  refine jT.call rfl rfl (Nat.le_of_ble_eq_true rfl) (Nat.le_of_ble_eq_true rfl) (jrv_of oh3 kp0 (by decide) rfl (by decide) rfl _) rfl (mj_Ok.up (Nat.add_le_add_left (by decide) D) (jc_76 (D := D) ty hg oh3 kp0 k4)) rfl rfl (fun v5 h6 qv5 oh6 => ?_)
  obtain ⟨z7, az7, bz7, rfl⟩ := qv5
  have rz7 : -2147483648 ≤ z7 ∧ z7 ≤ 2147483647 := ⟨by omega, by omega⟩
  refine mj_T.eq (pc2 := 16) (st2 := [.int (jn z7)]) ?_ rfl rfl rfl rfl
  exact jT.ret oh6 rfl rfl rfl ⟨z7, by omega, by omega, rfl⟩
