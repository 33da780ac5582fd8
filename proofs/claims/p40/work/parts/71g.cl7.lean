/-! The class by kinds: its methods. -/
-- PolyRegisters$Desk.times(LPolyRegisters$Poly;LPolyRegisters$Poly;LPolyRegisters$Poly;)Z
theorem jc_14 {D n : Nat} {tm : Int} {h g : mj_H} {K L : Nat → Nat} {R : Nat → Nat → Nat} {p0 : Nat} {p1 : Nat} {p2 : Nat} {p3 : Nat} (ty : jTY K L R) (hg : g.length ≤ n) (o : jO K L R g n tm h) (kp0 : K p0 = 11) (kp1 : K p1 = 13) (kp2 : K p2 = 13) (kp3 : K p3 = 13) : mj_Ok (D + 3) 14 [.ref p0, .ref p1, .ref p2, .ref p3] h (jQ K L R g n tm [] (jVi 0 1)) := by
  refine mj_Ok.of (M := mj_m14) (loc := [some (.ref p0), some (.ref p1), some (.ref p2), some (.ref p3), none, none]) rfl rfl rfl ?_
  refine mj_T.pl rfl rfl rfl rfl ?_
  refine jT.call rfl rfl (Nat.le_of_ble_eq_true rfl) (Nat.le_of_ble_eq_true rfl) (jrv_of o kp1 (by decide) rfl (by decide) rfl _) rfl (mj_Ok.up (Nat.add_le_add_left (by decide) D) (jc_39 (D := D) ty hg o kp1)) rfl rfl (fun v1 h2 qv1 oh2 => ?_)
  obtain rfl : v1 = none := qv1
  refine mj_T.eq (pc2 := 4) (st2 := []) ?_ rfl rfl rfl rfl
  refine mj_T.pl rfl rfl rfl rfl ?_
  refine jT.getI 13 6 oh2 rfl kp2 (by decide) rfl rfl rfl (fun z3 (az3 : (-1) ≤ z3) (bz3 : z3 ≤ 30) fz3 => ?_)
  have rz3 : -2147483648 ≤ z3 ∧ z3 ≤ 2147483647 := ⟨by omega, by omega⟩
  refine jT.if0 rfl rz3 (fun c8 => ?_) (fun c8 => ?_)
  · have c8 := of_decide_eq_true c8
    refine mj_T.pl rfl rfl rfl rfl ?_
    refine mj_T.pl (loc' := [some (.ref p0), some (.ref p1), some (.ref p2), some (.ref p3), some (.int (jn 0)), none]) rfl rfl rfl rfl ?_
    have t39_7 : ∀ (k8 : Nat) (x4 : Int) (w5 : Option Value) (h6 : mj_H), (-2147483648 ≤ x4 ∧ x4 ≤ 2147483647) → (jO K L R g n tm h6) → (0 ≤ x4) → (2147483647 - x4 : Int).toNat = k8 → mj_T (D + 2) mj_m14 39 [some (.ref p0), some (.ref p1), some (.ref p2), some (.ref p3), some (.int (jn x4)), w5] [] h6 (jQ K L R g n tm [] (jVi 0 1)) := by
      refine jInd (fun k8 ih9 => ?_)
      intro x4 w5 h6 rx4 oh6 ix4 hm10
      refine mj_T.pl rfl rfl rfl rfl ?_
      refine mj_T.pl rfl rfl rfl rfl ?_
      refine jT.getI 13 6 oh6 rfl kp2 (by decide) rfl rfl rfl (fun z11 (az11 : (-1) ≤ z11) (bz11 : z11 ≤ 30) fz11 => ?_)
      have rz11 : -2147483648 ≤ z11 ∧ z11 ≤ 2147483647 := ⟨by omega, by omega⟩
      refine jT.icmp rfl rx4 rz11 (fun c45 => ?_) (fun c45 => ?_)
      · have c45 := of_decide_eq_true c45
        refine mj_T.pl rfl rfl rfl rfl ?_
        refine jT.call rfl rfl (Nat.le_of_ble_eq_true rfl) (Nat.le_of_ble_eq_true rfl) (jrv_of oh6 kp1 (by decide) rfl (by decide) rfl _) rfl (mj_Ok.up (Nat.add_le_add_left (by decide) D) (jc_42 (D := D) ty hg oh6 kp1)) rfl rfl (fun v12 h13 qv12 oh13 => ?_)
        obtain rfl : v12 = none := qv12
        refine mj_T.eq (pc2 := 124) (st2 := []) ?_ rfl rfl rfl rfl
        refine mj_T.pl rfl rfl rfl rfl ?_
        exact jT.retb oh13 rfl rfl (by omega) (by omega)
      · have c45 := of_decide_eq_false c45
        refine mj_T.pl rfl rfl rfl rfl ?_
        refine mj_T.pl (loc' := [some (.ref p0), some (.ref p1), some (.ref p2), some (.ref p3), some (.int (jn x4)), some (.int (jn 0))]) rfl rfl rfl rfl ?_
        have t51_16 : ∀ (k17 : Nat) (x14 : Int) (h15 : mj_H), (-2147483648 ≤ x14 ∧ x14 ≤ 2147483647) → (jO K L R g n tm h15) → (0 ≤ x14) → (2147483647 - x14 : Int).toNat = k17 → mj_T (D + 2) mj_m14 51 [some (.ref p0), some (.ref p1), some (.ref p2), some (.ref p3), some (.int (jn x4)), some (.int (jn x14))] [] h15 (jQ K L R g n tm [] (jVi 0 1)) := by
          refine jInd (fun k17 ih18 => ?_)
          intro x14 h15 rx14 oh15 ix14 hm19
          refine mj_T.pl rfl rfl rfl rfl ?_
          refine mj_T.pl rfl rfl rfl rfl ?_
          refine jT.getI 13 6 oh15 rfl kp3 (by decide) rfl rfl rfl (fun z20 (az20 : (-1) ≤ z20) (bz20 : z20 ≤ 30) fz20 => ?_)
          have rz20 : -2147483648 ≤ z20 ∧ z20 ≤ 2147483647 := ⟨by omega, by omega⟩
          refine jT.icmp rfl rx14 rz20 (fun c57 => ?_) (fun c57 => ?_)
          · have c57 := of_decide_eq_true c57
            refine jT.iinc rfl rfl (fun z21 rz21 ez21 => ?_)
            replace ez21 := ez21 ⟨by omega, by omega⟩
            refine mj_T.eq (loc2 := [some (.ref p0), some (.ref p1), some (.ref p2), some (.ref p3), some (.int (jn z21)), some (.int (jn x14))]) ?_ rfl rfl rfl rfl
            refine mj_T.pl rfl rfl rfl rfl ?_
            exact ih9 ((2147483647 - z21 : Int).toNat) (by omega) z21 (some (.int (jn x14))) h15 rz21 oh15 (by omega) rfl
          · have c57 := of_decide_eq_false c57
            iterate 2 refine mj_T.pl rfl rfl rfl rfl ?_
            refine jT.callp rfl rfl (Nat.le_of_ble_eq_true rfl) (Nat.le_of_ble_eq_true rfl) (jrv_of oh15 kp2 (by decide) rfl (by decide) rfl _) rfl (mj_Ok.up (Nat.add_le_add_left (by decide) D) (jc_36 (D := D) ty hg oh15 kp2 rx4)) rfl rfl (fun v22 qv22 => ?_)
            obtain ⟨a23, ka23, rfl⟩ := qv22
            refine mj_T.eq (pc2 := 66) (st2 := [.ref a23]) ?_ rfl rfl rfl rfl
            refine jT.getI 18 0 oh15 rfl ka23 (by decide) rfl rfl rfl (fun z24 (az24 : (-2147483648) ≤ z24) (bz24 : z24 ≤ 2147483647) fz24 => ?_)
            have rz24 : -2147483648 ≤ z24 ∧ z24 ≤ 2147483647 := ⟨by omega, by omega⟩
            refine jT.if0 rfl rz24 (fun c69 => ?_) (fun c69 => ?_)
            · have c69 := of_decide_eq_true c69
              refine jT.iinc rfl rfl (fun z25 rz25 ez25 => ?_)
              replace ez25 := ez25 ⟨by omega, by omega⟩
              refine mj_T.eq (loc2 := [some (.ref p0), some (.ref p1), some (.ref p2), some (.ref p3), some (.int (jn z25)), some (.int (jn x14))]) ?_ rfl rfl rfl rfl
              refine mj_T.pl rfl rfl rfl rfl ?_
              exact ih9 ((2147483647 - z25 : Int).toNat) (by omega) z25 (some (.int (jn x14))) h15 rz25 oh15 (by omega) rfl
            · have c69 := of_decide_eq_false c69
              refine mj_T.pl rfl rfl rfl rfl ?_
              refine jT.getR 11 118 18 ty oh15 rfl kp0 (by decide) rfl rfl rfl (fun k26 => ?_)
              iterate 2 refine mj_T.pl rfl rfl rfl rfl ?_
              refine jT.callp rfl rfl (Nat.le_of_ble_eq_true rfl) (Nat.le_of_ble_eq_true rfl) (jrv_of oh15 kp2 (by decide) rfl (by decide) rfl _) rfl (mj_Ok.up (Nat.add_le_add_left (by decide) D) (jc_36 (D := D) ty hg oh15 kp2 rx4)) rfl rfl (fun v27 qv27 => ?_)
              obtain ⟨a28, ka28, rfl⟩ := qv27
              refine mj_T.eq (pc2 := 82) (st2 := [.ref a28, .ref (R p0 4)]) ?_ rfl rfl rfl rfl
              iterate 2 refine mj_T.pl rfl rfl rfl rfl ?_
              refine jT.callp rfl rfl (Nat.le_of_ble_eq_true rfl) (Nat.le_of_ble_eq_true rfl) (jrv_of oh15 kp3 (by decide) rfl (by decide) rfl _) rfl (mj_Ok.up (Nat.add_le_add_left (by decide) D) (jc_36 (D := D) ty hg oh15 kp3 rx14)) rfl rfl (fun v29 qv29 => ?_)
              obtain ⟨a30, ka30, rfl⟩ := qv29
              refine mj_T.eq (pc2 := 88) (st2 := [.ref a30, .ref a28, .ref (R p0 4)]) ?_ rfl rfl rfl rfl
              refine jT.call rfl rfl (Nat.le_of_ble_eq_true rfl) (Nat.le_of_ble_eq_true rfl) (jrv_of oh15 k26 (by decide) rfl (by decide) rfl _) rfl (mj_Ok.up (Nat.add_le_add_left (by decide) D) (jc_95 (D := D) ty hg oh15 k26 ka28 ka30)) rfl rfl (fun v31 h32 qv31 oh32 => ?_)
              obtain rfl : v31 = none := qv31
              refine mj_T.eq (pc2 := 91) (st2 := []) ?_ rfl rfl rfl rfl
              iterate 3 refine mj_T.pl rfl rfl rfl rfl ?_
              refine jT.iadd rfl (fun z33 rz33 ez33 => ?_)
              replace ez33 := ez33 ⟨by omega, by omega⟩
              refine jT.callp rfl rfl (Nat.le_of_ble_eq_true rfl) (Nat.le_of_ble_eq_true rfl) (jrv_of oh32 kp1 (by decide) rfl (by decide) rfl _) rfl (mj_Ok.up (Nat.add_le_add_left (by decide) D) (jc_36 (D := D) ty hg oh32 kp1 rz33)) rfl rfl (fun v34 qv34 => ?_)
              obtain ⟨a35, ka35, rfl⟩ := qv34
              refine mj_T.eq (pc2 := 100) (st2 := [.ref a35]) ?_ rfl rfl rfl rfl
              refine mj_T.pl rfl rfl rfl rfl ?_
              refine jT.getR 11 118 18 ty oh32 rfl kp0 (by decide) rfl rfl rfl (fun k36 => ?_)
              refine mj_T.pl rfl rfl rfl rfl ?_
              refine jT.call rfl rfl (Nat.le_of_ble_eq_true rfl) (Nat.le_of_ble_eq_true rfl) (jrv_of oh32 ka35 (by decide) rfl (by decide) rfl _) rfl (mj_Ok.up (Nat.add_le_add_left (by decide) D) (jc_91 (D := D) ty hg oh32 ka35 k36 ⟨by decide, by decide⟩)) rfl rfl (fun v37 h38 qv37 oh38 => ?_)
              obtain rfl : v37 = none := qv37
              refine mj_T.eq (pc2 := 108) (st2 := []) ?_ rfl rfl rfl rfl
              refine jT.iinc rfl rfl (fun z39 rz39 ez39 => ?_)
              replace ez39 := ez39 ⟨by omega, by omega⟩
              refine mj_T.eq (loc2 := [some (.ref p0), some (.ref p1), some (.ref p2), some (.ref p3), some (.int (jn x4)), some (.int (jn z39))]) ?_ rfl rfl rfl rfl
              refine mj_T.pl rfl rfl rfl rfl ?_
              exact ih18 ((2147483647 - z39 : Int).toNat) (by omega) z39 h38 rz39 oh38 (by omega) rfl
        exact t51_16 _ 0 h6 ⟨by decide, by decide⟩ oh6 (by omega) rfl
    exact t39_7 _ 0 none h2 ⟨by decide, by decide⟩ oh2 (by omega) rfl
  · have c8 := of_decide_eq_false c8
    refine mj_T.pl rfl rfl rfl rfl ?_
    refine jT.getI 13 6 oh2 rfl kp3 (by decide) rfl rfl rfl (fun z40 (az40 : (-1) ≤ z40) (bz40 : z40 ≤ 30) fz40 => ?_)
    have rz40 : -2147483648 ≤ z40 ∧ z40 ≤ 2147483647 := ⟨by omega, by omega⟩
    refine jT.if0 rfl rz40 (fun c15 => ?_) (fun c15 => ?_)
    · have c15 := of_decide_eq_true c15
      refine mj_T.pl rfl rfl rfl rfl ?_
      refine mj_T.pl (loc' := [some (.ref p0), some (.ref p1), some (.ref p2), some (.ref p3), some (.int (jn 0)), none]) rfl rfl rfl rfl ?_
      have t39_44 : ∀ (k45 : Nat) (x41 : Int) (w42 : Option Value) (h43 : mj_H), (-2147483648 ≤ x41 ∧ x41 ≤ 2147483647) → (jO K L R g n tm h43) → (0 ≤ x41) → (2147483647 - x41 : Int).toNat = k45 → mj_T (D + 2) mj_m14 39 [some (.ref p0), some (.ref p1), some (.ref p2), some (.ref p3), some (.int (jn x41)), w42] [] h43 (jQ K L R g n tm [] (jVi 0 1)) := by
        refine jInd (fun k45 ih46 => ?_)
        intro x41 w42 h43 rx41 oh43 ix41 hm47
        refine mj_T.pl rfl rfl rfl rfl ?_
        refine mj_T.pl rfl rfl rfl rfl ?_
        refine jT.getI 13 6 oh43 rfl kp2 (by decide) rfl rfl rfl (fun z48 (az48 : (-1) ≤ z48) (bz48 : z48 ≤ 30) fz48 => ?_)
        have rz48 : -2147483648 ≤ z48 ∧ z48 ≤ 2147483647 := ⟨by omega, by omega⟩
        refine jT.icmp rfl rx41 rz48 (fun c45 => ?_) (fun c45 => ?_)
        · have c45 := of_decide_eq_true c45
          refine mj_T.pl rfl rfl rfl rfl ?_
          refine jT.call rfl rfl (Nat.le_of_ble_eq_true rfl) (Nat.le_of_ble_eq_true rfl) (jrv_of oh43 kp1 (by decide) rfl (by decide) rfl _) rfl (mj_Ok.up (Nat.add_le_add_left (by decide) D) (jc_42 (D := D) ty hg oh43 kp1)) rfl rfl (fun v49 h50 qv49 oh50 => ?_)
          obtain rfl : v49 = none := qv49
          refine mj_T.eq (pc2 := 124) (st2 := []) ?_ rfl rfl rfl rfl
          refine mj_T.pl rfl rfl rfl rfl ?_
          exact jT.retb oh50 rfl rfl (by omega) (by omega)
        · have c45 := of_decide_eq_false c45
          refine mj_T.pl rfl rfl rfl rfl ?_
          refine mj_T.pl (loc' := [some (.ref p0), some (.ref p1), some (.ref p2), some (.ref p3), some (.int (jn x41)), some (.int (jn 0))]) rfl rfl rfl rfl ?_
          have t51_53 : ∀ (k54 : Nat) (x51 : Int) (h52 : mj_H), (-2147483648 ≤ x51 ∧ x51 ≤ 2147483647) → (jO K L R g n tm h52) → (0 ≤ x51) → (2147483647 - x51 : Int).toNat = k54 → mj_T (D + 2) mj_m14 51 [some (.ref p0), some (.ref p1), some (.ref p2), some (.ref p3), some (.int (jn x41)), some (.int (jn x51))] [] h52 (jQ K L R g n tm [] (jVi 0 1)) := by
            refine jInd (fun k54 ih55 => ?_)
            intro x51 h52 rx51 oh52 ix51 hm56
            refine mj_T.pl rfl rfl rfl rfl ?_
            refine mj_T.pl rfl rfl rfl rfl ?_
            refine jT.getI 13 6 oh52 rfl kp3 (by decide) rfl rfl rfl (fun z57 (az57 : (-1) ≤ z57) (bz57 : z57 ≤ 30) fz57 => ?_)
            have rz57 : -2147483648 ≤ z57 ∧ z57 ≤ 2147483647 := ⟨by omega, by omega⟩
            refine jT.icmp rfl rx51 rz57 (fun c57 => ?_) (fun c57 => ?_)
            · have c57 := of_decide_eq_true c57
              refine jT.iinc rfl rfl (fun z58 rz58 ez58 => ?_)
              replace ez58 := ez58 ⟨by omega, by omega⟩
              refine mj_T.eq (loc2 := [some (.ref p0), some (.ref p1), some (.ref p2), some (.ref p3), some (.int (jn z58)), some (.int (jn x51))]) ?_ rfl rfl rfl rfl
              refine mj_T.pl rfl rfl rfl rfl ?_
              exact ih46 ((2147483647 - z58 : Int).toNat) (by omega) z58 (some (.int (jn x51))) h52 rz58 oh52 (by omega) rfl
            · have c57 := of_decide_eq_false c57
              iterate 2 refine mj_T.pl rfl rfl rfl rfl ?_
              refine jT.callp rfl rfl (Nat.le_of_ble_eq_true rfl) (Nat.le_of_ble_eq_true rfl) (jrv_of oh52 kp2 (by decide) rfl (by decide) rfl _) rfl (mj_Ok.up (Nat.add_le_add_left (by decide) D) (jc_36 (D := D) ty hg oh52 kp2 rx41)) rfl rfl (fun v59 qv59 => ?_)
              obtain ⟨a60, ka60, rfl⟩ := qv59
              refine mj_T.eq (pc2 := 66) (st2 := [.ref a60]) ?_ rfl rfl rfl rfl
              refine jT.getI 18 0 oh52 rfl ka60 (by decide) rfl rfl rfl (fun z61 (az61 : (-2147483648) ≤ z61) (bz61 : z61 ≤ 2147483647) fz61 => ?_)
              have rz61 : -2147483648 ≤ z61 ∧ z61 ≤ 2147483647 := ⟨by omega, by omega⟩
              refine jT.if0 rfl rz61 (fun c69 => ?_) (fun c69 => ?_)
              · have c69 := of_decide_eq_true c69
                refine jT.iinc rfl rfl (fun z62 rz62 ez62 => ?_)
                replace ez62 := ez62 ⟨by omega, by omega⟩
                refine mj_T.eq (loc2 := [some (.ref p0), some (.ref p1), some (.ref p2), some (.ref p3), some (.int (jn z62)), some (.int (jn x51))]) ?_ rfl rfl rfl rfl
                refine mj_T.pl rfl rfl rfl rfl ?_
                exact ih46 ((2147483647 - z62 : Int).toNat) (by omega) z62 (some (.int (jn x51))) h52 rz62 oh52 (by omega) rfl
              · have c69 := of_decide_eq_false c69
                refine mj_T.pl rfl rfl rfl rfl ?_
                refine jT.getR 11 118 18 ty oh52 rfl kp0 (by decide) rfl rfl rfl (fun k63 => ?_)
                iterate 2 refine mj_T.pl rfl rfl rfl rfl ?_
                refine jT.callp rfl rfl (Nat.le_of_ble_eq_true rfl) (Nat.le_of_ble_eq_true rfl) (jrv_of oh52 kp2 (by decide) rfl (by decide) rfl _) rfl (mj_Ok.up (Nat.add_le_add_left (by decide) D) (jc_36 (D := D) ty hg oh52 kp2 rx41)) rfl rfl (fun v64 qv64 => ?_)
                obtain ⟨a65, ka65, rfl⟩ := qv64
                refine mj_T.eq (pc2 := 82) (st2 := [.ref a65, .ref (R p0 4)]) ?_ rfl rfl rfl rfl
                iterate 2 refine mj_T.pl rfl rfl rfl rfl ?_
                refine jT.callp rfl rfl (Nat.le_of_ble_eq_true rfl) (Nat.le_of_ble_eq_true rfl) (jrv_of oh52 kp3 (by decide) rfl (by decide) rfl _) rfl (mj_Ok.up (Nat.add_le_add_left (by decide) D) (jc_36 (D := D) ty hg oh52 kp3 rx51)) rfl rfl (fun v66 qv66 => ?_)
                obtain ⟨a67, ka67, rfl⟩ := qv66
                refine mj_T.eq (pc2 := 88) (st2 := [.ref a67, .ref a65, .ref (R p0 4)]) ?_ rfl rfl rfl rfl
                refine jT.call rfl rfl (Nat.le_of_ble_eq_true rfl) (Nat.le_of_ble_eq_true rfl) (jrv_of oh52 k63 (by decide) rfl (by decide) rfl _) rfl (mj_Ok.up (Nat.add_le_add_left (by decide) D) (jc_95 (D := D) ty hg oh52 k63 ka65 ka67)) rfl rfl (fun v68 h69 qv68 oh69 => ?_)
                obtain rfl : v68 = none := qv68
                refine mj_T.eq (pc2 := 91) (st2 := []) ?_ rfl rfl rfl rfl
                iterate 3 refine mj_T.pl rfl rfl rfl rfl ?_
                refine jT.iadd rfl (fun z70 rz70 ez70 => ?_)
                replace ez70 := ez70 ⟨by omega, by omega⟩
                refine jT.callp rfl rfl (Nat.le_of_ble_eq_true rfl) (Nat.le_of_ble_eq_true rfl) (jrv_of oh69 kp1 (by decide) rfl (by decide) rfl _) rfl (mj_Ok.up (Nat.add_le_add_left (by decide) D) (jc_36 (D := D) ty hg oh69 kp1 rz70)) rfl rfl (fun v71 qv71 => ?_)
                obtain ⟨a72, ka72, rfl⟩ := qv71
                refine mj_T.eq (pc2 := 100) (st2 := [.ref a72]) ?_ rfl rfl rfl rfl
                refine mj_T.pl rfl rfl rfl rfl ?_
                refine jT.getR 11 118 18 ty oh69 rfl kp0 (by decide) rfl rfl rfl (fun k73 => ?_)
                refine mj_T.pl rfl rfl rfl rfl ?_
                refine jT.call rfl rfl (Nat.le_of_ble_eq_true rfl) (Nat.le_of_ble_eq_true rfl) (jrv_of oh69 ka72 (by decide) rfl (by decide) rfl _) rfl (mj_Ok.up (Nat.add_le_add_left (by decide) D) (jc_91 (D := D) ty hg oh69 ka72 k73 ⟨by decide, by decide⟩)) rfl rfl (fun v74 h75 qv74 oh75 => ?_)
                obtain rfl : v74 = none := qv74
                refine mj_T.eq (pc2 := 108) (st2 := []) ?_ rfl rfl rfl rfl
                refine jT.iinc rfl rfl (fun z76 rz76 ez76 => ?_)
                replace ez76 := ez76 ⟨by omega, by omega⟩
                refine mj_T.eq (loc2 := [some (.ref p0), some (.ref p1), some (.ref p2), some (.ref p3), some (.int (jn x41)), some (.int (jn z76))]) ?_ rfl rfl rfl rfl
                refine mj_T.pl rfl rfl rfl rfl ?_
                exact ih55 ((2147483647 - z76 : Int).toNat) (by omega) z76 h75 rz76 oh75 (by omega) rfl
          exact t51_53 _ 0 h43 ⟨by decide, by decide⟩ oh43 (by omega) rfl
      exact t39_44 _ 0 none h2 ⟨by decide, by decide⟩ oh2 (by omega) rfl
    · have c15 := of_decide_eq_false c15
      refine mj_T.pl rfl rfl rfl rfl ?_
      refine jT.getK 13 6 oh2 rfl kp2 (by decide) rfl rfl rfl fz3.symm ?_
      refine mj_T.pl rfl rfl rfl rfl ?_
      refine jT.getK 13 6 oh2 rfl kp3 (by decide) rfl rfl rfl fz40.symm ?_
      refine jT.iadd rfl (fun z77 rz77 ez77 => ?_)
      replace ez77 := ez77 ⟨by omega, by omega⟩
      refine mj_T.pl rfl rfl rfl rfl ?_
      refine jT.callp rfl rfl (Nat.le_of_ble_eq_true rfl) (Nat.le_of_ble_eq_true rfl) (jrv_of oh2 kp1 (by decide) rfl (by decide) rfl _) rfl (mj_Ok.up (Nat.add_le_add_left (by decide) D) (jc_38 (D := D) ty hg oh2 kp1)) rfl rfl (fun v78 qv78 => ?_)
      obtain ⟨z79, az79, bz79, rfl⟩ := qv78
      have rz79 : -2147483648 ≤ z79 ∧ z79 ≤ 2147483647 := ⟨by omega, by omega⟩
      refine mj_T.eq (pc2 := 31) (st2 := [.int (jn z79), .int (jn z77)]) ?_ rfl rfl rfl rfl
      refine jT.icmp rfl rz77 rz79 (fun c31 => ?_) (fun c31 => ?_)
      · have c31 := of_decide_eq_true c31
        refine mj_T.pl rfl rfl rfl rfl ?_
        refine mj_T.pl (loc' := [some (.ref p0), some (.ref p1), some (.ref p2), some (.ref p3), some (.int (jn 0)), none]) rfl rfl rfl rfl ?_
        have t39_83 : ∀ (k84 : Nat) (x80 : Int) (w81 : Option Value) (h82 : mj_H), (-2147483648 ≤ x80 ∧ x80 ≤ 2147483647) → (jO K L R g n tm h82) → (0 ≤ x80) → (2147483647 - x80 : Int).toNat = k84 → mj_T (D + 2) mj_m14 39 [some (.ref p0), some (.ref p1), some (.ref p2), some (.ref p3), some (.int (jn x80)), w81] [] h82 (jQ K L R g n tm [] (jVi 0 1)) := by
          refine jInd (fun k84 ih85 => ?_)
          intro x80 w81 h82 rx80 oh82 ix80 hm86
          refine mj_T.pl rfl rfl rfl rfl ?_
          refine mj_T.pl rfl rfl rfl rfl ?_
          refine jT.getI 13 6 oh82 rfl kp2 (by decide) rfl rfl rfl (fun z87 (az87 : (-1) ≤ z87) (bz87 : z87 ≤ 30) fz87 => ?_)
          have rz87 : -2147483648 ≤ z87 ∧ z87 ≤ 2147483647 := ⟨by omega, by omega⟩
          refine jT.icmp rfl rx80 rz87 (fun c45 => ?_) (fun c45 => ?_)
          · have c45 := of_decide_eq_true c45
            refine mj_T.pl rfl rfl rfl rfl ?_
            refine jT.call rfl rfl (Nat.le_of_ble_eq_true rfl) (Nat.le_of_ble_eq_true rfl) (jrv_of oh82 kp1 (by decide) rfl (by decide) rfl _) rfl (mj_Ok.up (Nat.add_le_add_left (by decide) D) (jc_42 (D := D) ty hg oh82 kp1)) rfl rfl (fun v88 h89 qv88 oh89 => ?_)
            obtain rfl : v88 = none := qv88
            refine mj_T.eq (pc2 := 124) (st2 := []) ?_ rfl rfl rfl rfl
            refine mj_T.pl rfl rfl rfl rfl ?_
            exact jT.retb oh89 rfl rfl (by omega) (by omega)
          · have c45 := of_decide_eq_false c45
            refine mj_T.pl rfl rfl rfl rfl ?_
            refine mj_T.pl (loc' := [some (.ref p0), some (.ref p1), some (.ref p2), some (.ref p3), some (.int (jn x80)), some (.int (jn 0))]) rfl rfl rfl rfl ?_
            have t51_92 : ∀ (k93 : Nat) (x90 : Int) (h91 : mj_H), (-2147483648 ≤ x90 ∧ x90 ≤ 2147483647) → (jO K L R g n tm h91) → (0 ≤ x90) → (2147483647 - x90 : Int).toNat = k93 → mj_T (D + 2) mj_m14 51 [some (.ref p0), some (.ref p1), some (.ref p2), some (.ref p3), some (.int (jn x80)), some (.int (jn x90))] [] h91 (jQ K L R g n tm [] (jVi 0 1)) := by
              refine jInd (fun k93 ih94 => ?_)
              intro x90 h91 rx90 oh91 ix90 hm95
              refine mj_T.pl rfl rfl rfl rfl ?_
              refine mj_T.pl rfl rfl rfl rfl ?_
              refine jT.getI 13 6 oh91 rfl kp3 (by decide) rfl rfl rfl (fun z96 (az96 : (-1) ≤ z96) (bz96 : z96 ≤ 30) fz96 => ?_)
              have rz96 : -2147483648 ≤ z96 ∧ z96 ≤ 2147483647 := ⟨by omega, by omega⟩
              refine jT.icmp rfl rx90 rz96 (fun c57 => ?_) (fun c57 => ?_)
              · have c57 := of_decide_eq_true c57
                refine jT.iinc rfl rfl (fun z97 rz97 ez97 => ?_)
                replace ez97 := ez97 ⟨by omega, by omega⟩
                refine mj_T.eq (loc2 := [some (.ref p0), some (.ref p1), some (.ref p2), some (.ref p3), some (.int (jn z97)), some (.int (jn x90))]) ?_ rfl rfl rfl rfl
                refine mj_T.pl rfl rfl rfl rfl ?_
                exact ih85 ((2147483647 - z97 : Int).toNat) (by omega) z97 (some (.int (jn x90))) h91 rz97 oh91 (by omega) rfl
              · have c57 := of_decide_eq_false c57
                iterate 2 refine mj_T.pl rfl rfl rfl rfl ?_
                refine jT.callp rfl rfl (Nat.le_of_ble_eq_true rfl) (Nat.le_of_ble_eq_true rfl) (jrv_of oh91 kp2 (by decide) rfl (by decide) rfl _) rfl (mj_Ok.up (Nat.add_le_add_left (by decide) D) (jc_36 (D := D) ty hg oh91 kp2 rx80)) rfl rfl (fun v98 qv98 => ?_)
                obtain ⟨a99, ka99, rfl⟩ := qv98
                refine mj_T.eq (pc2 := 66) (st2 := [.ref a99]) ?_ rfl rfl rfl rfl
                refine jT.getI 18 0 oh91 rfl ka99 (by decide) rfl rfl rfl (fun z100 (az100 : (-2147483648) ≤ z100) (bz100 : z100 ≤ 2147483647) fz100 => ?_)
                have rz100 : -2147483648 ≤ z100 ∧ z100 ≤ 2147483647 := ⟨by omega, by omega⟩
                refine jT.if0 rfl rz100 (fun c69 => ?_) (fun c69 => ?_)
                · have c69 := of_decide_eq_true c69
                  refine jT.iinc rfl rfl (fun z101 rz101 ez101 => ?_)
                  replace ez101 := ez101 ⟨by omega, by omega⟩
                  refine mj_T.eq (loc2 := [some (.ref p0), some (.ref p1), some (.ref p2), some (.ref p3), some (.int (jn z101)), some (.int (jn x90))]) ?_ rfl rfl rfl rfl
                  refine mj_T.pl rfl rfl rfl rfl ?_
                  exact ih85 ((2147483647 - z101 : Int).toNat) (by omega) z101 (some (.int (jn x90))) h91 rz101 oh91 (by omega) rfl
                · have c69 := of_decide_eq_false c69
                  refine mj_T.pl rfl rfl rfl rfl ?_
                  refine jT.getR 11 118 18 ty oh91 rfl kp0 (by decide) rfl rfl rfl (fun k102 => ?_)
                  iterate 2 refine mj_T.pl rfl rfl rfl rfl ?_
                  refine jT.callp rfl rfl (Nat.le_of_ble_eq_true rfl) (Nat.le_of_ble_eq_true rfl) (jrv_of oh91 kp2 (by decide) rfl (by decide) rfl _) rfl (mj_Ok.up (Nat.add_le_add_left (by decide) D) (jc_36 (D := D) ty hg oh91 kp2 rx80)) rfl rfl (fun v103 qv103 => ?_)
                  obtain ⟨a104, ka104, rfl⟩ := qv103
                  refine mj_T.eq (pc2 := 82) (st2 := [.ref a104, .ref (R p0 4)]) ?_ rfl rfl rfl rfl
                  iterate 2 refine mj_T.pl rfl rfl rfl rfl ?_
                  refine jT.callp rfl rfl (Nat.le_of_ble_eq_true rfl) (Nat.le_of_ble_eq_true rfl) (jrv_of oh91 kp3 (by decide) rfl (by decide) rfl _) rfl (mj_Ok.up (Nat.add_le_add_left (by decide) D) (jc_36 (D := D) ty hg oh91 kp3 rx90)) rfl rfl (fun v105 qv105 => ?_)
                  obtain ⟨a106, ka106, rfl⟩ := qv105
                  refine mj_T.eq (pc2 := 88) (st2 := [.ref a106, .ref a104, .ref (R p0 4)]) ?_ rfl rfl rfl rfl
                  refine jT.call rfl rfl (Nat.le_of_ble_eq_true rfl) (Nat.le_of_ble_eq_true rfl) (jrv_of oh91 k102 (by decide) rfl (by decide) rfl _) rfl (mj_Ok.up (Nat.add_le_add_left (by decide) D) (jc_95 (D := D) ty hg oh91 k102 ka104 ka106)) rfl rfl (fun v107 h108 qv107 oh108 => ?_)
                  obtain rfl : v107 = none := qv107
                  refine mj_T.eq (pc2 := 91) (st2 := []) ?_ rfl rfl rfl rfl
                  iterate 3 refine mj_T.pl rfl rfl rfl rfl ?_
                  refine jT.iadd rfl (fun z109 rz109 ez109 => ?_)
                  replace ez109 := ez109 ⟨by omega, by omega⟩
                  refine jT.callp rfl rfl (Nat.le_of_ble_eq_true rfl) (Nat.le_of_ble_eq_true rfl) (jrv_of oh108 kp1 (by decide) rfl (by decide) rfl _) rfl (mj_Ok.up (Nat.add_le_add_left (by decide) D) (jc_36 (D := D) ty hg oh108 kp1 rz109)) rfl rfl (fun v110 qv110 => ?_)
                  obtain ⟨a111, ka111, rfl⟩ := qv110
                  refine mj_T.eq (pc2 := 100) (st2 := [.ref a111]) ?_ rfl rfl rfl rfl
                  refine mj_T.pl rfl rfl rfl rfl ?_
                  refine jT.getR 11 118 18 ty oh108 rfl kp0 (by decide) rfl rfl rfl (fun k112 => ?_)
                  refine mj_T.pl rfl rfl rfl rfl ?_
                  refine jT.call rfl rfl (Nat.le_of_ble_eq_true rfl) (Nat.le_of_ble_eq_true rfl) (jrv_of oh108 ka111 (by decide) rfl (by decide) rfl _) rfl (mj_Ok.up (Nat.add_le_add_left (by decide) D) (jc_91 (D := D) ty hg oh108 ka111 k112 ⟨by decide, by decide⟩)) rfl rfl (fun v113 h114 qv113 oh114 => ?_)
                  obtain rfl : v113 = none := qv113
                  refine mj_T.eq (pc2 := 108) (st2 := []) ?_ rfl rfl rfl rfl
                  refine jT.iinc rfl rfl (fun z115 rz115 ez115 => ?_)
                  replace ez115 := ez115 ⟨by omega, by omega⟩
                  refine mj_T.eq (loc2 := [some (.ref p0), some (.ref p1), some (.ref p2), some (.ref p3), some (.int (jn x80)), some (.int (jn z115))]) ?_ rfl rfl rfl rfl
                  refine mj_T.pl rfl rfl rfl rfl ?_
                  exact ih94 ((2147483647 - z115 : Int).toNat) (by omega) z115 h114 rz115 oh114 (by omega) rfl
            exact t51_92 _ 0 h82 ⟨by decide, by decide⟩ oh82 (by omega) rfl
        exact t39_83 _ 0 none h2 ⟨by decide, by decide⟩ oh2 (by omega) rfl
      · have c31 := of_decide_eq_false c31
        refine mj_T.pl rfl rfl rfl rfl ?_
        exact jT.retb oh2 rfl rfl (by omega) (by omega)
-- PolyRegisters$Desk.multiplyRows([J[J[J)Z
theorem jc_11 {D n : Nat} {tm : Int} {h g : mj_H} {K L : Nat → Nat} {R : Nat → Nat → Nat} {p0 : Nat} {p1 : Nat} {p2 : Nat} {p3 : Nat} (ty : jTY K L R) (hg : g.length ≤ n) (o : jO K L R g n tm h) (kp0 : K p0 = 11) (kp1 : K p1 = 2) (kp2 : K p2 = 2) (kp3 : K p3 = 2) : mj_Ok (D + 4) 11 [.ref p0, .ref p1, .ref p2, .ref p3] h (jQ K L R g n tm [] (jVi 0 1)) := by
  refine mj_Ok.of (M := mj_m11) (loc := [some (.ref p0), some (.ref p1), some (.ref p2), some (.ref p3)]) rfl rfl rfl ?_
  refine mj_T.pl rfl rfl rfl rfl ?_
  refine jT.getR 11 113 13 ty o rfl kp0 (by decide) rfl rfl rfl (fun k1 => ?_)
  refine mj_T.pl rfl rfl rfl rfl ?_
  refine jT.lc 1 rfl rfl ?_
  refine jT.call rfl rfl (Nat.le_of_ble_eq_true rfl) (Nat.le_of_ble_eq_true rfl) (jrv_of o k1 (by decide) rfl (by decide) rfl _) rfl (mj_Ok.up (Nat.add_le_add_left (by decide) D) (jc_40 (D := D) ty hg o k1 kp1 ⟨by decide, by decide⟩)) rfl rfl (fun v2 h3 qv2 oh3 => ?_)
  obtain rfl : v2 = none := qv2
  refine mj_T.eq (pc2 := 9) (st2 := []) ?_ rfl rfl rfl rfl
  refine mj_T.pl rfl rfl rfl rfl ?_
  refine jT.getR 11 113 13 ty oh3 rfl kp0 (by decide) rfl rfl rfl (fun k4 => ?_)
  refine mj_T.pl rfl rfl rfl rfl ?_
  refine jT.lc 1 rfl rfl ?_
  refine jT.call rfl rfl (Nat.le_of_ble_eq_true rfl) (Nat.le_of_ble_eq_true rfl) (jrv_of oh3 k4 (by decide) rfl (by decide) rfl _) rfl (mj_Ok.up (Nat.add_le_add_left (by decide) D) (jc_40 (D := D) ty hg oh3 k4 kp2 ⟨by decide, by decide⟩)) rfl rfl (fun v5 h6 qv5 oh6 => ?_)
  obtain rfl : v5 = none := qv5
  refine mj_T.eq (pc2 := 18) (st2 := []) ?_ rfl rfl rfl rfl
  iterate 2 refine mj_T.pl rfl rfl rfl rfl ?_
  refine jT.getR 11 113 13 ty oh6 rfl kp0 (by decide) rfl rfl rfl (fun k7 => ?_)
  refine mj_T.pl rfl rfl rfl rfl ?_
  refine jT.getR 11 113 13 ty oh6 rfl kp0 (by decide) rfl rfl rfl (fun k8 => ?_)
  refine mj_T.pl rfl rfl rfl rfl ?_
  refine jT.getR 11 113 13 ty oh6 rfl kp0 (by decide) rfl rfl rfl (fun k9 => ?_)
  refine jT.call rfl rfl (Nat.le_of_ble_eq_true rfl) (Nat.le_of_ble_eq_true rfl) (jrv_of oh6 kp0 (by decide) rfl (by decide) rfl _) rfl (mj_Ok.up (Nat.add_le_add_left (by decide) D) (jc_14 (D := D) ty hg oh6 kp0 k7 k8 k9)) rfl rfl (fun v10 h11 qv10 oh11 => ?_)
  obtain ⟨z12, az12, bz12, rfl⟩ := qv10
  have rz12 : -2147483648 ≤ z12 ∧ z12 ≤ 2147483647 := ⟨by omega, by omega⟩
  refine mj_T.eq (pc2 := 34) (st2 := [.int (jn z12)]) ?_ rfl rfl rfl rfl
  refine jT.if0 rfl rz12 (fun c34 => ?_) (fun c34 => ?_)
  · have c34 := of_decide_eq_true c34
    refine mj_T.pl rfl rfl rfl rfl ?_
    exact jT.retb oh11 rfl rfl (by omega) (by omega)
  · have c34 := of_decide_eq_false c34
    refine mj_T.pl rfl rfl rfl rfl ?_
    refine jT.getR 11 113 13 ty oh11 rfl kp0 (by decide) rfl rfl rfl (fun k13 => ?_)
    refine mj_T.pl rfl rfl rfl rfl ?_
    refine jT.call rfl rfl (Nat.le_of_ble_eq_true rfl) (Nat.le_of_ble_eq_true rfl) (jrv_of oh11 k13 (by decide) rfl (by decide) rfl _) rfl (mj_Ok.up (Nat.add_le_add_left (by decide) D) (jc_44 (D := D) ty hg oh11 k13 kp3)) rfl rfl (fun v14 h15 qv14 oh15 => ?_)
    obtain ⟨z16, az16, bz16, rfl⟩ := qv14
    have rz16 : -2147483648 ≤ z16 ∧ z16 ≤ 2147483647 := ⟨by omega, by omega⟩
    refine mj_T.eq (pc2 := 45) (st2 := [.int (jn z16)]) ?_ rfl rfl rfl rfl
    refine jT.if0 rfl rz16 (fun c45 => ?_) (fun c45 => ?_)
    · have c45 := of_decide_eq_true c45
      refine mj_T.pl rfl rfl rfl rfl ?_
      exact jT.retb oh15 rfl rfl (by omega) (by omega)
    · have c45 := of_decide_eq_false c45
      iterate 2 refine mj_T.pl rfl rfl rfl rfl ?_
      exact jT.retb oh15 rfl rfl (by omega) (by omega)
-- PolyRegisters$Desk.raise([JI[J)Z
theorem jc_12 {D n : Nat} {tm : Int} {h g : mj_H} {K L : Nat → Nat} {R : Nat → Nat → Nat} {p0 : Nat} {p1 : Nat} {p2 : Int} {p3 : Nat} (ty : jTY K L R) (hg : g.length ≤ n) (o : jO K L R g n tm h) (kp0 : K p0 = 11) (kp1 : K p1 = 2) (rp2 : -2147483648 ≤ p2 ∧ p2 ≤ 2147483647) (kp3 : K p3 = 2) : mj_Ok (D + 4) 12 [.ref p0, .ref p1, .int (jn p2), .ref p3] h (jQ K L R g n tm [] (jVi 0 1)) := by
  refine mj_Ok.of (M := mj_m12) (loc := [some (.ref p0), some (.ref p1), some (.int (jn p2)), some (.ref p3), none]) rfl rfl rfl ?_
  refine mj_T.pl rfl rfl rfl rfl ?_
  refine jT.getR 11 113 13 ty o rfl kp0 (by decide) rfl rfl rfl (fun k1 => ?_)
  refine mj_T.pl rfl rfl rfl rfl ?_
  refine jT.lc 1 rfl rfl ?_
  refine jT.call rfl rfl (Nat.le_of_ble_eq_true rfl) (Nat.le_of_ble_eq_true rfl) (jrv_of o k1 (by decide) rfl (by decide) rfl _) rfl (mj_Ok.up (Nat.add_le_add_left (by decide) D) (jc_40 (D := D) ty hg o k1 kp1 ⟨by decide, by decide⟩)) rfl rfl (fun v2 h3 qv2 oh3 => ?_)
  obtain rfl : v2 = none := qv2
  refine mj_T.eq (pc2 := 9) (st2 := []) ?_ rfl rfl rfl rfl
  refine mj_T.pl rfl rfl rfl rfl ?_
  refine jT.getR 11 113 13 ty oh3 rfl kp0 (by decide) rfl rfl rfl (fun k4 => ?_)
  refine jT.call rfl rfl (Nat.le_of_ble_eq_true rfl) (Nat.le_of_ble_eq_true rfl) (jrv_of oh3 k4 (by decide) rfl (by decide) rfl _) rfl (mj_Ok.up (Nat.add_le_add_left (by decide) D) (jc_39 (D := D) ty hg oh3 k4)) rfl rfl (fun v5 h6 qv5 oh6 => ?_)
  obtain rfl : v5 = none := qv5
  refine mj_T.eq (pc2 := 16) (st2 := []) ?_ rfl rfl rfl rfl
  refine mj_T.pl rfl rfl rfl rfl ?_
  refine jT.getR 11 113 13 ty oh6 rfl kp0 (by decide) rfl rfl rfl (fun k7 => ?_)
  refine mj_T.pl rfl rfl rfl rfl ?_
  refine jT.callp rfl rfl (Nat.le_of_ble_eq_true rfl) (Nat.le_of_ble_eq_true rfl) (jrv_of oh6 k7 (by decide) rfl (by decide) rfl _) rfl (mj_Ok.up (Nat.add_le_add_left (by decide) D) (jc_36 (D := D) ty hg oh6 k7 ⟨by decide, by decide⟩)) rfl rfl (fun v8 qv8 => ?_)
  obtain ⟨a9, ka9, rfl⟩ := qv8
  refine mj_T.eq (pc2 := 24) (st2 := [.ref a9]) ?_ rfl rfl rfl rfl
  refine jT.lc 1 rfl rfl ?_
  refine jT.call rfl rfl (Nat.le_of_ble_eq_true rfl) (Nat.le_of_ble_eq_true rfl) (jrv_of oh6 ka9 (by decide) rfl (by decide) rfl _) rfl (mj_Ok.up (Nat.add_le_add_left (by decide) D) (jc_86 (D := D) ty hg oh6 ka9 ⟨by decide, by decide⟩)) rfl rfl (fun v10 h11 qv10 oh11 => ?_)
  obtain rfl : v10 = none := qv10
  refine mj_T.eq (pc2 := 28) (st2 := []) ?_ rfl rfl rfl rfl
  refine mj_T.pl rfl rfl rfl rfl ?_
  refine jT.getR 11 113 13 ty oh11 rfl kp0 (by decide) rfl rfl rfl (fun k12 => ?_)
  refine jT.call rfl rfl (Nat.le_of_ble_eq_true rfl) (Nat.le_of_ble_eq_true rfl) (jrv_of oh11 k12 (by decide) rfl (by decide) rfl _) rfl (mj_Ok.up (Nat.add_le_add_left (by decide) D) (jc_42 (D := D) ty hg oh11 k12)) rfl rfl (fun v13 h14 qv13 oh14 => ?_)
  obtain rfl : v13 = none := qv13
  refine mj_T.eq (pc2 := 35) (st2 := []) ?_ rfl rfl rfl rfl
  refine mj_T.pl rfl rfl rfl rfl ?_
  refine mj_T.pl (loc' := [some (.ref p0), some (.ref p1), some (.int (jn p2)), some (.ref p3), some (.int (jn 0))]) rfl rfl rfl rfl ?_
  have t38_17 : ∀ (k18 : Nat) (x15 : Int) (h16 : mj_H), (-2147483648 ≤ x15 ∧ x15 ≤ 2147483647) → (jO K L R g n tm h16) → (0 ≤ x15) → (2147483647 - x15 : Int).toNat = k18 → mj_T (D + 3) mj_m12 38 [some (.ref p0), some (.ref p1), some (.int (jn p2)), some (.ref p3), some (.int (jn x15))] [] h16 (jQ K L R g n tm [] (jVi 0 1)) := by
    refine jInd (fun k18 ih19 => ?_)
    intro x15 h16 rx15 oh16 ix15 hm20
    refine mj_T.pl rfl rfl rfl rfl ?_
    refine mj_T.pl rfl rfl rfl rfl ?_
    refine jT.icmp rfl rx15 rp2 (fun c41 => ?_) (fun c41 => ?_)
    · have c41 := of_decide_eq_true c41
      refine mj_T.pl rfl rfl rfl rfl ?_
      refine jT.getR 11 113 13 ty oh16 rfl kp0 (by decide) rfl rfl rfl (fun k21 => ?_)
      refine mj_T.pl rfl rfl rfl rfl ?_
      refine jT.call rfl rfl (Nat.le_of_ble_eq_true rfl) (Nat.le_of_ble_eq_true rfl) (jrv_of oh16 k21 (by decide) rfl (by decide) rfl _) rfl (mj_Ok.up (Nat.add_le_add_left (by decide) D) (jc_44 (D := D) ty hg oh16 k21 kp3)) rfl rfl (fun v22 h23 qv22 oh23 => ?_)
      obtain ⟨z24, az24, bz24, rfl⟩ := qv22
      have rz24 : -2147483648 ≤ z24 ∧ z24 ≤ 2147483647 := ⟨by omega, by omega⟩
      refine mj_T.eq (pc2 := 90) (st2 := [.int (jn z24)]) ?_ rfl rfl rfl rfl
      exact jT.retb oh23 rfl rfl (by omega) (by omega)
    · have c41 := of_decide_eq_false c41
      iterate 2 refine mj_T.pl rfl rfl rfl rfl ?_
      refine jT.getR 11 113 13 ty oh16 rfl kp0 (by decide) rfl rfl rfl (fun k25 => ?_)
      refine mj_T.pl rfl rfl rfl rfl ?_
      refine jT.getR 11 113 13 ty oh16 rfl kp0 (by decide) rfl rfl rfl (fun k26 => ?_)
      refine mj_T.pl rfl rfl rfl rfl ?_
      refine jT.getR 11 113 13 ty oh16 rfl kp0 (by decide) rfl rfl rfl (fun k27 => ?_)
      refine jT.call rfl rfl (Nat.le_of_ble_eq_true rfl) (Nat.le_of_ble_eq_true rfl) (jrv_of oh16 kp0 (by decide) rfl (by decide) rfl _) rfl (mj_Ok.up (Nat.add_le_add_left (by decide) D) (jc_14 (D := D) ty hg oh16 kp0 k25 k26 k27)) rfl rfl (fun v28 h29 qv28 oh29 => ?_)
      obtain ⟨z30, az30, bz30, rfl⟩ := qv28
      have rz30 : -2147483648 ≤ z30 ∧ z30 ≤ 2147483647 := ⟨by omega, by omega⟩
      refine mj_T.eq (pc2 := 60) (st2 := [.int (jn z30)]) ?_ rfl rfl rfl rfl
      refine jT.if0 rfl rz30 (fun c60 => ?_) (fun c60 => ?_)
      · have c60 := jne1 c60
        refine mj_T.pl rfl rfl rfl rfl ?_
        refine jT.getR 11 113 13 ty oh29 rfl kp0 (by decide) rfl rfl rfl (fun k31 => ?_)
        refine mj_T.pl rfl rfl rfl rfl ?_
        refine jT.getR 11 113 13 ty oh29 rfl kp0 (by decide) rfl rfl rfl (fun k32 => ?_)
        refine jT.call rfl rfl (Nat.le_of_ble_eq_true rfl) (Nat.le_of_ble_eq_true rfl) (jrv_of oh29 k31 (by decide) rfl (by decide) rfl _) rfl (mj_Ok.up (Nat.add_le_add_left (by decide) D) (jc_41 (D := D) ty hg oh29 k31 k32)) rfl rfl (fun v33 h34 qv33 oh34 => ?_)
        obtain rfl : v33 = none := qv33
        refine mj_T.eq (pc2 := 76) (st2 := []) ?_ rfl rfl rfl rfl
        refine jT.iinc rfl rfl (fun z35 rz35 ez35 => ?_)
        replace ez35 := ez35 ⟨by omega, by omega⟩
        refine mj_T.eq (loc2 := [some (.ref p0), some (.ref p1), some (.int (jn p2)), some (.ref p3), some (.int (jn z35))]) ?_ rfl rfl rfl rfl
        refine mj_T.pl rfl rfl rfl rfl ?_
        exact ih19 ((2147483647 - z35 : Int).toNat) (by omega) z35 h34 rz35 oh34 (by omega) rfl
      · have c60 := jne2 c60
        refine mj_T.pl rfl rfl rfl rfl ?_
        exact jT.retb oh29 rfl rfl (by omega) (by omega)
  exact t38_17 _ 0 h14 ⟨by decide, by decide⟩ oh14 (by omega) rfl
-- PolyRegisters$Desk.putIn([J[J[J)Z
theorem jc_13 {D n : Nat} {tm : Int} {h g : mj_H} {K L : Nat → Nat} {R : Nat → Nat → Nat} {p0 : Nat} {p1 : Nat} {p2 : Nat} {p3 : Nat} (ty : jTY K L R) (hg : g.length ≤ n) (o : jO K L R g n tm h) (kp0 : K p0 = 11) (kp1 : K p1 = 2) (kp2 : K p2 = 2) (kp3 : K p3 = 2) : mj_Ok (D + 4) 13 [.ref p0, .ref p1, .ref p2, .ref p3] h (jQ K L R g n tm [] (jVi 0 1)) := by
  refine mj_Ok.of (M := mj_m13) (loc := [some (.ref p0), some (.ref p1), some (.ref p2), some (.ref p3), none]) rfl rfl rfl ?_
  refine mj_T.pl rfl rfl rfl rfl ?_
  refine jT.getR 11 113 13 ty o rfl kp0 (by decide) rfl rfl rfl (fun k1 => ?_)
  refine mj_T.pl rfl rfl rfl rfl ?_
  refine jT.lc 1 rfl rfl ?_
  refine jT.call rfl rfl (Nat.le_of_ble_eq_true rfl) (Nat.le_of_ble_eq_true rfl) (jrv_of o k1 (by decide) rfl (by decide) rfl _) rfl (mj_Ok.up (Nat.add_le_add_left (by decide) D) (jc_40 (D := D) ty hg o k1 kp2 ⟨by decide, by decide⟩)) rfl rfl (fun v2 h3 qv2 oh3 => ?_)
  obtain rfl : v2 = none := qv2
  refine mj_T.eq (pc2 := 9) (st2 := []) ?_ rfl rfl rfl rfl
  refine mj_T.pl rfl rfl rfl rfl ?_
  refine jT.getR 11 113 13 ty oh3 rfl kp0 (by decide) rfl rfl rfl (fun k4 => ?_)
  refine jT.call rfl rfl (Nat.le_of_ble_eq_true rfl) (Nat.le_of_ble_eq_true rfl) (jrv_of oh3 k4 (by decide) rfl (by decide) rfl _) rfl (mj_Ok.up (Nat.add_le_add_left (by decide) D) (jc_39 (D := D) ty hg oh3 k4)) rfl rfl (fun v5 h6 qv5 oh6 => ?_)
  obtain rfl : v5 = none := qv5
  refine mj_T.eq (pc2 := 16) (st2 := []) ?_ rfl rfl rfl rfl
  refine mj_T.pl rfl rfl rfl rfl ?_
  refine jT.alen 2 ty oh6 rfl kp1 (by decide) (by decide) (fun z7 ez7 (az7 : 13 ≤ z7) (bz7 : z7 ≤ 13) => ?_)
  have rz7 : -2147483648 ≤ z7 ∧ z7 ≤ 2147483647 := ⟨by omega, by omega⟩
  refine mj_T.pl rfl rfl rfl rfl ?_
  refine jT.isub rfl (fun z8 rz8 ez8 => ?_)
  replace ez8 := ez8 ⟨by omega, by omega⟩
  refine mj_T.pl (loc' := [some (.ref p0), some (.ref p1), some (.ref p2), some (.ref p3), some (.int (jn z8))]) rfl rfl rfl rfl ?_
  have t22_11 : ∀ (k12 : Nat) (x9 : Int) (h10 : mj_H), (-2147483648 ≤ x9 ∧ x9 ≤ 2147483647) → (jO K L R g n tm h10) → (x9 ≤ z8) → (x9 + 1 : Int).toNat = k12 → mj_T (D + 3) mj_m13 22 [some (.ref p0), some (.ref p1), some (.ref p2), some (.ref p3), some (.int (jn x9))] [] h10 (jQ K L R g n tm [] (jVi 0 1)) := by
    refine jInd (fun k12 ih13 => ?_)
    intro x9 h10 rx9 oh10 ix9 hm14
    refine mj_T.pl rfl rfl rfl rfl ?_
    refine jT.if0 rfl rx9 (fun c24 => ?_) (fun c24 => ?_)
    · have c24 := of_decide_eq_true c24
      refine mj_T.pl rfl rfl rfl rfl ?_
      refine jT.getR 11 113 13 ty oh10 rfl kp0 (by decide) rfl rfl rfl (fun k15 => ?_)
      refine mj_T.pl rfl rfl rfl rfl ?_
      refine jT.call rfl rfl (Nat.le_of_ble_eq_true rfl) (Nat.le_of_ble_eq_true rfl) (jrv_of oh10 k15 (by decide) rfl (by decide) rfl _) rfl (mj_Ok.up (Nat.add_le_add_left (by decide) D) (jc_44 (D := D) ty hg oh10 k15 kp3)) rfl rfl (fun v16 h17 qv16 oh17 => ?_)
      obtain ⟨z18, az18, bz18, rfl⟩ := qv16
      have rz18 : -2147483648 ≤ z18 ∧ z18 ≤ 2147483647 := ⟨by omega, by omega⟩
      refine mj_T.eq (pc2 := 100) (st2 := [.int (jn z18)]) ?_ rfl rfl rfl rfl
      exact jT.retb oh17 rfl rfl (by omega) (by omega)
    · have c24 := of_decide_eq_false c24
      iterate 2 refine mj_T.pl rfl rfl rfl rfl ?_
      refine jT.getR 11 113 13 ty oh10 rfl kp0 (by decide) rfl rfl rfl (fun k19 => ?_)
      refine mj_T.pl rfl rfl rfl rfl ?_
      refine jT.getR 11 113 13 ty oh10 rfl kp0 (by decide) rfl rfl rfl (fun k20 => ?_)
      refine mj_T.pl rfl rfl rfl rfl ?_
      refine jT.getR 11 113 13 ty oh10 rfl kp0 (by decide) rfl rfl rfl (fun k21 => ?_)
      refine jT.call rfl rfl (Nat.le_of_ble_eq_true rfl) (Nat.le_of_ble_eq_true rfl) (jrv_of oh10 kp0 (by decide) rfl (by decide) rfl _) rfl (mj_Ok.up (Nat.add_le_add_left (by decide) D) (jc_14 (D := D) ty hg oh10 kp0 k19 k20 k21)) rfl rfl (fun v22 h23 qv22 oh23 => ?_)
      obtain ⟨z24, az24, bz24, rfl⟩ := qv22
      have rz24 : -2147483648 ≤ z24 ∧ z24 ≤ 2147483647 := ⟨by omega, by omega⟩
      refine mj_T.eq (pc2 := 43) (st2 := [.int (jn z24)]) ?_ rfl rfl rfl rfl
      refine jT.if0 rfl rz24 (fun c43 => ?_) (fun c43 => ?_)
      · have c43 := jne1 c43
        refine mj_T.pl rfl rfl rfl rfl ?_
        refine jT.getR 11 118 18 ty oh23 rfl kp0 (by decide) rfl rfl rfl (fun k25 => ?_)
        iterate 2 refine mj_T.pl rfl rfl rfl rfl ?_
        refine jT.lald oh23 rfl kp1 rx9 ⟨by omega, by omega⟩ (fun z26 jz26 => ?_)
        refine jT.call rfl rfl (Nat.le_of_ble_eq_true rfl) (Nat.le_of_ble_eq_true rfl) (jrv_of oh23 k25 (by decide) rfl (by decide) rfl _) rfl (mj_Ok.up (Nat.add_le_add_left (by decide) D) (jc_86 (D := D) ty hg oh23 k25 jz26)) rfl rfl (fun v27 h28 qv27 oh28 => ?_)
        obtain rfl : v27 = none := qv27
        refine mj_T.eq (pc2 := 59) (st2 := []) ?_ rfl rfl rfl rfl
        refine mj_T.pl rfl rfl rfl rfl ?_
        refine jT.getR 11 113 13 ty oh28 rfl kp0 (by decide) rfl rfl rfl (fun k29 => ?_)
        refine mj_T.pl rfl rfl rfl rfl ?_
        refine jT.callp rfl rfl (Nat.le_of_ble_eq_true rfl) (Nat.le_of_ble_eq_true rfl) (jrv_of oh28 k29 (by decide) rfl (by decide) rfl _) rfl (mj_Ok.up (Nat.add_le_add_left (by decide) D) (jc_36 (D := D) ty hg oh28 k29 ⟨by decide, by decide⟩)) rfl rfl (fun v30 qv30 => ?_)
        obtain ⟨a31, ka31, rfl⟩ := qv30
        refine mj_T.eq (pc2 := 67) (st2 := [.ref a31]) ?_ rfl rfl rfl rfl
        refine mj_T.pl rfl rfl rfl rfl ?_
        refine jT.getR 11 118 18 ty oh28 rfl kp0 (by decide) rfl rfl rfl (fun k32 => ?_)
        refine mj_T.pl rfl rfl rfl rfl ?_
        refine jT.call rfl rfl (Nat.le_of_ble_eq_true rfl) (Nat.le_of_ble_eq_true rfl) (jrv_of oh28 ka31 (by decide) rfl (by decide) rfl _) rfl (mj_Ok.up (Nat.add_le_add_left (by decide) D) (jc_91 (D := D) ty hg oh28 ka31 k32 ⟨by decide, by decide⟩)) rfl rfl (fun v33 h34 qv33 oh34 => ?_)
        obtain rfl : v33 = none := qv33
        refine mj_T.eq (pc2 := 75) (st2 := []) ?_ rfl rfl rfl rfl
        refine mj_T.pl rfl rfl rfl rfl ?_
        refine jT.getR 11 113 13 ty oh34 rfl kp0 (by decide) rfl rfl rfl (fun k35 => ?_)
        refine mj_T.pl rfl rfl rfl rfl ?_
        refine jT.getR 11 113 13 ty oh34 rfl kp0 (by decide) rfl rfl rfl (fun k36 => ?_)
        refine jT.call rfl rfl (Nat.le_of_ble_eq_true rfl) (Nat.le_of_ble_eq_true rfl) (jrv_of oh34 k35 (by decide) rfl (by decide) rfl _) rfl (mj_Ok.up (Nat.add_le_add_left (by decide) D) (jc_41 (D := D) ty hg oh34 k35 k36)) rfl rfl (fun v37 h38 qv37 oh38 => ?_)
        obtain rfl : v37 = none := qv37
        refine mj_T.eq (pc2 := 86) (st2 := []) ?_ rfl rfl rfl rfl
        refine jT.iinc rfl rfl (fun z39 rz39 ez39 => ?_)
        replace ez39 := ez39 ⟨by omega, by omega⟩
        refine mj_T.eq (loc2 := [some (.ref p0), some (.ref p1), some (.ref p2), some (.ref p3), some (.int (jn z39))]) ?_ rfl rfl rfl rfl
        refine mj_T.pl rfl rfl rfl rfl ?_
        exact ih13 ((z39 + 1 : Int).toNat) (by omega) z39 h38 rz39 oh38 (by omega) rfl
      · have c43 := jne2 c43
        refine mj_T.pl rfl rfl rfl rfl ?_
        exact jT.retb oh23 rfl rfl (by omega) (by omega)
  exact t22_11 _ z8 h6 rz8 oh6 (by omega) rfl
-- PolyRegisters$Desk.addsDegrees([J[J)Z
theorem jc_15 {D n : Nat} {tm : Int} {h g : mj_H} {K L : Nat → Nat} {R : Nat → Nat → Nat} {p0 : Nat} {p1 : Nat} {p2 : Nat} (ty : jTY K L R) (hg : g.length ≤ n) (o : jO K L R g n tm h) (kp0 : K p0 = 11) (kp1 : K p1 = 2) (kp2 : K p2 = 2) : mj_Ok (D + 4) 15 [.ref p0, .ref p1, .ref p2] h (jQ K L R g n tm [] (jVi 0 1)) := by
  refine mj_Ok.of (M := mj_m15) (loc := [some (.ref p0), some (.ref p1), some (.ref p2), none]) rfl rfl rfl ?_
  refine mj_T.pl rfl rfl rfl rfl ?_
  refine jT.getR 11 113 13 ty o rfl kp0 (by decide) rfl rfl rfl (fun k1 => ?_)
  refine mj_T.pl rfl rfl rfl rfl ?_
  refine jT.lc 1 rfl rfl ?_
  refine jT.call rfl rfl (Nat.le_of_ble_eq_true rfl) (Nat.le_of_ble_eq_true rfl) (jrv_of o k1 (by decide) rfl (by decide) rfl _) rfl (mj_Ok.up (Nat.add_le_add_left (by decide) D) (jc_40 (D := D) ty hg o k1 kp1 ⟨by decide, by decide⟩)) rfl rfl (fun v2 h3 qv2 oh3 => ?_)
  obtain rfl : v2 = none := qv2
  refine mj_T.eq (pc2 := 9) (st2 := []) ?_ rfl rfl rfl rfl
  refine mj_T.pl rfl rfl rfl rfl ?_
  refine jT.getR 11 113 13 ty oh3 rfl kp0 (by decide) rfl rfl rfl (fun k4 => ?_)
  refine mj_T.pl rfl rfl rfl rfl ?_
  refine jT.lc 1 rfl rfl ?_
  refine jT.call rfl rfl (Nat.le_of_ble_eq_true rfl) (Nat.le_of_ble_eq_true rfl) (jrv_of oh3 k4 (by decide) rfl (by decide) rfl _) rfl (mj_Ok.up (Nat.add_le_add_left (by decide) D) (jc_40 (D := D) ty hg oh3 k4 kp2 ⟨by decide, by decide⟩)) rfl rfl (fun v5 h6 qv5 oh6 => ?_)
  obtain rfl : v5 = none := qv5
  refine mj_T.eq (pc2 := 18) (st2 := []) ?_ rfl rfl rfl rfl
  iterate 2 refine mj_T.pl rfl rfl rfl rfl ?_
  refine jT.getR 11 113 13 ty oh6 rfl kp0 (by decide) rfl rfl rfl (fun k7 => ?_)
  refine mj_T.pl rfl rfl rfl rfl ?_
  refine jT.getR 11 113 13 ty oh6 rfl kp0 (by decide) rfl rfl rfl (fun k8 => ?_)
  refine mj_T.pl rfl rfl rfl rfl ?_
  refine jT.getR 11 113 13 ty oh6 rfl kp0 (by decide) rfl rfl rfl (fun k9 => ?_)
  refine jT.call rfl rfl (Nat.le_of_ble_eq_true rfl) (Nat.le_of_ble_eq_true rfl) (jrv_of oh6 kp0 (by decide) rfl (by decide) rfl _) rfl (mj_Ok.up (Nat.add_le_add_left (by decide) D) (jc_14 (D := D) ty hg oh6 kp0 k7 k8 k9)) rfl rfl (fun v10 h11 qv10 oh11 => ?_)
  obtain ⟨z12, az12, bz12, rfl⟩ := qv10
  have rz12 : -2147483648 ≤ z12 ∧ z12 ≤ 2147483647 := ⟨by omega, by omega⟩
  refine mj_T.eq (pc2 := 34) (st2 := [.int (jn z12)]) ?_ rfl rfl rfl rfl
  iterate 2 refine mj_T.pl rfl rfl rfl rfl ?_
  refine jT.getR 11 113 13 ty oh11 rfl kp0 (by decide) rfl rfl rfl (fun k13 => ?_)
  refine jT.getI 13 6 oh11 rfl k13 (by decide) rfl rfl rfl (fun z14 (az14 : (-1) ≤ z14) (bz14 : z14 ≤ 30) fz14 => ?_)
  have rz14 : -2147483648 ≤ z14 ∧ z14 ≤ 2147483647 := ⟨by omega, by omega⟩
  have t74_16 : ∀ (x15 : Int), (-2147483648 ≤ x15 ∧ x15 ≤ 2147483647) → mj_T (D + 3) mj_m15 74 [some (.ref p0), some (.ref p1), some (.ref p2), none] [.int (jn x15)] h11 (jQ K L R g n tm [] (jVi 0 1)) := by
    intro x15 rx15
    refine mj_T.pl (loc' := [some (.ref p0), some (.ref p1), some (.ref p2), some (.int (jn x15))]) rfl rfl rfl rfl ?_
    refine mj_T.pl rfl rfl rfl rfl ?_
    refine jT.getR 11 113 13 ty oh11 rfl kp0 (by decide) rfl rfl rfl (fun k17 => ?_)
    refine jT.getI 13 6 oh11 rfl k17 (by decide) rfl rfl rfl (fun z18 (az18 : (-1) ≤ z18) (bz18 : z18 ≤ 30) fz18 => ?_)
    have rz18 : -2147483648 ≤ z18 ∧ z18 ≤ 2147483647 := ⟨by omega, by omega⟩
    refine mj_T.pl rfl rfl rfl rfl ?_
    refine jT.icmp rfl rz18 rx15 (fun c83 => ?_) (fun c83 => ?_)
    · have c83 := jne1 c83
      refine mj_T.pl rfl rfl rfl rfl ?_
      exact jT.retb oh11 rfl rfl (by omega) (by omega)
    · have c83 := jne2 c83
      iterate 2 refine mj_T.pl rfl rfl rfl rfl ?_
      exact jT.retb oh11 rfl rfl (by omega) (by omega)
  have t55_19 : mj_T (D + 3) mj_m15 55 [some (.ref p0), some (.ref p1), some (.ref p2), none] [] h11 (jQ K L R g n tm [] (jVi 0 1)) := by
    iterate 2 refine mj_T.pl rfl rfl rfl rfl ?_
    exact t74_16 (-1) ⟨by decide, by decide⟩
  refine jT.if0 rfl rz14 (fun c42 => ?_) (fun c42 => ?_)
  · have c42 := of_decide_eq_true c42
    exact t55_19 
  · have c42 := of_decide_eq_false c42
    refine mj_T.pl rfl rfl rfl rfl ?_
    refine jT.getR 11 113 13 ty oh11 rfl kp0 (by decide) rfl rfl rfl (fun k20 => ?_)
    refine jT.getI 13 6 oh11 rfl k20 (by decide) rfl rfl rfl (fun z21 (az21 : (-1) ≤ z21) (bz21 : z21 ≤ 30) fz21 => ?_)
    have rz21 : -2147483648 ≤ z21 ∧ z21 ≤ 2147483647 := ⟨by omega, by omega⟩
    refine jT.if0 rfl rz21 (fun c52 => ?_) (fun c52 => ?_)
    · have c52 := of_decide_eq_true c52
      refine mj_T.pl rfl rfl rfl rfl ?_
      refine jT.getR 11 113 13 ty oh11 rfl kp0 (by decide) rfl rfl rfl (fun k22 => ?_)
      refine jT.getK 13 6 oh11 rfl k22 (by decide) rfl rfl rfl fz14.symm ?_
      refine mj_T.pl rfl rfl rfl rfl ?_
      refine jT.getR 11 113 13 ty oh11 rfl kp0 (by decide) rfl rfl rfl (fun k23 => ?_)
      refine jT.getK 13 6 oh11 rfl k23 (by decide) rfl rfl rfl fz21.symm ?_
      refine jT.iadd rfl (fun z24 rz24 ez24 => ?_)
      replace ez24 := ez24 ⟨by omega, by omega⟩
      exact t74_16 z24 rz24
    · have c52 := of_decide_eq_false c52
      exact t55_19 
-- PolyRegisters$Desk.eliminate(LPolyRegisters$Poly;LPolyRegisters$Poly;I)V
theorem jc_17 {D n : Nat} {tm : Int} {h g : mj_H} {K L : Nat → Nat} {R : Nat → Nat → Nat} {p0 : Nat} {p1 : Nat} {p2 : Nat} {p3 : Int} (ty : jTY K L R) (hg : g.length ≤ n) (o : jO K L R g n tm h) (kp0 : K p0 = 11) (kp1 : K p1 = 13) (kp2 : K p2 = 13) (rp3 : -2147483648 ≤ p3 ∧ p3 ≤ 2147483647) : mj_Ok (D + 3) 17 [.ref p0, .ref p1, .ref p2, .int (jn p3)] h (jQ K L R g n tm [] jV0) := by
  refine mj_Ok.of (M := mj_m17) (loc := [some (.ref p0), some (.ref p1), some (.ref p2), some (.int (jn p3)), none, none, none, none]) rfl rfl rfl ?_
  iterate 2 refine mj_T.pl rfl rfl rfl rfl ?_
  refine jT.getI 13 6 o rfl kp2 (by decide) rfl rfl rfl (fun z1 (az1 : (-1) ≤ z1) (bz1 : z1 ≤ 30) fz1 => ?_)
  have rz1 : -2147483648 ≤ z1 ∧ z1 ≤ 2147483647 := ⟨by omega, by omega⟩
  refine mj_T.pl rfl rfl rfl rfl ?_
  refine jT.iadd rfl (fun z2 rz2 ez2 => ?_)
  clear ez2
  refine jT.callp rfl rfl (Nat.le_of_ble_eq_true rfl) (Nat.le_of_ble_eq_true rfl) (jrv_of o kp1 (by decide) rfl (by decide) rfl _) rfl (mj_Ok.up (Nat.add_le_add_left (by decide) D) (jc_36 (D := D) ty hg o kp1 rz2)) rfl rfl (fun v3 qv3 => ?_)
  obtain ⟨a4, ka4, rfl⟩ := qv3
  refine mj_T.eq (pc2 := 10) (st2 := [.ref a4]) ?_ rfl rfl rfl rfl
  refine mj_T.pl (loc' := [some (.ref p0), some (.ref p1), some (.ref p2), some (.int (jn p3)), some (.ref a4), none, none, none]) rfl rfl rfl rfl ?_
  refine mj_T.pl rfl rfl rfl rfl ?_
  refine jT.callp rfl rfl (Nat.le_of_ble_eq_true rfl) (Nat.le_of_ble_eq_true rfl) (jrv_of o kp2 (by decide) rfl (by decide) rfl _) rfl (mj_Ok.up (Nat.add_le_add_left (by decide) D) (jc_37 (D := D) ty hg o kp2)) rfl rfl (fun v5 qv5 => ?_)
  obtain ⟨a6, ka6, rfl⟩ := qv5
  refine mj_T.eq (pc2 := 16) (st2 := [.ref a6]) ?_ rfl rfl rfl rfl
  refine mj_T.pl (loc' := [some (.ref p0), some (.ref p1), some (.ref p2), some (.int (jn p3)), some (.ref a4), some (.ref a6), none, none]) rfl rfl rfl rfl ?_
  refine mj_T.pl rfl rfl rfl rfl ?_
  refine mj_T.pl (loc' := [some (.ref p0), some (.ref p1), some (.ref p2), some (.int (jn p3)), some (.ref a4), some (.ref a6), some (.int (jn 0)), none]) rfl rfl rfl rfl ?_
  have t21_10 : ∀ (k11 : Nat) (x7 : Int) (w8 : Option Value) (h9 : mj_H), (-2147483648 ≤ x7 ∧ x7 ≤ 2147483647) → (jO K L R g n tm h9) → (0 ≤ x7) → (2147483647 - x7 : Int).toNat = k11 → mj_T (D + 2) mj_m17 21 [some (.ref p0), some (.ref p1), some (.ref p2), some (.int (jn p3)), some (.ref a4), some (.ref a6), some (.int (jn x7)), w8] [] h9 (jQ K L R g n tm [] jV0) := by
    refine jInd (fun k11 ih12 => ?_)
    intro x7 w8 h9 rx7 oh9 ix7 hm13
    refine mj_T.pl rfl rfl rfl rfl ?_
    refine mj_T.pl rfl rfl rfl rfl ?_
    refine jT.getI 13 6 oh9 rfl kp2 (by decide) rfl rfl rfl (fun z14 (az14 : (-1) ≤ z14) (bz14 : z14 ≤ 30) fz14 => ?_)
    have rz14 : -2147483648 ≤ z14 ∧ z14 ≤ 2147483647 := ⟨by omega, by omega⟩
    refine mj_T.pl rfl rfl rfl rfl ?_
    refine jT.iadd rfl (fun z15 rz15 ez15 => ?_)
    clear ez15
    refine jT.icmp rfl rx7 rz15 (fun c29 => ?_) (fun c29 => ?_)
    · have c29 := of_decide_eq_true c29
      refine mj_T.pl rfl rfl rfl rfl ?_
      refine jT.lc 0 rfl rfl ?_
      refine jT.call rfl rfl (Nat.le_of_ble_eq_true rfl) (Nat.le_of_ble_eq_true rfl) (jrv_of oh9 ka4 (by decide) rfl (by decide) rfl _) rfl (mj_Ok.up (Nat.add_le_add_left (by decide) D) (jc_86 (D := D) ty hg oh9 ka4 ⟨by decide, by decide⟩)) rfl rfl (fun v16 h17 qv16 oh17 => ?_)
      obtain rfl : v16 = none := qv16
      refine mj_T.eq (pc2 := 107) (st2 := []) ?_ rfl rfl rfl rfl
      exact jT.ret oh17 rfl rfl rfl rfl
    · have c29 := of_decide_eq_false c29
      iterate 2 refine mj_T.pl rfl rfl rfl rfl ?_
      refine jT.callp rfl rfl (Nat.le_of_ble_eq_true rfl) (Nat.le_of_ble_eq_true rfl) (jrv_of oh9 kp1 (by decide) rfl (by decide) rfl _) rfl (mj_Ok.up (Nat.add_le_add_left (by decide) D) (jc_36 (D := D) ty hg oh9 kp1 rx7)) rfl rfl (fun v18 qv18 => ?_)
      obtain ⟨a19, ka19, rfl⟩ := qv18
      refine mj_T.eq (pc2 := 38) (st2 := [.ref a19]) ?_ rfl rfl rfl rfl
      refine mj_T.pl (loc' := [some (.ref p0), some (.ref p1), some (.ref p2), some (.int (jn p3)), some (.ref a4), some (.ref a6), some (.int (jn x7)), some (.ref a19)]) rfl rfl rfl rfl ?_
      refine mj_T.pl rfl rfl rfl rfl ?_
      refine jT.getR 11 118 18 ty oh9 rfl kp0 (by decide) rfl rfl rfl (fun k20 => ?_)
      iterate 2 refine mj_T.pl rfl rfl rfl rfl ?_
      refine jT.call rfl rfl (Nat.le_of_ble_eq_true rfl) (Nat.le_of_ble_eq_true rfl) (jrv_of oh9 k20 (by decide) rfl (by decide) rfl _) rfl (mj_Ok.up (Nat.add_le_add_left (by decide) D) (jc_95 (D := D) ty hg oh9 k20 ka19 ka6)) rfl rfl (fun v21 h22 qv21 oh22 => ?_)
      obtain rfl : v21 = none := qv21
      refine mj_T.eq (pc2 := 51) (st2 := []) ?_ rfl rfl rfl rfl
      iterate 2 refine mj_T.pl rfl rfl rfl rfl ?_
      refine jT.icmp rfl rx7 rp3 (fun c54 => ?_) (fun c54 => ?_)
      · have c54 := of_decide_eq_true c54
        iterate 2 refine mj_T.pl rfl rfl rfl rfl ?_
        refine jT.getR 11 118 18 ty oh22 rfl kp0 (by decide) rfl rfl rfl (fun k23 => ?_)
        refine jT.call rfl rfl (Nat.le_of_ble_eq_true rfl) (Nat.le_of_ble_eq_true rfl) (jrv_of oh22 ka19 (by decide) rfl (by decide) rfl _) rfl (mj_Ok.up (Nat.add_le_add_left (by decide) D) (jc_87 (D := D) ty hg oh22 ka19 k23)) rfl rfl (fun v24 h25 qv24 oh25 => ?_)
        obtain rfl : v24 = none := qv24
        refine mj_T.eq (pc2 := 95) (st2 := []) ?_ rfl rfl rfl rfl
        refine jT.iinc rfl rfl (fun z26 rz26 ez26 => ?_)
        replace ez26 := ez26 ⟨by omega, by omega⟩
        refine mj_T.eq (loc2 := [some (.ref p0), some (.ref p1), some (.ref p2), some (.int (jn p3)), some (.ref a4), some (.ref a6), some (.int (jn z26)), some (.ref a19)]) ?_ rfl rfl rfl rfl
        refine mj_T.pl rfl rfl rfl rfl ?_
        exact ih12 ((2147483647 - z26 : Int).toNat) (by omega) z26 (some (.ref a19)) h25 rz26 oh25 (by omega) rfl
      · have c54 := of_decide_eq_false c54
        refine mj_T.pl rfl rfl rfl rfl ?_
        refine jT.getR 11 118 18 ty oh22 rfl kp0 (by decide) rfl rfl rfl (fun k27 => ?_)
        iterate 4 refine mj_T.pl rfl rfl rfl rfl ?_
        refine jT.isub rfl (fun z28 rz28 ez28 => ?_)
        clear ez28
        refine jT.callp rfl rfl (Nat.le_of_ble_eq_true rfl) (Nat.le_of_ble_eq_true rfl) (jrv_of oh22 kp2 (by decide) rfl (by decide) rfl _) rfl (mj_Ok.up (Nat.add_le_add_left (by decide) D) (jc_36 (D := D) ty hg oh22 kp2 rz28)) rfl rfl (fun v29 qv29 => ?_)
        obtain ⟨a30, ka30, rfl⟩ := qv29
        refine mj_T.eq (pc2 := 71) (st2 := [.ref a30, .ref a4, .ref (R p0 5)]) ?_ rfl rfl rfl rfl
        refine jT.call rfl rfl (Nat.le_of_ble_eq_true rfl) (Nat.le_of_ble_eq_true rfl) (jrv_of oh22 k27 (by decide) rfl (by decide) rfl _) rfl (mj_Ok.up (Nat.add_le_add_left (by decide) D) (jc_95 (D := D) ty hg oh22 k27 ka4 ka30)) rfl rfl (fun v31 h32 qv31 oh32 => ?_)
        obtain rfl : v31 = none := qv31
        refine mj_T.eq (pc2 := 74) (st2 := []) ?_ rfl rfl rfl rfl
        refine mj_T.pl rfl rfl rfl rfl ?_
        refine jT.getR 11 118 18 ty oh32 rfl kp0 (by decide) rfl rfl rfl (fun k33 => ?_)
        refine mj_T.pl rfl rfl rfl rfl ?_
        refine jT.getR 11 118 18 ty oh32 rfl kp0 (by decide) rfl rfl rfl (fun k34 => ?_)
        refine mj_T.pl rfl rfl rfl rfl ?_
        refine jT.call rfl rfl (Nat.le_of_ble_eq_true rfl) (Nat.le_of_ble_eq_true rfl) (jrv_of oh32 k33 (by decide) rfl (by decide) rfl _) rfl (mj_Ok.up (Nat.add_le_add_left (by decide) D) (jc_91 (D := D) ty hg oh32 k33 k34 ⟨by decide, by decide⟩)) rfl rfl (fun v35 h36 qv35 oh36 => ?_)
        obtain rfl : v35 = none := qv35
        refine mj_T.eq (pc2 := 86) (st2 := []) ?_ rfl rfl rfl rfl
        iterate 2 refine mj_T.pl rfl rfl rfl rfl ?_
        refine jT.getR 11 118 18 ty oh36 rfl kp0 (by decide) rfl rfl rfl (fun k37 => ?_)
        refine jT.call rfl rfl (Nat.le_of_ble_eq_true rfl) (Nat.le_of_ble_eq_true rfl) (jrv_of oh36 ka19 (by decide) rfl (by decide) rfl _) rfl (mj_Ok.up (Nat.add_le_add_left (by decide) D) (jc_87 (D := D) ty hg oh36 ka19 k37)) rfl rfl (fun v38 h39 qv38 oh39 => ?_)
        obtain rfl : v38 = none := qv38
        refine mj_T.eq (pc2 := 95) (st2 := []) ?_ rfl rfl rfl rfl
        refine jT.iinc rfl rfl (fun z40 rz40 ez40 => ?_)
        replace ez40 := ez40 ⟨by omega, by omega⟩
        refine mj_T.eq (loc2 := [some (.ref p0), some (.ref p1), some (.ref p2), some (.int (jn p3)), some (.ref a4), some (.ref a6), some (.int (jn z40)), some (.ref a19)]) ?_ rfl rfl rfl rfl
        refine mj_T.pl rfl rfl rfl rfl ?_
        exact ih12 ((2147483647 - z40 : Int).toNat) (by omega) z40 (some (.ref a19)) h39 rz40 oh39 (by omega) rfl
  exact t21_10 _ 0 none h ⟨by decide, by decide⟩ o (by omega) rfl
-- PolyRegisters$Desk.divideRows([J[J[J[J)Z
theorem jc_16 {D n : Nat} {tm : Int} {h g : mj_H} {K L : Nat → Nat} {R : Nat → Nat → Nat} {p0 : Nat} {p1 : Nat} {p2 : Nat} {p3 : Nat} {p4 : Nat} (ty : jTY K L R) (hg : g.length ≤ n) (o : jO K L R g n tm h) (kp0 : K p0 = 11) (kp1 : K p1 = 2) (kp2 : K p2 = 2) (kp3 : K p3 = 2) (kp4 : K p4 = 2) : mj_Ok (D + 4) 16 [.ref p0, .ref p1, .ref p2, .ref p3, .ref p4] h (jQ K L R g n tm [] (jVi 0 1)) := by
  refine mj_Ok.of (M := mj_m16) (loc := [some (.ref p0), some (.ref p1), some (.ref p2), some (.ref p3), some (.ref p4), none, none]) rfl rfl rfl ?_
  refine mj_T.pl rfl rfl rfl rfl ?_
  refine jT.getR 11 113 13 ty o rfl kp0 (by decide) rfl rfl rfl (fun k1 => ?_)
  refine mj_T.pl rfl rfl rfl rfl ?_
  refine jT.lc 1 rfl rfl ?_
  refine jT.call rfl rfl (Nat.le_of_ble_eq_true rfl) (Nat.le_of_ble_eq_true rfl) (jrv_of o k1 (by decide) rfl (by decide) rfl _) rfl (mj_Ok.up (Nat.add_le_add_left (by decide) D) (jc_40 (D := D) ty hg o k1 kp1 ⟨by decide, by decide⟩)) rfl rfl (fun v2 h3 qv2 oh3 => ?_)
  obtain rfl : v2 = none := qv2
  refine mj_T.eq (pc2 := 9) (st2 := []) ?_ rfl rfl rfl rfl
  refine mj_T.pl rfl rfl rfl rfl ?_
  refine jT.getR 11 113 13 ty oh3 rfl kp0 (by decide) rfl rfl rfl (fun k4 => ?_)
  refine mj_T.pl rfl rfl rfl rfl ?_
  refine jT.lc 1 rfl rfl ?_
  refine jT.call rfl rfl (Nat.le_of_ble_eq_true rfl) (Nat.le_of_ble_eq_true rfl) (jrv_of oh3 k4 (by decide) rfl (by decide) rfl _) rfl (mj_Ok.up (Nat.add_le_add_left (by decide) D) (jc_40 (D := D) ty hg oh3 k4 kp2 ⟨by decide, by decide⟩)) rfl rfl (fun v5 h6 qv5 oh6 => ?_)
  obtain rfl : v5 = none := qv5
  refine mj_T.eq (pc2 := 18) (st2 := []) ?_ rfl rfl rfl rfl
  refine mj_T.pl rfl rfl rfl rfl ?_
  refine jT.getR 11 113 13 ty oh6 rfl kp0 (by decide) rfl rfl rfl (fun k7 => ?_)
  refine jT.call rfl rfl (Nat.le_of_ble_eq_true rfl) (Nat.le_of_ble_eq_true rfl) (jrv_of oh6 k7 (by decide) rfl (by decide) rfl _) rfl (mj_Ok.up (Nat.add_le_add_left (by decide) D) (jc_39 (D := D) ty hg oh6 k7)) rfl rfl (fun v8 h9 qv8 oh9 => ?_)
  obtain rfl : v8 = none := qv8
  refine mj_T.eq (pc2 := 25) (st2 := []) ?_ rfl rfl rfl rfl
  refine mj_T.pl rfl rfl rfl rfl ?_
  refine jT.getR 11 113 13 ty oh9 rfl kp0 (by decide) rfl rfl rfl (fun k10 => ?_)
  refine jT.getI 13 6 oh9 rfl k10 (by decide) rfl rfl rfl (fun z11 (az11 : (-1) ≤ z11) (bz11 : z11 ≤ 30) fz11 => ?_)
  have rz11 : -2147483648 ≤ z11 ∧ z11 ≤ 2147483647 := ⟨by omega, by omega⟩
  refine mj_T.pl rfl rfl rfl rfl ?_
  refine jT.getR 11 113 13 ty oh9 rfl kp0 (by decide) rfl rfl rfl (fun k12 => ?_)
  refine jT.getI 13 6 oh9 rfl k12 (by decide) rfl rfl rfl (fun z13 (az13 : (-1) ≤ z13) (bz13 : z13 ≤ 30) fz13 => ?_)
  have rz13 : -2147483648 ≤ z13 ∧ z13 ≤ 2147483647 := ⟨by omega, by omega⟩
  refine jT.isub rfl (fun z14 rz14 ez14 => ?_)
  replace ez14 := ez14 ⟨by omega, by omega⟩
  refine mj_T.pl (loc' := [some (.ref p0), some (.ref p1), some (.ref p2), some (.ref p3), some (.ref p4), some (.int (jn z14)), none]) rfl rfl rfl rfl ?_
  have t42_18 : ∀ (k19 : Nat) (x15 : Int) (w16 : Option Value) (h17 : mj_H), (-2147483648 ≤ x15 ∧ x15 ≤ 2147483647) → (jO K L R g n tm h17) → (x15 ≤ z14) → (x15 + 1 : Int).toNat = k19 → mj_T (D + 3) mj_m16 42 [some (.ref p0), some (.ref p1), some (.ref p2), some (.ref p3), some (.ref p4), some (.int (jn x15)), w16] [] h17 (jQ K L R g n tm [] (jVi 0 1)) := by
    refine jInd (fun k19 ih20 => ?_)
    intro x15 w16 h17 rx15 oh17 ix15 hm21
    refine mj_T.pl rfl rfl rfl rfl ?_
    refine jT.if0 rfl rx15 (fun c44 => ?_) (fun c44 => ?_)
    · have c44 := of_decide_eq_true c44
      refine mj_T.pl rfl rfl rfl rfl ?_
      refine jT.getR 11 113 13 ty oh17 rfl kp0 (by decide) rfl rfl rfl (fun k22 => ?_)
      refine mj_T.pl rfl rfl rfl rfl ?_
      refine jT.call rfl rfl (Nat.le_of_ble_eq_true rfl) (Nat.le_of_ble_eq_true rfl) (jrv_of oh17 k22 (by decide) rfl (by decide) rfl _) rfl (mj_Ok.up (Nat.add_le_add_left (by decide) D) (jc_44 (D := D) ty hg oh17 k22 kp3)) rfl rfl (fun v23 h24 qv23 oh24 => ?_)
      obtain ⟨z25, az25, bz25, rfl⟩ := qv23
      have rz25 : -2147483648 ≤ z25 ∧ z25 ≤ 2147483647 := ⟨by omega, by omega⟩
      refine mj_T.eq (pc2 := 167) (st2 := [.int (jn z25)]) ?_ rfl rfl rfl rfl
      refine jT.if0 rfl rz25 (fun c167 => ?_) (fun c167 => ?_)
      · have c167 := of_decide_eq_true c167
        refine mj_T.pl rfl rfl rfl rfl ?_
        exact jT.retb oh24 rfl rfl (by omega) (by omega)
      · have c167 := of_decide_eq_false c167
        refine mj_T.pl rfl rfl rfl rfl ?_
        refine jT.getR 11 113 13 ty oh24 rfl kp0 (by decide) rfl rfl rfl (fun k26 => ?_)
        refine mj_T.pl rfl rfl rfl rfl ?_
        refine jT.call rfl rfl (Nat.le_of_ble_eq_true rfl) (Nat.le_of_ble_eq_true rfl) (jrv_of oh24 k26 (by decide) rfl (by decide) rfl _) rfl (mj_Ok.up (Nat.add_le_add_left (by decide) D) (jc_44 (D := D) ty hg oh24 k26 kp4)) rfl rfl (fun v27 h28 qv27 oh28 => ?_)
        obtain ⟨z29, az29, bz29, rfl⟩ := qv27
        have rz29 : -2147483648 ≤ z29 ∧ z29 ≤ 2147483647 := ⟨by omega, by omega⟩
        refine mj_T.eq (pc2 := 179) (st2 := [.int (jn z29)]) ?_ rfl rfl rfl rfl
        refine jT.if0 rfl rz29 (fun c179 => ?_) (fun c179 => ?_)
        · have c179 := of_decide_eq_true c179
          refine mj_T.pl rfl rfl rfl rfl ?_
          exact jT.retb oh28 rfl rfl (by omega) (by omega)
        · have c179 := of_decide_eq_false c179
          iterate 2 refine mj_T.pl rfl rfl rfl rfl ?_
          exact jT.retb oh28 rfl rfl (by omega) (by omega)
    · have c44 := of_decide_eq_false c44
      iterate 2 refine mj_T.pl rfl rfl rfl rfl ?_
      refine jT.iadd rfl (fun z30 rz30 ez30 => ?_)
      replace ez30 := ez30 ⟨by omega, by omega⟩
      refine mj_T.pl (loc' := [some (.ref p0), some (.ref p1), some (.ref p2), some (.ref p3), some (.ref p4), some (.int (jn x15)), some (.int (jn z30))]) rfl rfl rfl rfl ?_
      have t53_33 : ∀ (k34 : Nat) (x31 : Int) (h32 : mj_H), (-2147483648 ≤ x31 ∧ x31 ≤ 2147483647) → (jO K L R g n tm h32) → (z30 ≤ x31) → (2147483647 - x31 : Int).toNat = k34 → mj_T (D + 3) mj_m16 53 [some (.ref p0), some (.ref p1), some (.ref p2), some (.ref p3), some (.ref p4), some (.int (jn x15)), some (.int (jn x31))] [] h32 (jQ K L R g n tm [] (jVi 0 1)) := by
        refine jInd (fun k34 ih35 => ?_)
        intro x31 h32 rx31 oh32 ix31 hm36
        refine mj_T.pl rfl rfl rfl rfl ?_
        refine mj_T.pl rfl rfl rfl rfl ?_
        refine jT.getR 11 113 13 ty oh32 rfl kp0 (by decide) rfl rfl rfl (fun k37 => ?_)
        refine jT.callp rfl rfl (Nat.le_of_ble_eq_true rfl) (Nat.le_of_ble_eq_true rfl) (jrv_of oh32 k37 (by decide) rfl (by decide) rfl _) rfl (mj_Ok.up (Nat.add_le_add_left (by decide) D) (jc_38 (D := D) ty hg oh32 k37)) rfl rfl (fun v38 qv38 => ?_)
        obtain ⟨z39, az39, bz39, rfl⟩ := qv38
        have rz39 : -2147483648 ≤ z39 ∧ z39 ≤ 2147483647 := ⟨by omega, by omega⟩
        refine mj_T.eq (pc2 := 62) (st2 := [.int (jn z39), .int (jn x31)]) ?_ rfl rfl rfl rfl
        refine jT.icmp rfl rx31 rz39 (fun c62 => ?_) (fun c62 => ?_)
        · have c62 := of_decide_eq_true c62
          refine mj_T.pl rfl rfl rfl rfl ?_
          refine jT.getR 11 113 13 ty oh32 rfl kp0 (by decide) rfl rfl rfl (fun k40 => ?_)
          refine mj_T.pl rfl rfl rfl rfl ?_
          refine jT.callp rfl rfl (Nat.le_of_ble_eq_true rfl) (Nat.le_of_ble_eq_true rfl) (jrv_of oh32 k40 (by decide) rfl (by decide) rfl _) rfl (mj_Ok.up (Nat.add_le_add_left (by decide) D) (jc_36 (D := D) ty hg oh32 k40 rx15)) rfl rfl (fun v41 qv41 => ?_)
          obtain ⟨a42, ka42, rfl⟩ := qv41
          refine mj_T.eq (pc2 := 119) (st2 := [.ref a42]) ?_ rfl rfl rfl rfl
          refine mj_T.pl rfl rfl rfl rfl ?_
          refine jT.getR 11 113 13 ty oh32 rfl kp0 (by decide) rfl rfl rfl (fun k43 => ?_)
          refine mj_T.pl rfl rfl rfl rfl ?_
          refine jT.getR 11 113 13 ty oh32 rfl kp0 (by decide) rfl rfl rfl (fun k44 => ?_)
          refine jT.getI 13 6 oh32 rfl k44 (by decide) rfl rfl rfl (fun z45 (az45 : (-1) ≤ z45) (bz45 : z45 ≤ 30) fz45 => ?_)
          have rz45 : -2147483648 ≤ z45 ∧ z45 ≤ 2147483647 := ⟨by omega, by omega⟩
          refine mj_T.pl rfl rfl rfl rfl ?_
          refine jT.iadd rfl (fun z46 rz46 ez46 => ?_)
          replace ez46 := ez46 ⟨by omega, by omega⟩
          refine jT.callp rfl rfl (Nat.le_of_ble_eq_true rfl) (Nat.le_of_ble_eq_true rfl) (jrv_of oh32 k43 (by decide) rfl (by decide) rfl _) rfl (mj_Ok.up (Nat.add_le_add_left (by decide) D) (jc_36 (D := D) ty hg oh32 k43 rz46)) rfl rfl (fun v47 qv47 => ?_)
          obtain ⟨a48, ka48, rfl⟩ := qv47
          refine mj_T.eq (pc2 := 136) (st2 := [.ref a48, .ref a42]) ?_ rfl rfl rfl rfl
          refine jT.call rfl rfl (Nat.le_of_ble_eq_true rfl) (Nat.le_of_ble_eq_true rfl) (jrv_of oh32 ka42 (by decide) rfl (by decide) rfl _) rfl (mj_Ok.up (Nat.add_le_add_left (by decide) D) (jc_87 (D := D) ty hg oh32 ka42 ka48)) rfl rfl (fun v49 h50 qv49 oh50 => ?_)
          obtain rfl : v49 = none := qv49
          refine mj_T.eq (pc2 := 139) (st2 := []) ?_ rfl rfl rfl rfl
          iterate 2 refine mj_T.pl rfl rfl rfl rfl ?_
          refine jT.getR 11 113 13 ty oh50 rfl kp0 (by decide) rfl rfl rfl (fun k51 => ?_)
          refine mj_T.pl rfl rfl rfl rfl ?_
          refine jT.getR 11 113 13 ty oh50 rfl kp0 (by decide) rfl rfl rfl (fun k52 => ?_)
          refine mj_T.pl rfl rfl rfl rfl ?_
          refine jT.call rfl rfl (Nat.le_of_ble_eq_true rfl) (Nat.le_of_ble_eq_true rfl) (jrv_of oh50 kp0 (by decide) rfl (by decide) rfl _) rfl (mj_Ok.up (Nat.add_le_add_left (by decide) D) (jc_17 (D := D) ty hg oh50 kp0 k51 k52 rx15)) rfl rfl (fun v53 h54 qv53 oh54 => ?_)
          obtain rfl : v53 = none := qv53
          refine mj_T.eq (pc2 := 153) (st2 := []) ?_ rfl rfl rfl rfl
          refine jT.iinc rfl rfl (fun z55 rz55 ez55 => ?_)
          replace ez55 := ez55 ⟨by omega, by omega⟩
          refine mj_T.eq (loc2 := [some (.ref p0), some (.ref p1), some (.ref p2), some (.ref p3), some (.ref p4), some (.int (jn z55)), some (.int (jn x31))]) ?_ rfl rfl rfl rfl
          refine mj_T.pl rfl rfl rfl rfl ?_
          exact ih20 ((z55 + 1 : Int).toNat) (by omega) z55 (some (.int (jn x31))) h54 rz55 oh54 (by omega) rfl
        · have c62 := of_decide_eq_false c62
          refine mj_T.pl rfl rfl rfl rfl ?_
          refine jT.getR 11 118 18 ty oh32 rfl kp0 (by decide) rfl rfl rfl (fun k56 => ?_)
          refine mj_T.pl rfl rfl rfl rfl ?_
          refine jT.getR 11 113 13 ty oh32 rfl kp0 (by decide) rfl rfl rfl (fun k57 => ?_)
          refine mj_T.pl rfl rfl rfl rfl ?_
          refine jT.callp rfl rfl (Nat.le_of_ble_eq_true rfl) (Nat.le_of_ble_eq_true rfl) (jrv_of oh32 k57 (by decide) rfl (by decide) rfl _) rfl (mj_Ok.up (Nat.add_le_add_left (by decide) D) (jc_36 (D := D) ty hg oh32 k57 rx31)) rfl rfl (fun v58 qv58 => ?_)
          obtain ⟨a59, ka59, rfl⟩ := qv58
          refine mj_T.eq (pc2 := 78) (st2 := [.ref a59, .ref (R p0 4)]) ?_ rfl rfl rfl rfl
          refine mj_T.pl rfl rfl rfl rfl ?_
          refine jT.getR 11 113 13 ty oh32 rfl kp0 (by decide) rfl rfl rfl (fun k60 => ?_)
          refine jT.callp rfl rfl (Nat.le_of_ble_eq_true rfl) (Nat.le_of_ble_eq_true rfl) (jrv_of oh32 k60 (by decide) rfl (by decide) rfl _) rfl (mj_Ok.up (Nat.add_le_add_left (by decide) D) (jc_37 (D := D) ty hg oh32 k60)) rfl rfl (fun v61 qv61 => ?_)
          obtain ⟨a62, ka62, rfl⟩ := qv61
          refine mj_T.eq (pc2 := 85) (st2 := [.ref a62, .ref a59, .ref (R p0 4)]) ?_ rfl rfl rfl rfl
          refine jT.call rfl rfl (Nat.le_of_ble_eq_true rfl) (Nat.le_of_ble_eq_true rfl) (jrv_of oh32 k56 (by decide) rfl (by decide) rfl _) rfl (mj_Ok.up (Nat.add_le_add_left (by decide) D) (jc_95 (D := D) ty hg oh32 k56 ka59 ka62)) rfl rfl (fun v63 h64 qv63 oh64 => ?_)
          obtain rfl : v63 = none := qv63
          refine mj_T.eq (pc2 := 88) (st2 := []) ?_ rfl rfl rfl rfl
          refine mj_T.pl rfl rfl rfl rfl ?_
          refine jT.getR 11 113 13 ty oh64 rfl kp0 (by decide) rfl rfl rfl (fun k65 => ?_)
          refine mj_T.pl rfl rfl rfl rfl ?_
          refine jT.callp rfl rfl (Nat.le_of_ble_eq_true rfl) (Nat.le_of_ble_eq_true rfl) (jrv_of oh64 k65 (by decide) rfl (by decide) rfl _) rfl (mj_Ok.up (Nat.add_le_add_left (by decide) D) (jc_36 (D := D) ty hg oh64 k65 rx31)) rfl rfl (fun v66 qv66 => ?_)
          obtain ⟨a67, ka67, rfl⟩ := qv66
          refine mj_T.eq (pc2 := 97) (st2 := [.ref a67]) ?_ rfl rfl rfl rfl
          refine mj_T.pl rfl rfl rfl rfl ?_
          refine jT.getR 11 118 18 ty oh64 rfl kp0 (by decide) rfl rfl rfl (fun k68 => ?_)
          refine jT.call rfl rfl (Nat.le_of_ble_eq_true rfl) (Nat.le_of_ble_eq_true rfl) (jrv_of oh64 ka67 (by decide) rfl (by decide) rfl _) rfl (mj_Ok.up (Nat.add_le_add_left (by decide) D) (jc_87 (D := D) ty hg oh64 ka67 k68)) rfl rfl (fun v69 h70 qv69 oh70 => ?_)
          obtain rfl : v69 = none := qv69
          refine mj_T.eq (pc2 := 104) (st2 := []) ?_ rfl rfl rfl rfl
          refine jT.iinc rfl rfl (fun z71 rz71 ez71 => ?_)
          replace ez71 := ez71 ⟨by omega, by omega⟩
          refine mj_T.eq (loc2 := [some (.ref p0), some (.ref p1), some (.ref p2), some (.ref p3), some (.ref p4), some (.int (jn x15)), some (.int (jn z71))]) ?_ rfl rfl rfl rfl
          refine mj_T.pl rfl rfl rfl rfl ?_
          exact ih35 ((2147483647 - z71 : Int).toNat) (by omega) z71 h70 rz71 oh70 (by omega) rfl
      exact t53_33 _ z30 h17 rz30 oh17 (by omega) rfl
  exact t42_18 _ z14 none h9 rz14 oh9 (by omega) rfl
