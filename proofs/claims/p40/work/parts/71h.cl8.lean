/-! The class by kinds: its methods. -/
-- PolyRegisters$Desk.divideExactly(LPolyRegisters$Poly;LPolyRegisters$Poly;)Z
theorem jc_19 {D n : Nat} {tm : Int} {h g : mj_H} {K L : Nat → Nat} {R : Nat → Nat → Nat} {p0 : Nat} {p1 : Nat} {p2 : Nat} (ty : jTY K L R) (hg : g.length ≤ n) (o : jO K L R g n tm h) (kp0 : K p0 = 11) (kp1 : K p1 = 13) (kp2 : K p2 = 13) : mj_Ok (D + 3) 19 [.ref p0, .ref p1, .ref p2] h (jQ K L R g n tm [] (jVi 0 1)) := by
  refine mj_Ok.of (M := mj_m19) (loc := [some (.ref p0), some (.ref p1), some (.ref p2), none, none, none]) rfl rfl rfl ?_
  refine mj_T.pl rfl rfl rfl rfl ?_
  refine jT.call rfl rfl (Nat.le_of_ble_eq_true rfl) (Nat.le_of_ble_eq_true rfl) (jrv_of o kp2 (by decide) rfl (by decide) rfl _) rfl (mj_Ok.up (Nat.add_le_add_left (by decide) D) (jc_39 (D := D) ty hg o kp2)) rfl rfl (fun v1 h2 qv1 oh2 => ?_)
  obtain rfl : v1 = none := qv1
  refine mj_T.eq (pc2 := 4) (st2 := []) ?_ rfl rfl rfl rfl
  refine mj_T.pl rfl rfl rfl rfl ?_
  refine jT.getR 11 112 12 ty oh2 rfl kp0 (by decide) rfl rfl rfl (fun k3 => ?_)
  refine mj_T.pl rfl rfl rfl rfl ?_
  refine jT.callp rfl rfl (Nat.le_of_ble_eq_true rfl) (Nat.le_of_ble_eq_true rfl) (jrv_of oh2 kp1 (by decide) rfl (by decide) rfl _) rfl (mj_Ok.up (Nat.add_le_add_left (by decide) D) (jc_37 (D := D) ty hg oh2 kp1)) rfl rfl (fun v4 qv4 => ?_)
  obtain ⟨a5, ka5, rfl⟩ := qv4
  refine mj_T.eq (pc2 := 12) (st2 := [.ref a5, .ref (R p0 7)]) ?_ rfl rfl rfl rfl
  refine jT.call rfl rfl (Nat.le_of_ble_eq_true rfl) (Nat.le_of_ble_eq_true rfl) (jrv_of oh2 k3 (by decide) rfl (by decide) rfl _) rfl (mj_Ok.up (Nat.add_le_add_left (by decide) D) (jc_30 (D := D) ty hg oh2 k3 ka5)) rfl rfl (fun v6 h7 qv6 oh7 => ?_)
  obtain rfl : v6 = none := qv6
  refine mj_T.eq (pc2 := 15) (st2 := []) ?_ rfl rfl rfl rfl
  refine mj_T.pl rfl rfl rfl rfl ?_
  refine jT.getR 11 113 13 ty oh7 rfl kp0 (by decide) rfl rfl rfl (fun k8 => ?_)
  refine jT.getI 13 6 oh7 rfl k8 (by decide) rfl rfl rfl (fun z9 (az9 : (-1) ≤ z9) (bz9 : z9 ≤ 30) fz9 => ?_)
  have rz9 : -2147483648 ≤ z9 ∧ z9 ≤ 2147483647 := ⟨by omega, by omega⟩
  refine mj_T.pl rfl rfl rfl rfl ?_
  refine jT.getI 13 6 oh7 rfl kp1 (by decide) rfl rfl rfl (fun z10 (az10 : (-1) ≤ z10) (bz10 : z10 ≤ 30) fz10 => ?_)
  have rz10 : -2147483648 ≤ z10 ∧ z10 ≤ 2147483647 := ⟨by omega, by omega⟩
  refine jT.isub rfl (fun z11 rz11 ez11 => ?_)
  replace ez11 := ez11 ⟨by omega, by omega⟩
  refine mj_T.pl (loc' := [some (.ref p0), some (.ref p1), some (.ref p2), some (.int (jn z11)), none, none]) rfl rfl rfl rfl ?_
  have t28_16 : ∀ (k17 : Nat) (x12 : Int) (w13 : Option Value) (w14 : Option Value) (h15 : mj_H), (-2147483648 ≤ x12 ∧ x12 ≤ 2147483647) → (jO K L R g n tm h15) → (x12 ≤ z11) → (x12 + 1 : Int).toNat = k17 → mj_T (D + 2) mj_m19 28 [some (.ref p0), some (.ref p1), some (.ref p2), some (.int (jn x12)), w13, w14] [] h15 (jQ K L R g n tm [] (jVi 0 1)) := by
    refine jInd (fun k17 ih18 => ?_)
    intro x12 w13 w14 h15 rx12 oh15 ix12 hm19
    refine mj_T.pl rfl rfl rfl rfl ?_
    refine jT.if0 rfl rx12 (fun c29 => ?_) (fun c29 => ?_)
    · have c29 := of_decide_eq_true c29
      refine mj_T.pl rfl rfl rfl rfl ?_
      refine jT.call rfl rfl (Nat.le_of_ble_eq_true rfl) (Nat.le_of_ble_eq_true rfl) (jrv_of oh15 kp2 (by decide) rfl (by decide) rfl _) rfl (mj_Ok.up (Nat.add_le_add_left (by decide) D) (jc_42 (D := D) ty hg oh15 kp2)) rfl rfl (fun v20 h21 qv20 oh21 => ?_)
      obtain rfl : v20 = none := qv20
      refine mj_T.eq (pc2 := 146) (st2 := []) ?_ rfl rfl rfl rfl
      refine mj_T.pl rfl rfl rfl rfl ?_
      refine jT.getR 11 113 13 ty oh21 rfl kp0 (by decide) rfl rfl rfl (fun k22 => ?_)
      refine jT.call rfl rfl (Nat.le_of_ble_eq_true rfl) (Nat.le_of_ble_eq_true rfl) (jrv_of oh21 k22 (by decide) rfl (by decide) rfl _) rfl (mj_Ok.up (Nat.add_le_add_left (by decide) D) (jc_42 (D := D) ty hg oh21 k22)) rfl rfl (fun v23 h24 qv23 oh24 => ?_)
      obtain rfl : v23 = none := qv23
      refine mj_T.eq (pc2 := 153) (st2 := []) ?_ rfl rfl rfl rfl
      refine mj_T.pl rfl rfl rfl rfl ?_
      refine jT.getR 11 113 13 ty oh24 rfl kp0 (by decide) rfl rfl rfl (fun k25 => ?_)
      refine jT.getI 13 6 oh24 rfl k25 (by decide) rfl rfl rfl (fun z26 (az26 : (-1) ≤ z26) (bz26 : z26 ≤ 30) fz26 => ?_)
      have rz26 : -2147483648 ≤ z26 ∧ z26 ≤ 2147483647 := ⟨by omega, by omega⟩
      refine jT.if0 rfl rz26 (fun c160 => ?_) (fun c160 => ?_)
      · have c160 := of_decide_eq_true c160
        refine mj_T.pl rfl rfl rfl rfl ?_
        exact jT.retb oh24 rfl rfl (by omega) (by omega)
      · have c160 := of_decide_eq_false c160
        iterate 2 refine mj_T.pl rfl rfl rfl rfl ?_
        exact jT.retb oh24 rfl rfl (by omega) (by omega)
    · have c29 := of_decide_eq_false c29
      iterate 2 refine mj_T.pl rfl rfl rfl rfl ?_
      refine jT.callp rfl rfl (Nat.le_of_ble_eq_true rfl) (Nat.le_of_ble_eq_true rfl) (jrv_of oh15 kp2 (by decide) rfl (by decide) rfl _) rfl (mj_Ok.up (Nat.add_le_add_left (by decide) D) (jc_36 (D := D) ty hg oh15 kp2 rx12)) rfl rfl (fun v27 qv27 => ?_)
      obtain ⟨a28, ka28, rfl⟩ := qv27
      refine mj_T.eq (pc2 := 37) (st2 := [.ref a28]) ?_ rfl rfl rfl rfl
      refine mj_T.pl (loc' := [some (.ref p0), some (.ref p1), some (.ref p2), some (.int (jn x12)), some (.ref a28), w14]) rfl rfl rfl rfl ?_
      refine mj_T.pl rfl rfl rfl rfl ?_
      refine jT.getR 11 118 18 ty oh15 rfl kp0 (by decide) rfl rfl rfl (fun k29 => ?_)
      refine mj_T.pl rfl rfl rfl rfl ?_
      refine jT.getR 11 113 13 ty oh15 rfl kp0 (by decide) rfl rfl rfl (fun k30 => ?_)
      refine mj_T.pl rfl rfl rfl rfl ?_
      refine jT.getI 13 6 oh15 rfl kp1 (by decide) rfl rfl rfl (fun z31 (az31 : (-1) ≤ z31) (bz31 : z31 ≤ 30) fz31 => ?_)
      have rz31 : -2147483648 ≤ z31 ∧ z31 ≤ 2147483647 := ⟨by omega, by omega⟩
      refine mj_T.pl rfl rfl rfl rfl ?_
      refine jT.iadd rfl (fun z32 rz32 ez32 => ?_)
      replace ez32 := ez32 ⟨by omega, by omega⟩
      refine jT.callp rfl rfl (Nat.le_of_ble_eq_true rfl) (Nat.le_of_ble_eq_true rfl) (jrv_of oh15 k30 (by decide) rfl (by decide) rfl _) rfl (mj_Ok.up (Nat.add_le_add_left (by decide) D) (jc_36 (D := D) ty hg oh15 k30 rz32)) rfl rfl (fun v33 qv33 => ?_)
      obtain ⟨a34, ka34, rfl⟩ := qv33
      refine mj_T.eq (pc2 := 56) (st2 := [.ref a34, .ref (R p0 4)]) ?_ rfl rfl rfl rfl
      refine jT.call rfl rfl (Nat.le_of_ble_eq_true rfl) (Nat.le_of_ble_eq_true rfl) (jrv_of oh15 k29 (by decide) rfl (by decide) rfl _) rfl (mj_Ok.up (Nat.add_le_add_left (by decide) D) (jc_87 (D := D) ty hg oh15 k29 ka34)) rfl rfl (fun v35 h36 qv35 oh36 => ?_)
      obtain rfl : v35 = none := qv35
      refine mj_T.eq (pc2 := 59) (st2 := []) ?_ rfl rfl rfl rfl
      refine mj_T.pl rfl rfl rfl rfl ?_
      refine jT.getR 11 112 12 ty oh36 rfl kp0 (by decide) rfl rfl rfl (fun k37 => ?_)
      refine mj_T.pl rfl rfl rfl rfl ?_
      refine jT.getR 11 118 18 ty oh36 rfl kp0 (by decide) rfl rfl rfl (fun k38 => ?_)
      refine mj_T.pl rfl rfl rfl rfl ?_
      refine jT.call rfl rfl (Nat.le_of_ble_eq_true rfl) (Nat.le_of_ble_eq_true rfl) (jrv_of oh36 k37 (by decide) rfl (by decide) rfl _) rfl (mj_Ok.up (Nat.add_le_add_left (by decide) D) (jc_31 (D := D) ty hg oh36 k37 k38 ka28)) rfl rfl (fun v39 h40 qv39 oh40 => ?_)
      obtain rfl : v39 = none := qv39
      refine mj_T.eq (pc2 := 72) (st2 := []) ?_ rfl rfl rfl rfl
      refine mj_T.pl rfl rfl rfl rfl ?_
      refine jT.getR 11 118 18 ty oh40 rfl kp0 (by decide) rfl rfl rfl (fun k41 => ?_)
      refine jT.getI 18 0 oh40 rfl k41 (by decide) rfl rfl rfl (fun z42 (az42 : (-2147483648) ≤ z42) (bz42 : z42 ≤ 2147483647) fz42 => ?_)
      have rz42 : -2147483648 ≤ z42 ∧ z42 ≤ 2147483647 := ⟨by omega, by omega⟩
      refine jT.if0 rfl rz42 (fun c79 => ?_) (fun c79 => ?_)
      · have c79 := of_decide_eq_true c79
        refine mj_T.pl rfl rfl rfl rfl ?_
        refine mj_T.pl (loc' := [some (.ref p0), some (.ref p1), some (.ref p2), some (.int (jn x12)), some (.ref a28), some (.int (jn 0))]) rfl rfl rfl rfl ?_
        have t87_45 : ∀ (k46 : Nat) (x43 : Int) (h44 : mj_H), (-2147483648 ≤ x43 ∧ x43 ≤ 2147483647) → (jO K L R g n tm h44) → (0 ≤ x43) → (2147483647 - x43 : Int).toNat = k46 → mj_T (D + 2) mj_m19 87 [some (.ref p0), some (.ref p1), some (.ref p2), some (.int (jn x12)), some (.ref a28), some (.int (jn x43))] [] h44 (jQ K L R g n tm [] (jVi 0 1)) := by
          refine jInd (fun k46 ih47 => ?_)
          intro x43 h44 rx43 oh44 ix43 hm48
          refine mj_T.pl rfl rfl rfl rfl ?_
          refine mj_T.pl rfl rfl rfl rfl ?_
          refine jT.getI 13 6 oh44 rfl kp1 (by decide) rfl rfl rfl (fun z49 (az49 : (-1) ≤ z49) (bz49 : z49 ≤ 30) fz49 => ?_)
          have rz49 : -2147483648 ≤ z49 ∧ z49 ≤ 2147483647 := ⟨by omega, by omega⟩
          refine jT.icmp rfl rx43 rz49 (fun c93 => ?_) (fun c93 => ?_)
          · have c93 := of_decide_eq_true c93
            refine jT.iinc rfl rfl (fun z50 rz50 ez50 => ?_)
            replace ez50 := ez50 ⟨by omega, by omega⟩
            refine mj_T.eq (loc2 := [some (.ref p0), some (.ref p1), some (.ref p2), some (.int (jn z50)), some (.ref a28), some (.int (jn x43))]) ?_ rfl rfl rfl rfl
            refine mj_T.pl rfl rfl rfl rfl ?_
            exact ih18 ((z50 + 1 : Int).toNat) (by omega) z50 (some (.ref a28)) (some (.int (jn x43))) h44 rz50 oh44 (by omega) rfl
          · have c93 := of_decide_eq_false c93
            refine mj_T.pl rfl rfl rfl rfl ?_
            refine jT.getR 11 118 18 ty oh44 rfl kp0 (by decide) rfl rfl rfl (fun k51 => ?_)
            iterate 3 refine mj_T.pl rfl rfl rfl rfl ?_
            refine jT.callp rfl rfl (Nat.le_of_ble_eq_true rfl) (Nat.le_of_ble_eq_true rfl) (jrv_of oh44 kp1 (by decide) rfl (by decide) rfl _) rfl (mj_Ok.up (Nat.add_le_add_left (by decide) D) (jc_36 (D := D) ty hg oh44 kp1 rx43)) rfl rfl (fun v52 qv52 => ?_)
            obtain ⟨a53, ka53, rfl⟩ := qv52
            refine mj_T.eq (pc2 := 108) (st2 := [.ref a53, .ref a28, .ref (R p0 5)]) ?_ rfl rfl rfl rfl
            refine jT.call rfl rfl (Nat.le_of_ble_eq_true rfl) (Nat.le_of_ble_eq_true rfl) (jrv_of oh44 k51 (by decide) rfl (by decide) rfl _) rfl (mj_Ok.up (Nat.add_le_add_left (by decide) D) (jc_95 (D := D) ty hg oh44 k51 ka28 ka53)) rfl rfl (fun v54 h55 qv54 oh55 => ?_)
            obtain rfl : v54 = none := qv54
            refine mj_T.eq (pc2 := 111) (st2 := []) ?_ rfl rfl rfl rfl
            refine mj_T.pl rfl rfl rfl rfl ?_
            refine jT.getR 11 113 13 ty oh55 rfl kp0 (by decide) rfl rfl rfl (fun k56 => ?_)
            iterate 2 refine mj_T.pl rfl rfl rfl rfl ?_
            refine jT.iadd rfl (fun z57 rz57 ez57 => ?_)
            replace ez57 := ez57 ⟨by omega, by omega⟩
            refine jT.callp rfl rfl (Nat.le_of_ble_eq_true rfl) (Nat.le_of_ble_eq_true rfl) (jrv_of oh55 k56 (by decide) rfl (by decide) rfl _) rfl (mj_Ok.up (Nat.add_le_add_left (by decide) D) (jc_36 (D := D) ty hg oh55 k56 rz57)) rfl rfl (fun v58 qv58 => ?_)
            obtain ⟨a59, ka59, rfl⟩ := qv58
            refine mj_T.eq (pc2 := 122) (st2 := [.ref a59]) ?_ rfl rfl rfl rfl
            refine mj_T.pl rfl rfl rfl rfl ?_
            refine jT.getR 11 118 18 ty oh55 rfl kp0 (by decide) rfl rfl rfl (fun k60 => ?_)
            refine mj_T.pl rfl rfl rfl rfl ?_
            refine jT.call rfl rfl (Nat.le_of_ble_eq_true rfl) (Nat.le_of_ble_eq_true rfl) (jrv_of oh55 ka59 (by decide) rfl (by decide) rfl _) rfl (mj_Ok.up (Nat.add_le_add_left (by decide) D) (jc_91 (D := D) ty hg oh55 ka59 k60 ⟨by decide, by decide⟩)) rfl rfl (fun v61 h62 qv61 oh62 => ?_)
            obtain rfl : v61 = none := qv61
            refine mj_T.eq (pc2 := 130) (st2 := []) ?_ rfl rfl rfl rfl
            refine jT.iinc rfl rfl (fun z63 rz63 ez63 => ?_)
            replace ez63 := ez63 ⟨by omega, by omega⟩
            refine mj_T.eq (loc2 := [some (.ref p0), some (.ref p1), some (.ref p2), some (.int (jn x12)), some (.ref a28), some (.int (jn z63))]) ?_ rfl rfl rfl rfl
            refine mj_T.pl rfl rfl rfl rfl ?_
            exact ih47 ((2147483647 - z63 : Int).toNat) (by omega) z63 h62 rz63 oh62 (by omega) rfl
        exact t87_45 _ 0 h40 ⟨by decide, by decide⟩ oh40 (by omega) rfl
      · have c79 := of_decide_eq_false c79
        refine mj_T.pl rfl rfl rfl rfl ?_
        exact jT.retb oh40 rfl rfl (by omega) (by omega)
  exact t28_16 _ z11 none none h7 rz11 oh7 (by omega) rfl
-- PolyRegisters$Desk.isDivided([J[J)Z
theorem jc_18 {D n : Nat} {tm : Int} {h g : mj_H} {K L : Nat → Nat} {R : Nat → Nat → Nat} {p0 : Nat} {p1 : Nat} {p2 : Nat} (ty : jTY K L R) (hg : g.length ≤ n) (o : jO K L R g n tm h) (kp0 : K p0 = 11) (kp1 : K p1 = 2) (kp2 : K p2 = 2) : mj_Ok (D + 4) 18 [.ref p0, .ref p1, .ref p2] h (jQ K L R g n tm [] (jVi 0 1)) := by
  refine mj_Ok.of (M := mj_m18) (loc := [some (.ref p0), some (.ref p1), some (.ref p2)]) rfl rfl rfl ?_
  refine mj_T.pl rfl rfl rfl rfl ?_
  refine jT.getR 11 113 13 ty o rfl kp0 (by decide) rfl rfl rfl (fun k1 => ?_)
  refine mj_T.pl rfl rfl rfl rfl ?_
  refine jT.lc 1 rfl rfl ?_
  refine jT.call rfl rfl (Nat.le_of_ble_eq_true rfl) (Nat.le_of_ble_eq_true rfl) (jrv_of o k1 (by decide) rfl (by decide) rfl _) rfl (mj_Ok.up (Nat.add_le_add_left (by decide) D) (jc_40 (D := D) ty hg o k1 kp1 ⟨by decide, by decide⟩)) rfl rfl (fun v2 h3 qv2 oh3 => ?_)
  obtain rfl : v2 = none := qv2
  refine mj_T.eq (pc2 := 9) (st2 := []) ?_ rfl rfl rfl rfl
  refine mj_T.pl rfl rfl rfl rfl ?_
  refine jT.getR 11 113 13 ty oh3 rfl kp0 (by decide) rfl rfl rfl (fun k4 => ?_)
  refine mj_T.pl rfl rfl rfl rfl ?_
  refine jT.lc 1 rfl rfl ?_
  refine jT.call rfl rfl (Nat.le_of_ble_eq_true rfl) (Nat.le_of_ble_eq_true rfl) (jrv_of oh3 k4 (by decide) rfl (by decide) rfl _) rfl (mj_Ok.up (Nat.add_le_add_left (by decide) D) (jc_40 (D := D) ty hg oh3 k4 kp2 ⟨by decide, by decide⟩)) rfl rfl (fun v5 h6 qv5 oh6 => ?_)
  obtain rfl : v5 = none := qv5
  refine mj_T.eq (pc2 := 18) (st2 := []) ?_ rfl rfl rfl rfl
  refine mj_T.pl rfl rfl rfl rfl ?_
  refine jT.getR 11 113 13 ty oh6 rfl kp0 (by decide) rfl rfl rfl (fun k7 => ?_)
  refine jT.getI 13 6 oh6 rfl k7 (by decide) rfl rfl rfl (fun z8 (az8 : (-1) ≤ z8) (bz8 : z8 ≤ 30) fz8 => ?_)
  have rz8 : -2147483648 ≤ z8 ∧ z8 ≤ 2147483647 := ⟨by omega, by omega⟩
  refine mj_T.pl rfl rfl rfl rfl ?_
  refine jT.getR 11 113 13 ty oh6 rfl kp0 (by decide) rfl rfl rfl (fun k9 => ?_)
  refine jT.getI 13 6 oh6 rfl k9 (by decide) rfl rfl rfl (fun z10 (az10 : (-1) ≤ z10) (bz10 : z10 ≤ 30) fz10 => ?_)
  have rz10 : -2147483648 ≤ z10 ∧ z10 ≤ 2147483647 := ⟨by omega, by omega⟩
  have t45_11 : mj_T (D + 3) mj_m18 45 [some (.ref p0), some (.ref p1), some (.ref p2)] [] h6 (jQ K L R g n tm [] (jVi 0 1)) := by
    refine mj_T.pl rfl rfl rfl rfl ?_
    refine jT.getR 11 113 13 ty oh6 rfl kp0 (by decide) rfl rfl rfl (fun k12 => ?_)
    refine jT.getK 13 6 oh6 rfl k12 (by decide) rfl rfl rfl fz8.symm ?_
    refine jT.if0 rfl rz8 (fun c52 => ?_) (fun c52 => ?_)
    · have c52 := of_decide_eq_true c52
      refine mj_T.pl rfl rfl rfl rfl ?_
      exact jT.retb oh6 rfl rfl (by omega) (by omega)
    · have c52 := of_decide_eq_false c52
      iterate 2 refine mj_T.pl rfl rfl rfl rfl ?_
      exact jT.retb oh6 rfl rfl (by omega) (by omega)
  refine jT.icmp rfl rz8 rz10 (fun c32 => ?_) (fun c32 => ?_)
  · have c32 := of_decide_eq_true c32
    exact t45_11 
  · have c32 := of_decide_eq_false c32
    refine mj_T.pl rfl rfl rfl rfl ?_
    refine jT.getR 11 113 13 ty oh6 rfl kp0 (by decide) rfl rfl rfl (fun k13 => ?_)
    refine jT.getK 13 6 oh6 rfl k13 (by decide) rfl rfl rfl fz10.symm ?_
    refine jT.if0 rfl rz10 (fun c42 => ?_) (fun c42 => ?_)
    · have c42 := of_decide_eq_true c42
      iterate 2 refine mj_T.pl rfl rfl rfl rfl ?_
      refine jT.getR 11 113 13 ty oh6 rfl kp0 (by decide) rfl rfl rfl (fun k14 => ?_)
      refine mj_T.pl rfl rfl rfl rfl ?_
      refine jT.getR 11 113 13 ty oh6 rfl kp0 (by decide) rfl rfl rfl (fun k15 => ?_)
      refine jT.call rfl rfl (Nat.le_of_ble_eq_true rfl) (Nat.le_of_ble_eq_true rfl) (jrv_of oh6 kp0 (by decide) rfl (by decide) rfl _) rfl (mj_Ok.up (Nat.add_le_add_left (by decide) D) (jc_19 (D := D) ty hg oh6 kp0 k14 k15)) rfl rfl (fun v16 h17 qv16 oh17 => ?_)
      obtain ⟨z18, az18, bz18, rfl⟩ := qv16
      have rz18 : -2147483648 ≤ z18 ∧ z18 ≤ 2147483647 := ⟨by omega, by omega⟩
      refine mj_T.eq (pc2 := 73) (st2 := [.int (jn z18)]) ?_ rfl rfl rfl rfl
      exact jT.retb oh17 rfl rfl (by omega) (by omega)
    · have c42 := of_decide_eq_false c42
      exact t45_11 
-- PolyRegisters$Desk.divideParts(LPolyRegisters$Poly;LPolyRegisters$Wide;I)V
theorem jc_20 {D n : Nat} {tm : Int} {h g : mj_H} {K L : Nat → Nat} {R : Nat → Nat → Nat} {p0 : Nat} {p1 : Nat} {p2 : Nat} {p3 : Int} (ty : jTY K L R) (hg : g.length ≤ n) (o : jO K L R g n tm h) (kp0 : K p0 = 11) (kp1 : K p1 = 13) (kp2 : K p2 = 18) (rp3 : -2147483648 ≤ p3 ∧ p3 ≤ 2147483647) : mj_Ok (D + 3) 20 [.ref p0, .ref p1, .ref p2, .int (jn p3)] h (jQ K L R g n tm [] jV0) := by
  refine mj_Ok.of (M := mj_m20) (loc := [some (.ref p0), some (.ref p1), some (.ref p2), some (.int (jn p3)), none, none, none]) rfl rfl rfl ?_
  refine mj_T.pl rfl rfl rfl rfl ?_
  refine jT.getR 11 112 12 ty o rfl kp0 (by decide) rfl rfl rfl (fun k1 => ?_)
  refine mj_T.pl rfl rfl rfl rfl ?_
  refine jT.call rfl rfl (Nat.le_of_ble_eq_true rfl) (Nat.le_of_ble_eq_true rfl) (jrv_of o k1 (by decide) rfl (by decide) rfl _) rfl (mj_Ok.up (Nat.add_le_add_left (by decide) D) (jc_30 (D := D) ty hg o k1 kp2)) rfl rfl (fun v2 h3 qv2 oh3 => ?_)
  obtain rfl : v2 = none := qv2
  refine mj_T.eq (pc2 := 8) (st2 := []) ?_ rfl rfl rfl rfl
  refine mj_T.pl rfl rfl rfl rfl ?_
  refine mj_T.pl (loc' := [some (.ref p0), some (.ref p1), some (.ref p2), some (.int (jn p3)), some (.int (jn 0)), none, none]) rfl rfl rfl rfl ?_
  have t11_8 : ∀ (k9 : Nat) (x4 : Int) (w5 : Option Value) (w6 : Option Value) (h7 : mj_H), (-2147483648 ≤ x4 ∧ x4 ≤ 2147483647) → (jO K L R g n tm h7) → (0 ≤ x4) → (2147483647 - x4 : Int).toNat = k9 → mj_T (D + 2) mj_m20 11 [some (.ref p0), some (.ref p1), some (.ref p2), some (.int (jn p3)), some (.int (jn x4)), w5, w6] [] h7 (jQ K L R g n tm [] jV0) := by
    refine jInd (fun k9 ih10 => ?_)
    intro x4 w5 w6 h7 rx4 oh7 ix4 hm11
    refine mj_T.pl rfl rfl rfl rfl ?_
    refine mj_T.pl rfl rfl rfl rfl ?_
    refine jT.getI 13 6 oh7 rfl kp1 (by decide) rfl rfl rfl (fun z12 (az12 : (-1) ≤ z12) (bz12 : z12 ≤ 30) fz12 => ?_)
    have rz12 : -2147483648 ≤ z12 ∧ z12 ≤ 2147483647 := ⟨by omega, by omega⟩
    refine jT.icmp rfl rx4 rz12 (fun c17 => ?_) (fun c17 => ?_)
    · have c17 := of_decide_eq_true c17
      exact jT.ret oh7 rfl rfl rfl rfl
    · have c17 := of_decide_eq_false c17
      iterate 2 refine mj_T.pl rfl rfl rfl rfl ?_
      refine jT.callp rfl rfl (Nat.le_of_ble_eq_true rfl) (Nat.le_of_ble_eq_true rfl) (jrv_of oh7 kp1 (by decide) rfl (by decide) rfl _) rfl (mj_Ok.up (Nat.add_le_add_left (by decide) D) (jc_36 (D := D) ty hg oh7 kp1 rx4)) rfl rfl (fun v13 qv13 => ?_)
      obtain ⟨a14, ka14, rfl⟩ := qv13
      refine mj_T.eq (pc2 := 26) (st2 := [.ref a14]) ?_ rfl rfl rfl rfl
      refine mj_T.pl (loc' := [some (.ref p0), some (.ref p1), some (.ref p2), some (.int (jn p3)), some (.int (jn x4)), some (.ref a14), w6]) rfl rfl rfl rfl ?_
      refine mj_T.pl rfl rfl rfl rfl ?_
      refine mj_T.pl (loc' := [some (.ref p0), some (.ref p1), some (.ref p2), some (.int (jn p3)), some (.int (jn x4)), some (.ref a14), some (.int (jn 0))]) rfl rfl rfl rfl ?_
      have t31_17 : ∀ (k18 : Nat) (x15 : Int) (h16 : mj_H), (-2147483648 ≤ x15 ∧ x15 ≤ 2147483647) → (jO K L R g n tm h16) → (0 ≤ x15) → (2147483647 - x15 : Int).toNat = k18 → mj_T (D + 2) mj_m20 31 [some (.ref p0), some (.ref p1), some (.ref p2), some (.int (jn p3)), some (.int (jn x4)), some (.ref a14), some (.int (jn x15))] [] h16 (jQ K L R g n tm [] jV0) := by
        refine jInd (fun k18 ih19 => ?_)
        intro x15 h16 rx15 oh16 ix15 hm20
        refine mj_T.pl rfl rfl rfl rfl ?_
        refine mj_T.pl rfl rfl rfl rfl ?_
        refine jT.icmp rfl rx15 rp3 (fun c34 => ?_) (fun c34 => ?_)
        · have c34 := of_decide_eq_true c34
          refine jT.iinc rfl rfl (fun z21 rz21 ez21 => ?_)
          replace ez21 := ez21 ⟨by omega, by omega⟩
          refine mj_T.eq (loc2 := [some (.ref p0), some (.ref p1), some (.ref p2), some (.int (jn p3)), some (.int (jn z21)), some (.ref a14), some (.int (jn x15))]) ?_ rfl rfl rfl rfl
          refine mj_T.pl rfl rfl rfl rfl ?_
          exact ih10 ((2147483647 - z21 : Int).toNat) (by omega) z21 (some (.ref a14)) (some (.int (jn x15))) h16 rz21 oh16 (by omega) rfl
        · have c34 := of_decide_eq_false c34
          refine mj_T.pl rfl rfl rfl rfl ?_
          refine jT.getR 11 112 12 ty oh16 rfl kp0 (by decide) rfl rfl rfl (fun k22 => ?_)
          iterate 2 refine mj_T.pl rfl rfl rfl rfl ?_
          refine jT.getR 11 118 18 ty oh16 rfl kp0 (by decide) rfl rfl rfl (fun k23 => ?_)
          refine jT.call rfl rfl (Nat.le_of_ble_eq_true rfl) (Nat.le_of_ble_eq_true rfl) (jrv_of oh16 k22 (by decide) rfl (by decide) rfl _) rfl (mj_Ok.up (Nat.add_le_add_left (by decide) D) (jc_31 (D := D) ty hg oh16 k22 ka14 k23)) rfl rfl (fun v24 h25 qv24 oh25 => ?_)
          obtain rfl : v24 = none := qv24
          refine mj_T.eq (pc2 := 50) (st2 := []) ?_ rfl rfl rfl rfl
          iterate 2 refine mj_T.pl rfl rfl rfl rfl ?_
          refine jT.getR 11 118 18 ty oh25 rfl kp0 (by decide) rfl rfl rfl (fun k26 => ?_)
          refine jT.call rfl rfl (Nat.le_of_ble_eq_true rfl) (Nat.le_of_ble_eq_true rfl) (jrv_of oh25 ka14 (by decide) rfl (by decide) rfl _) rfl (mj_Ok.up (Nat.add_le_add_left (by decide) D) (jc_87 (D := D) ty hg oh25 ka14 k26)) rfl rfl (fun v27 h28 qv27 oh28 => ?_)
          obtain rfl : v27 = none := qv27
          refine mj_T.eq (pc2 := 59) (st2 := []) ?_ rfl rfl rfl rfl
          refine jT.iinc rfl rfl (fun z29 rz29 ez29 => ?_)
          replace ez29 := ez29 ⟨by omega, by omega⟩
          refine mj_T.eq (loc2 := [some (.ref p0), some (.ref p1), some (.ref p2), some (.int (jn p3)), some (.int (jn x4)), some (.ref a14), some (.int (jn z29))]) ?_ rfl rfl rfl rfl
          refine mj_T.pl rfl rfl rfl rfl ?_
          exact ih19 ((2147483647 - z29 : Int).toNat) (by omega) z29 h28 rz29 oh28 (by omega) rfl
      exact t31_17 _ 0 h7 ⟨by decide, by decide⟩ oh7 (by omega) rfl
  exact t11_8 _ 0 none none h3 ⟨by decide, by decide⟩ oh3 (by omega) rfl
-- PolyRegisters$Desk.gather(J[J)V
theorem jc_21 {D n : Nat} {tm : Int} {h g : mj_H} {K L : Nat → Nat} {R : Nat → Nat → Nat} {p0 : Nat} {p1 : Int} {p2 : Nat} (ty : jTY K L R) (hg : g.length ≤ n) (o : jO K L R g n tm h) (kp0 : K p0 = 11) (jp1 : jR p1) (kp2 : K p2 = 2) : mj_Ok (D + 3) 21 [.ref p0, .long (jl p1), .ref p2] h (jQ K L R g n tm [] jV0) := by
  refine mj_Ok.of (M := mj_m21) (loc := [some (.ref p0), some (.long (jl p1)), none, some (.ref p2), none]) rfl rfl rfl ?_
  refine mj_T.pl rfl rfl rfl rfl ?_
  refine jT.getR 11 118 18 ty o rfl kp0 (by decide) rfl rfl rfl (fun k1 => ?_)
  refine mj_T.pl rfl rfl rfl rfl ?_
  refine jT.call rfl rfl (Nat.le_of_ble_eq_true rfl) (Nat.le_of_ble_eq_true rfl) (jrv_of o k1 (by decide) rfl (by decide) rfl _) rfl (mj_Ok.up (Nat.add_le_add_left (by decide) D) (jc_86 (D := D) ty hg o k1 jp1)) rfl rfl (fun v2 h3 qv2 oh3 => ?_)
  obtain rfl : v2 = none := qv2
  refine mj_T.eq (pc2 := 8) (st2 := []) ?_ rfl rfl rfl rfl
  refine mj_T.pl rfl rfl rfl rfl ?_
  refine mj_T.pl (loc' := [some (.ref p0), some (.long (jl p1)), none, some (.ref p2), some (.int (jn 0))]) rfl rfl rfl rfl ?_
  have t11_6 : ∀ (k7 : Nat) (x4 : Int) (h5 : mj_H), (-2147483648 ≤ x4 ∧ x4 ≤ 2147483647) → (jO K L R g n tm h5) → (0 ≤ x4) → (2147483647 - x4 : Int).toNat = k7 → mj_T (D + 2) mj_m21 11 [some (.ref p0), some (.long (jl p1)), none, some (.ref p2), some (.int (jn x4))] [] h5 (jQ K L R g n tm [] jV0) := by
    refine jInd (fun k7 ih8 => ?_)
    intro x4 h5 rx4 oh5 ix4 hm9
    refine mj_T.pl rfl rfl rfl rfl ?_
    refine mj_T.pl rfl rfl rfl rfl ?_
    refine jT.alen 2 ty oh5 rfl kp2 (by decide) (by decide) (fun z10 ez10 (az10 : 13 ≤ z10) (bz10 : z10 ≤ 13) => ?_)
    have rz10 : -2147483648 ≤ z10 ∧ z10 ≤ 2147483647 := ⟨by omega, by omega⟩
    refine jT.icmp rfl rx4 rz10 (fun c15 => ?_) (fun c15 => ?_)
    · have c15 := of_decide_eq_true c15
      refine mj_T.pl rfl rfl rfl rfl ?_
      refine jT.getR 11 113 13 ty oh5 rfl kp0 (by decide) rfl rfl rfl (fun k11 => ?_)
      refine jT.call rfl rfl (Nat.le_of_ble_eq_true rfl) (Nat.le_of_ble_eq_true rfl) (jrv_of oh5 k11 (by decide) rfl (by decide) rfl _) rfl (mj_Ok.up (Nat.add_le_add_left (by decide) D) (jc_42 (D := D) ty hg oh5 k11)) rfl rfl (fun v12 h13 qv12 oh13 => ?_)
      obtain rfl : v12 = none := qv12
      refine mj_T.eq (pc2 := 74) (st2 := []) ?_ rfl rfl rfl rfl
      exact jT.ret oh13 rfl rfl rfl rfl
    · have c15 := of_decide_eq_false c15
      refine mj_T.pl rfl rfl rfl rfl ?_
      refine jT.getR 11 118 18 ty oh5 rfl kp0 (by decide) rfl rfl rfl (fun k14 => ?_)
      iterate 2 refine mj_T.pl rfl rfl rfl rfl ?_
      refine jT.lald oh5 rfl kp2 rx4 ⟨by omega, by omega⟩ (fun z15 jz15 => ?_)
      refine jT.call rfl rfl (Nat.le_of_ble_eq_true rfl) (Nat.le_of_ble_eq_true rfl) (jrv_of oh5 k14 (by decide) rfl (by decide) rfl _) rfl (mj_Ok.up (Nat.add_le_add_left (by decide) D) (jc_86 (D := D) ty hg oh5 k14 jz15)) rfl rfl (fun v16 h17 qv16 oh17 => ?_)
      obtain rfl : v16 = none := qv16
      refine mj_T.eq (pc2 := 29) (st2 := []) ?_ rfl rfl rfl rfl
      refine mj_T.pl rfl rfl rfl rfl ?_
      refine jT.getR 11 118 18 ty oh17 rfl kp0 (by decide) rfl rfl rfl (fun k18 => ?_)
      refine mj_T.pl rfl rfl rfl rfl ?_
      refine jT.getR 11 118 18 ty oh17 rfl kp0 (by decide) rfl rfl rfl (fun k19 => ?_)
      refine mj_T.pl rfl rfl rfl rfl ?_
      refine jT.getR 11 118 18 ty oh17 rfl kp0 (by decide) rfl rfl rfl (fun k20 => ?_)
      refine jT.call rfl rfl (Nat.le_of_ble_eq_true rfl) (Nat.le_of_ble_eq_true rfl) (jrv_of oh17 k18 (by decide) rfl (by decide) rfl _) rfl (mj_Ok.up (Nat.add_le_add_left (by decide) D) (jc_95 (D := D) ty hg oh17 k18 k19 k20)) rfl rfl (fun v21 h22 qv21 oh22 => ?_)
      obtain rfl : v21 = none := qv21
      refine mj_T.eq (pc2 := 44) (st2 := []) ?_ rfl rfl rfl rfl
      refine mj_T.pl rfl rfl rfl rfl ?_
      refine jT.getR 11 113 13 ty oh22 rfl kp0 (by decide) rfl rfl rfl (fun k23 => ?_)
      refine mj_T.pl rfl rfl rfl rfl ?_
      refine jT.callp rfl rfl (Nat.le_of_ble_eq_true rfl) (Nat.le_of_ble_eq_true rfl) (jrv_of oh22 k23 (by decide) rfl (by decide) rfl _) rfl (mj_Ok.up (Nat.add_le_add_left (by decide) D) (jc_36 (D := D) ty hg oh22 k23 rx4)) rfl rfl (fun v24 qv24 => ?_)
      obtain ⟨a25, ka25, rfl⟩ := qv24
      refine mj_T.eq (pc2 := 53) (st2 := [.ref a25]) ?_ rfl rfl rfl rfl
      refine mj_T.pl rfl rfl rfl rfl ?_
      refine jT.getR 11 118 18 ty oh22 rfl kp0 (by decide) rfl rfl rfl (fun k26 => ?_)
      refine mj_T.pl rfl rfl rfl rfl ?_
      refine jT.call rfl rfl (Nat.le_of_ble_eq_true rfl) (Nat.le_of_ble_eq_true rfl) (jrv_of oh22 ka25 (by decide) rfl (by decide) rfl _) rfl (mj_Ok.up (Nat.add_le_add_left (by decide) D) (jc_91 (D := D) ty hg oh22 ka25 k26 ⟨by decide, by decide⟩)) rfl rfl (fun v27 h28 qv27 oh28 => ?_)
      obtain rfl : v27 = none := qv27
      refine mj_T.eq (pc2 := 61) (st2 := []) ?_ rfl rfl rfl rfl
      refine jT.iinc rfl rfl (fun z29 rz29 ez29 => ?_)
      replace ez29 := ez29 ⟨by omega, by omega⟩
      refine mj_T.eq (loc2 := [some (.ref p0), some (.long (jl p1)), none, some (.ref p2), some (.int (jn z29))]) ?_ rfl rfl rfl rfl
      refine mj_T.pl rfl rfl rfl rfl ?_
      exact ih8 ((2147483647 - z29 : Int).toNat) (by omega) z29 h28 rz29 oh28 (by omega) rfl
  exact t11_6 _ 0 h3 ⟨by decide, by decide⟩ oh3 (by omega) rfl
-- PolyRegisters$Desk.commonOf(LPolyRegisters$Wide;J)J
theorem jc_23 {D n : Nat} {tm : Int} {h g : mj_H} {K L : Nat → Nat} {R : Nat → Nat → Nat} {p0 : Nat} {p1 : Nat} {p2 : Int} (ty : jTY K L R) (hg : g.length ≤ n) (o : jO K L R g n tm h) (kp0 : K p0 = 11) (kp1 : K p1 = 18) (jp2 : jR p2) : mj_Ok (D + 3) 23 [.ref p0, .ref p1, .long (jl p2)] h (jQ K L R g n tm [] jVl) := by
  refine mj_Ok.of (M := mj_m23) (loc := [some (.ref p0), some (.ref p1), some (.long (jl p2)), none]) rfl rfl rfl ?_
  refine mj_T.pl rfl rfl rfl rfl ?_
  refine jT.getR 11 118 18 ty o rfl kp0 (by decide) rfl rfl rfl (fun k1 => ?_)
  refine mj_T.pl rfl rfl rfl rfl ?_
  refine jT.call rfl rfl (Nat.le_of_ble_eq_true rfl) (Nat.le_of_ble_eq_true rfl) (jrv_of o k1 (by decide) rfl (by decide) rfl _) rfl (mj_Ok.up (Nat.add_le_add_left (by decide) D) (jc_86 (D := D) ty hg o k1 jp2)) rfl rfl (fun v2 h3 qv2 oh3 => ?_)
  obtain rfl : v2 = none := qv2
  refine mj_T.eq (pc2 := 8) (st2 := []) ?_ rfl rfl rfl rfl
  refine mj_T.pl rfl rfl rfl rfl ?_
  refine jT.getR 11 112 12 ty oh3 rfl kp0 (by decide) rfl rfl rfl (fun k4 => ?_)
  refine mj_T.pl rfl rfl rfl rfl ?_
  refine jT.getR 11 118 18 ty oh3 rfl kp0 (by decide) rfl rfl rfl (fun k5 => ?_)
  refine jT.call rfl rfl (Nat.le_of_ble_eq_true rfl) (Nat.le_of_ble_eq_true rfl) (jrv_of oh3 k4 (by decide) rfl (by decide) rfl _) rfl (mj_Ok.up (Nat.add_le_add_left (by decide) D) (jc_30 (D := D) ty hg oh3 k4 k5)) rfl rfl (fun v6 h7 qv6 oh7 => ?_)
  obtain rfl : v6 = none := qv6
  refine mj_T.eq (pc2 := 19) (st2 := []) ?_ rfl rfl rfl rfl
  refine mj_T.pl rfl rfl rfl rfl ?_
  refine jT.getR 11 118 18 ty oh7 rfl kp0 (by decide) rfl rfl rfl (fun k8 => ?_)
  refine mj_T.pl rfl rfl rfl rfl ?_
  refine jT.call rfl rfl (Nat.le_of_ble_eq_true rfl) (Nat.le_of_ble_eq_true rfl) (jrv_of oh7 k8 (by decide) rfl (by decide) rfl _) rfl (mj_Ok.up (Nat.add_le_add_left (by decide) D) (jc_87 (D := D) ty hg oh7 k8 kp1)) rfl rfl (fun v9 h10 qv9 oh10 => ?_)
  obtain rfl : v9 = none := qv9
  refine mj_T.eq (pc2 := 27) (st2 := []) ?_ rfl rfl rfl rfl
  refine mj_T.pl rfl rfl rfl rfl ?_
  refine jT.getR 11 112 12 ty oh10 rfl kp0 (by decide) rfl rfl rfl (fun k11 => ?_)
  refine mj_T.pl rfl rfl rfl rfl ?_
  refine jT.getR 11 118 18 ty oh10 rfl kp0 (by decide) rfl rfl rfl (fun k12 => ?_)
  refine mj_T.pl rfl rfl rfl rfl ?_
  refine jT.getR 11 118 18 ty oh10 rfl kp0 (by decide) rfl rfl rfl (fun k13 => ?_)
  refine jT.call rfl rfl (Nat.le_of_ble_eq_true rfl) (Nat.le_of_ble_eq_true rfl) (jrv_of oh10 k11 (by decide) rfl (by decide) rfl _) rfl (mj_Ok.up (Nat.add_le_add_left (by decide) D) (jc_31 (D := D) ty hg oh10 k11 k12 k13)) rfl rfl (fun v14 h15 qv14 oh15 => ?_)
  obtain rfl : v14 = none := qv14
  refine mj_T.eq (pc2 := 42) (st2 := []) ?_ rfl rfl rfl rfl
  refine mj_T.pl rfl rfl rfl rfl ?_
  refine jT.getR 11 118 18 ty oh15 rfl kp0 (by decide) rfl rfl rfl (fun k16 => ?_)
  refine jT.callp rfl rfl (Nat.le_of_ble_eq_true rfl) (Nat.le_of_ble_eq_true rfl) (jrv_of oh15 k16 (by decide) rfl (by decide) rfl _) rfl (mj_Ok.up (Nat.add_le_add_left (by decide) D) (jc_100 (D := D) ty hg oh15 k16)) rfl rfl (fun v17 qv17 => ?_)
  obtain ⟨z18, jz18, rfl⟩ := qv17
  refine mj_T.eq (pc2 := 49) (st2 := [.long (jl z18)]) ?_ rfl rfl rfl rfl
  refine mj_T.pl rfl rfl rfl rfl ?_
  refine jT.callp rfl rfl (Nat.le_of_ble_eq_true rfl) (Nat.le_of_ble_eq_true rfl) rfl rfl (mj_Ok.up (Nat.add_le_add_left (by decide) D) (jc_171 (D := D) ty hg oh15 jz18 jp2)) rfl rfl (fun v19 qv19 => ?_)
  obtain ⟨z20, jz20, rfl⟩ := qv19
  refine mj_T.eq (pc2 := 53) (st2 := [.long (jl z20)]) ?_ rfl rfl rfl rfl
  exact jT.ret oh15 rfl rfl rfl ⟨z20, jz20, rfl⟩
-- PolyRegisters$Desk.shorten(J)J
theorem jc_22 {D n : Nat} {tm : Int} {h g : mj_H} {K L : Nat → Nat} {R : Nat → Nat → Nat} {p0 : Nat} {p1 : Int} (ty : jTY K L R) (hg : g.length ≤ n) (o : jO K L R g n tm h) (kp0 : K p0 = 11) (jp1 : jR p1) : mj_Ok (D + 4) 22 [.ref p0, .long (jl p1)] h (jQ K L R g n tm [] jVl) := by
  refine mj_Ok.of (M := mj_m22) (loc := [some (.ref p0), some (.long (jl p1)), none, none, none, none]) rfl rfl rfl ?_
  refine mj_T.pl rfl rfl rfl rfl ?_
  refine mj_T.pl (loc' := [some (.ref p0), some (.long (jl p1)), none, some (.long (jl p1)), none, none]) rfl rfl rfl rfl ?_
  refine mj_T.pl rfl rfl rfl rfl ?_
  refine mj_T.pl (loc' := [some (.ref p0), some (.long (jl p1)), none, some (.long (jl p1)), none, some (.int (jn 0))]) rfl rfl rfl rfl ?_
  have t5_4 : ∀ (k5 : Nat) (y1 : Int) (x2 : Int) (h3 : mj_H), (jR y1) → (-2147483648 ≤ x2 ∧ x2 ≤ 2147483647) → (jO K L R g n tm h3) → (0 ≤ x2) → (2147483647 - x2 : Int).toNat = k5 → mj_T (D + 3) mj_m22 5 [some (.ref p0), some (.long (jl p1)), none, some (.long (jl y1)), none, some (.int (jn x2))] [] h3 (jQ K L R g n tm [] jVl) := by
    refine jInd (fun k5 ih6 => ?_)
    intro y1 x2 h3 jy1 rx2 oh3 ix2 hm7
    refine mj_T.pl rfl rfl rfl rfl ?_
    refine mj_T.pl rfl rfl rfl rfl ?_
    refine jT.getR 11 113 13 ty oh3 rfl kp0 (by decide) rfl rfl rfl (fun k8 => ?_)
    refine jT.getI 13 6 oh3 rfl k8 (by decide) rfl rfl rfl (fun z9 (az9 : (-1) ≤ z9) (bz9 : z9 ≤ 30) fz9 => ?_)
    have rz9 : -2147483648 ≤ z9 ∧ z9 ≤ 2147483647 := ⟨by omega, by omega⟩
    refine jT.icmp rfl rx2 rz9 (fun c14 => ?_) (fun c14 => ?_)
    · have c14 := of_decide_eq_true c14
      refine mj_T.pl rfl rfl rfl rfl ?_
      refine jT.getR 11 118 18 ty oh3 rfl kp0 (by decide) rfl rfl rfl (fun k10 => ?_)
      refine mj_T.pl rfl rfl rfl rfl ?_
      refine jT.call rfl rfl (Nat.le_of_ble_eq_true rfl) (Nat.le_of_ble_eq_true rfl) (jrv_of oh3 k10 (by decide) rfl (by decide) rfl _) rfl (mj_Ok.up (Nat.add_le_add_left (by decide) D) (jc_86 (D := D) ty hg oh3 k10 jy1)) rfl rfl (fun v11 h12 qv11 oh12 => ?_)
      obtain rfl : v11 = none := qv11
      refine mj_T.eq (pc2 := 46) (st2 := []) ?_ rfl rfl rfl rfl
      iterate 2 refine mj_T.pl rfl rfl rfl rfl ?_
      refine jT.getR 11 113 13 ty oh12 rfl kp0 (by decide) rfl rfl rfl (fun k13 => ?_)
      refine mj_T.pl rfl rfl rfl rfl ?_
      refine jT.getR 11 118 18 ty oh12 rfl kp0 (by decide) rfl rfl rfl (fun k14 => ?_)
      refine mj_T.pl rfl rfl rfl rfl ?_
      refine jT.call rfl rfl (Nat.le_of_ble_eq_true rfl) (Nat.le_of_ble_eq_true rfl) (jrv_of oh12 kp0 (by decide) rfl (by decide) rfl _) rfl (mj_Ok.up (Nat.add_le_add_left (by decide) D) (jc_20 (D := D) ty hg oh12 kp0 k13 k14 ⟨by decide, by decide⟩)) rfl rfl (fun v15 h16 qv15 oh16 => ?_)
      obtain rfl : v15 = none := qv15
      refine mj_T.eq (pc2 := 59) (st2 := []) ?_ rfl rfl rfl rfl
      refine mj_T.pl rfl rfl rfl rfl ?_
      exact jT.ret oh16 rfl rfl rfl ⟨y1, jy1, rfl⟩
    · have c14 := of_decide_eq_false c14
      iterate 2 refine mj_T.pl rfl rfl rfl rfl ?_
      refine jT.getR 11 113 13 ty oh3 rfl kp0 (by decide) rfl rfl rfl (fun k17 => ?_)
      refine mj_T.pl rfl rfl rfl rfl ?_
      refine jT.callp rfl rfl (Nat.le_of_ble_eq_true rfl) (Nat.le_of_ble_eq_true rfl) (jrv_of oh3 k17 (by decide) rfl (by decide) rfl _) rfl (mj_Ok.up (Nat.add_le_add_left (by decide) D) (jc_36 (D := D) ty hg oh3 k17 rx2)) rfl rfl (fun v18 qv18 => ?_)
      obtain ⟨a19, ka19, rfl⟩ := qv18
      refine mj_T.eq (pc2 := 27) (st2 := [.ref a19, .ref p0]) ?_ rfl rfl rfl rfl
      refine mj_T.pl rfl rfl rfl rfl ?_
      refine jT.call rfl rfl (Nat.le_of_ble_eq_true rfl) (Nat.le_of_ble_eq_true rfl) (jrv_of oh3 kp0 (by decide) rfl (by decide) rfl _) rfl (mj_Ok.up (Nat.add_le_add_left (by decide) D) (jc_23 (D := D) ty hg oh3 kp0 ka19 jy1)) rfl rfl (fun v20 h21 qv20 oh21 => ?_)
      obtain ⟨z22, jz22, rfl⟩ := qv20
      refine mj_T.eq (pc2 := 31) (st2 := [.long (jl z22)]) ?_ rfl rfl rfl rfl
      refine mj_T.pl (loc' := [some (.ref p0), some (.long (jl p1)), none, some (.long (jl z22)), none, some (.int (jn x2))]) rfl rfl rfl rfl ?_
      refine jT.iinc rfl rfl (fun z23 rz23 ez23 => ?_)
      replace ez23 := ez23 ⟨by omega, by omega⟩
      refine mj_T.eq (loc2 := [some (.ref p0), some (.long (jl p1)), none, some (.long (jl z22)), none, some (.int (jn z23))]) ?_ rfl rfl rfl rfl
      refine mj_T.pl rfl rfl rfl rfl ?_
      exact ih6 ((2147483647 - z23 : Int).toNat) (by omega) z22 z23 h21 jz22 rz23 oh21 (by omega) rfl
  exact t5_4 _ p1 0 h jp1 ⟨by decide, by decide⟩ o (by omega) rfl
-- PolyRegisters$Desk.enlarge(LPolyRegisters$Wide;J)V
theorem jc_24 {D n : Nat} {tm : Int} {h g : mj_H} {K L : Nat → Nat} {R : Nat → Nat → Nat} {p0 : Nat} {p1 : Nat} {p2 : Int} (ty : jTY K L R) (hg : g.length ≤ n) (o : jO K L R g n tm h) (kp0 : K p0 = 11) (kp1 : K p1 = 18) (jp2 : jR p2) : mj_Ok (D + 2) 24 [.ref p0, .ref p1, .long (jl p2)] h (jQ K L R g n tm [] jV0) := by
  refine mj_Ok.of (M := mj_m24) (loc := [some (.ref p0), some (.ref p1), some (.long (jl p2)), none]) rfl rfl rfl ?_
  refine mj_T.pl rfl rfl rfl rfl ?_
  refine jT.getR 11 118 18 ty o rfl kp0 (by decide) rfl rfl rfl (fun k1 => ?_)
  refine mj_T.pl rfl rfl rfl rfl ?_
  refine jT.call rfl rfl (Nat.le_of_ble_eq_true rfl) (Nat.le_of_ble_eq_true rfl) (jrv_of o k1 (by decide) rfl (by decide) rfl _) rfl (mj_Ok.up (Nat.add_le_add_left (by decide) D) (jc_86 (D := D) ty hg o k1 jp2)) rfl rfl (fun v2 h3 qv2 oh3 => ?_)
  obtain rfl : v2 = none := qv2
  refine mj_T.eq (pc2 := 8) (st2 := []) ?_ rfl rfl rfl rfl
  refine mj_T.pl rfl rfl rfl rfl ?_
  refine jT.getR 11 118 18 ty oh3 rfl kp0 (by decide) rfl rfl rfl (fun k4 => ?_)
  iterate 2 refine mj_T.pl rfl rfl rfl rfl ?_
  refine jT.getR 11 118 18 ty oh3 rfl kp0 (by decide) rfl rfl rfl (fun k5 => ?_)
  refine jT.call rfl rfl (Nat.le_of_ble_eq_true rfl) (Nat.le_of_ble_eq_true rfl) (jrv_of oh3 k4 (by decide) rfl (by decide) rfl _) rfl (mj_Ok.up (Nat.add_le_add_left (by decide) D) (jc_95 (D := D) ty hg oh3 k4 kp1 k5)) rfl rfl (fun v6 h7 qv6 oh7 => ?_)
  obtain rfl : v6 = none := qv6
  refine mj_T.eq (pc2 := 20) (st2 := []) ?_ rfl rfl rfl rfl
  iterate 2 refine mj_T.pl rfl rfl rfl rfl ?_
  refine jT.getR 11 118 18 ty oh7 rfl kp0 (by decide) rfl rfl rfl (fun k8 => ?_)
  refine jT.call rfl rfl (Nat.le_of_ble_eq_true rfl) (Nat.le_of_ble_eq_true rfl) (jrv_of oh7 kp1 (by decide) rfl (by decide) rfl _) rfl (mj_Ok.up (Nat.add_le_add_left (by decide) D) (jc_87 (D := D) ty hg oh7 kp1 k8)) rfl rfl (fun v9 h10 qv9 oh10 => ?_)
  obtain rfl : v9 = none := qv9
  refine mj_T.eq (pc2 := 28) (st2 := []) ?_ rfl rfl rfl rfl
  exact jT.ret oh10 rfl rfl rfl rfl
-- PolyRegisters$Desk.lessen(LPolyRegisters$Wide;J)V
theorem jc_25 {D n : Nat} {tm : Int} {h g : mj_H} {K L : Nat → Nat} {R : Nat → Nat → Nat} {p0 : Nat} {p1 : Nat} {p2 : Int} (ty : jTY K L R) (hg : g.length ≤ n) (o : jO K L R g n tm h) (kp0 : K p0 = 11) (kp1 : K p1 = 18) (jp2 : jR p2) : mj_Ok (D + 3) 25 [.ref p0, .ref p1, .long (jl p2)] h (jQ K L R g n tm [] jV0) := by
  refine mj_Ok.of (M := mj_m25) (loc := [some (.ref p0), some (.ref p1), some (.long (jl p2)), none]) rfl rfl rfl ?_
  refine mj_T.pl rfl rfl rfl rfl ?_
  refine jT.getR 11 118 18 ty o rfl kp0 (by decide) rfl rfl rfl (fun k1 => ?_)
  refine mj_T.pl rfl rfl rfl rfl ?_
  refine jT.call rfl rfl (Nat.le_of_ble_eq_true rfl) (Nat.le_of_ble_eq_true rfl) (jrv_of o k1 (by decide) rfl (by decide) rfl _) rfl (mj_Ok.up (Nat.add_le_add_left (by decide) D) (jc_86 (D := D) ty hg o k1 jp2)) rfl rfl (fun v2 h3 qv2 oh3 => ?_)
  obtain rfl : v2 = none := qv2
  refine mj_T.eq (pc2 := 8) (st2 := []) ?_ rfl rfl rfl rfl
  refine mj_T.pl rfl rfl rfl rfl ?_
  refine jT.getR 11 112 12 ty oh3 rfl kp0 (by decide) rfl rfl rfl (fun k4 => ?_)
  refine mj_T.pl rfl rfl rfl rfl ?_
  refine jT.getR 11 118 18 ty oh3 rfl kp0 (by decide) rfl rfl rfl (fun k5 => ?_)
  refine jT.call rfl rfl (Nat.le_of_ble_eq_true rfl) (Nat.le_of_ble_eq_true rfl) (jrv_of oh3 k4 (by decide) rfl (by decide) rfl _) rfl (mj_Ok.up (Nat.add_le_add_left (by decide) D) (jc_30 (D := D) ty hg oh3 k4 k5)) rfl rfl (fun v6 h7 qv6 oh7 => ?_)
  obtain rfl : v6 = none := qv6
  refine mj_T.eq (pc2 := 19) (st2 := []) ?_ rfl rfl rfl rfl
  refine mj_T.pl rfl rfl rfl rfl ?_
  refine jT.getR 11 112 12 ty oh7 rfl kp0 (by decide) rfl rfl rfl (fun k8 => ?_)
  iterate 2 refine mj_T.pl rfl rfl rfl rfl ?_
  refine jT.getR 11 118 18 ty oh7 rfl kp0 (by decide) rfl rfl rfl (fun k9 => ?_)
  refine jT.call rfl rfl (Nat.le_of_ble_eq_true rfl) (Nat.le_of_ble_eq_true rfl) (jrv_of oh7 k8 (by decide) rfl (by decide) rfl _) rfl (mj_Ok.up (Nat.add_le_add_left (by decide) D) (jc_31 (D := D) ty hg oh7 k8 kp1 k9)) rfl rfl (fun v10 h11 qv10 oh11 => ?_)
  obtain rfl : v10 = none := qv10
  refine mj_T.eq (pc2 := 31) (st2 := []) ?_ rfl rfl rfl rfl
  iterate 2 refine mj_T.pl rfl rfl rfl rfl ?_
  refine jT.getR 11 118 18 ty oh11 rfl kp0 (by decide) rfl rfl rfl (fun k12 => ?_)
  refine jT.call rfl rfl (Nat.le_of_ble_eq_true rfl) (Nat.le_of_ble_eq_true rfl) (jrv_of oh11 kp1 (by decide) rfl (by decide) rfl _) rfl (mj_Ok.up (Nat.add_le_add_left (by decide) D) (jc_87 (D := D) ty hg oh11 kp1 k12)) rfl rfl (fun v13 h14 qv13 oh14 => ?_)
  obtain rfl : v13 = none := qv13
  refine mj_T.eq (pc2 := 39) (st2 := []) ?_ rfl rfl rfl rfl
  exact jT.ret oh14 rfl rfl rfl rfl
-- PolyRegisters$Desk.stretch(LPolyRegisters$Poly;J)V
theorem jc_26 {D n : Nat} {tm : Int} {h g : mj_H} {K L : Nat → Nat} {R : Nat → Nat → Nat} {p0 : Nat} {p1 : Nat} {p2 : Int} (ty : jTY K L R) (hg : g.length ≤ n) (o : jO K L R g n tm h) (kp0 : K p0 = 11) (kp1 : K p1 = 13) (jp2 : jR p2) : mj_Ok (D + 2) 26 [.ref p0, .ref p1, .long (jl p2)] h (jQ K L R g n tm [] jV0) := by
  refine mj_Ok.of (M := mj_m26) (loc := [some (.ref p0), some (.ref p1), some (.long (jl p2)), none, none]) rfl rfl rfl ?_
  refine mj_T.pl rfl rfl rfl rfl ?_
  refine jT.getR 11 118 18 ty o rfl kp0 (by decide) rfl rfl rfl (fun k1 => ?_)
  refine jT.lc 1 rfl rfl ?_
  refine jT.call rfl rfl (Nat.le_of_ble_eq_true rfl) (Nat.le_of_ble_eq_true rfl) (jrv_of o k1 (by decide) rfl (by decide) rfl _) rfl (mj_Ok.up (Nat.add_le_add_left (by decide) D) (jc_86 (D := D) ty hg o k1 ⟨by decide, by decide⟩)) rfl rfl (fun v2 h3 qv2 oh3 => ?_)
  obtain rfl : v2 = none := qv2
  refine mj_T.eq (pc2 := 8) (st2 := []) ?_ rfl rfl rfl rfl
  refine mj_T.pl rfl rfl rfl rfl ?_
  refine jT.getI 13 6 oh3 rfl kp1 (by decide) rfl rfl rfl (fun z4 (az4 : (-1) ≤ z4) (bz4 : z4 ≤ 30) fz4 => ?_)
  have rz4 : -2147483648 ≤ z4 ∧ z4 ≤ 2147483647 := ⟨by omega, by omega⟩
  refine mj_T.pl rfl rfl rfl rfl ?_
  refine jT.isub rfl (fun z5 rz5 ez5 => ?_)
  replace ez5 := ez5 ⟨by omega, by omega⟩
  refine mj_T.pl (loc' := [some (.ref p0), some (.ref p1), some (.long (jl p2)), none, some (.int (jn z5))]) rfl rfl rfl rfl ?_
  have t16_8 : ∀ (k9 : Nat) (x6 : Int) (h7 : mj_H), (-2147483648 ≤ x6 ∧ x6 ≤ 2147483647) → (jO K L R g n tm h7) → (x6 ≤ z5) → (x6 + 1 : Int).toNat = k9 → mj_T (D + 1) mj_m26 16 [some (.ref p0), some (.ref p1), some (.long (jl p2)), none, some (.int (jn x6))] [] h7 (jQ K L R g n tm [] jV0) := by
    refine jInd (fun k9 ih10 => ?_)
    intro x6 h7 rx6 oh7 ix6 hm11
    refine mj_T.pl rfl rfl rfl rfl ?_
    refine jT.if0 rfl rx6 (fun c18 => ?_) (fun c18 => ?_)
    · have c18 := of_decide_eq_true c18
      exact jT.ret oh7 rfl rfl rfl rfl
    · have c18 := of_decide_eq_false c18
      refine mj_T.pl rfl rfl rfl rfl ?_
      refine jT.lc 1 rfl rfl ?_
      refine mj_T.lif rfl rfl jp2 ⟨by decide, by decide⟩ (fun c23 => ?_) (fun c23 => ?_)
      · have c23 := of_decide_eq_true c23
        exact jT.ret oh7 rfl rfl rfl rfl
      · have c23 := of_decide_eq_false c23
        refine mj_T.pl rfl rfl rfl rfl ?_
        refine jT.getR 11 118 18 ty oh7 rfl kp0 (by decide) rfl rfl rfl (fun k12 => ?_)
        refine mj_T.pl rfl rfl rfl rfl ?_
        refine jT.call rfl rfl (Nat.le_of_ble_eq_true rfl) (Nat.le_of_ble_eq_true rfl) (jrv_of oh7 k12 (by decide) rfl (by decide) rfl _) rfl (mj_Ok.up (Nat.add_le_add_left (by decide) D) (jc_86 (D := D) ty hg oh7 k12 jp2)) rfl rfl (fun v13 h14 qv13 oh14 => ?_)
        obtain rfl : v13 = none := qv13
        refine mj_T.eq (pc2 := 35) (st2 := []) ?_ rfl rfl rfl rfl
        refine mj_T.pl rfl rfl rfl rfl ?_
        refine jT.getR 11 118 18 ty oh14 rfl kp0 (by decide) rfl rfl rfl (fun k15 => ?_)
        refine mj_T.pl rfl rfl rfl rfl ?_
        refine jT.getR 11 118 18 ty oh14 rfl kp0 (by decide) rfl rfl rfl (fun k16 => ?_)
        refine mj_T.pl rfl rfl rfl rfl ?_
        refine jT.getR 11 118 18 ty oh14 rfl kp0 (by decide) rfl rfl rfl (fun k17 => ?_)
        refine jT.call rfl rfl (Nat.le_of_ble_eq_true rfl) (Nat.le_of_ble_eq_true rfl) (jrv_of oh14 k15 (by decide) rfl (by decide) rfl _) rfl (mj_Ok.up (Nat.add_le_add_left (by decide) D) (jc_95 (D := D) ty hg oh14 k15 k16 k17)) rfl rfl (fun v18 h19 qv18 oh19 => ?_)
        obtain rfl : v18 = none := qv18
        refine mj_T.eq (pc2 := 50) (st2 := []) ?_ rfl rfl rfl rfl
        refine mj_T.pl rfl rfl rfl rfl ?_
        refine jT.getR 11 118 18 ty oh19 rfl kp0 (by decide) rfl rfl rfl (fun k20 => ?_)
        refine mj_T.pl rfl rfl rfl rfl ?_
        refine jT.getR 11 118 18 ty oh19 rfl kp0 (by decide) rfl rfl rfl (fun k21 => ?_)
        refine jT.call rfl rfl (Nat.le_of_ble_eq_true rfl) (Nat.le_of_ble_eq_true rfl) (jrv_of oh19 k20 (by decide) rfl (by decide) rfl _) rfl (mj_Ok.up (Nat.add_le_add_left (by decide) D) (jc_87 (D := D) ty hg oh19 k20 k21)) rfl rfl (fun v22 h23 qv22 oh23 => ?_)
        obtain rfl : v22 = none := qv22
        refine mj_T.eq (pc2 := 61) (st2 := []) ?_ rfl rfl rfl rfl
        refine mj_T.pl rfl rfl rfl rfl ?_
        refine jT.getR 11 118 18 ty oh23 rfl kp0 (by decide) rfl rfl rfl (fun k24 => ?_)
        iterate 2 refine mj_T.pl rfl rfl rfl rfl ?_
        refine jT.callp rfl rfl (Nat.le_of_ble_eq_true rfl) (Nat.le_of_ble_eq_true rfl) (jrv_of oh23 kp1 (by decide) rfl (by decide) rfl _) rfl (mj_Ok.up (Nat.add_le_add_left (by decide) D) (jc_36 (D := D) ty hg oh23 kp1 rx6)) rfl rfl (fun v25 qv25 => ?_)
        obtain ⟨a26, ka26, rfl⟩ := qv25
        refine mj_T.eq (pc2 := 71) (st2 := [.ref a26, .ref (R p0 4)]) ?_ rfl rfl rfl rfl
        refine mj_T.pl rfl rfl rfl rfl ?_
        refine jT.getR 11 118 18 ty oh23 rfl kp0 (by decide) rfl rfl rfl (fun k27 => ?_)
        refine jT.call rfl rfl (Nat.le_of_ble_eq_true rfl) (Nat.le_of_ble_eq_true rfl) (jrv_of oh23 k24 (by decide) rfl (by decide) rfl _) rfl (mj_Ok.up (Nat.add_le_add_left (by decide) D) (jc_95 (D := D) ty hg oh23 k24 ka26 k27)) rfl rfl (fun v28 h29 qv28 oh29 => ?_)
        obtain rfl : v28 = none := qv28
        refine mj_T.eq (pc2 := 78) (st2 := []) ?_ rfl rfl rfl rfl
        iterate 2 refine mj_T.pl rfl rfl rfl rfl ?_
        refine jT.callp rfl rfl (Nat.le_of_ble_eq_true rfl) (Nat.le_of_ble_eq_true rfl) (jrv_of oh29 kp1 (by decide) rfl (by decide) rfl _) rfl (mj_Ok.up (Nat.add_le_add_left (by decide) D) (jc_36 (D := D) ty hg oh29 kp1 rx6)) rfl rfl (fun v30 qv30 => ?_)
        obtain ⟨a31, ka31, rfl⟩ := qv30
        refine mj_T.eq (pc2 := 84) (st2 := [.ref a31]) ?_ rfl rfl rfl rfl
        refine mj_T.pl rfl rfl rfl rfl ?_
        refine jT.getR 11 118 18 ty oh29 rfl kp0 (by decide) rfl rfl rfl (fun k32 => ?_)
        refine jT.call rfl rfl (Nat.le_of_ble_eq_true rfl) (Nat.le_of_ble_eq_true rfl) (jrv_of oh29 ka31 (by decide) rfl (by decide) rfl _) rfl (mj_Ok.up (Nat.add_le_add_left (by decide) D) (jc_87 (D := D) ty hg oh29 ka31 k32)) rfl rfl (fun v33 h34 qv33 oh34 => ?_)
        obtain rfl : v33 = none := qv33
        refine mj_T.eq (pc2 := 91) (st2 := []) ?_ rfl rfl rfl rfl
        refine jT.iinc rfl rfl (fun z35 rz35 ez35 => ?_)
        replace ez35 := ez35 ⟨by omega, by omega⟩
        refine mj_T.eq (loc2 := [some (.ref p0), some (.ref p1), some (.long (jl p2)), none, some (.int (jn z35))]) ?_ rfl rfl rfl rfl
        refine mj_T.pl rfl rfl rfl rfl ?_
        exact ih10 ((z35 + 1 : Int).toNat) (by omega) z35 h34 rz35 oh34 (by omega) rfl
  exact t16_8 _ z5 h3 rz5 oh3 (by omega) rfl
-- PolyRegisters$Desk.valueAt(LPolyRegisters$Poly;LPolyRegisters$Wide;)I
theorem jc_28 {D n : Nat} {tm : Int} {h g : mj_H} {K L : Nat → Nat} {R : Nat → Nat → Nat} {p0 : Nat} {p1 : Nat} {p2 : Nat} (ty : jTY K L R) (hg : g.length ≤ n) (o : jO K L R g n tm h) (kp0 : K p0 = 11) (kp1 : K p1 = 13) (kp2 : K p2 = 18) : mj_Ok (D + 3) 28 [.ref p0, .ref p1, .ref p2] h (jQ K L R g n tm [] (jVi (-2147483648) 2147483647)) := by
  refine mj_Ok.of (M := mj_m28) (loc := [some (.ref p0), some (.ref p1), some (.ref p2), none]) rfl rfl rfl ?_
  refine mj_T.pl rfl rfl rfl rfl ?_
  refine jT.getR 11 118 18 ty o rfl kp0 (by decide) rfl rfl rfl (fun k1 => ?_)
  refine jT.lc 0 rfl rfl ?_
  refine jT.call rfl rfl (Nat.le_of_ble_eq_true rfl) (Nat.le_of_ble_eq_true rfl) (jrv_of o k1 (by decide) rfl (by decide) rfl _) rfl (mj_Ok.up (Nat.add_le_add_left (by decide) D) (jc_86 (D := D) ty hg o k1 ⟨by decide, by decide⟩)) rfl rfl (fun v2 h3 qv2 oh3 => ?_)
  obtain rfl : v2 = none := qv2
  refine mj_T.eq (pc2 := 8) (st2 := []) ?_ rfl rfl rfl rfl
  refine mj_T.pl rfl rfl rfl rfl ?_
  refine jT.getI 13 6 oh3 rfl kp1 (by decide) rfl rfl rfl (fun z4 (az4 : (-1) ≤ z4) (bz4 : z4 ≤ 30) fz4 => ?_)
  have rz4 : -2147483648 ≤ z4 ∧ z4 ≤ 2147483647 := ⟨by omega, by omega⟩
  refine mj_T.pl (loc' := [some (.ref p0), some (.ref p1), some (.ref p2), some (.int (jn z4))]) rfl rfl rfl rfl ?_
  have t13_7 : ∀ (k8 : Nat) (x5 : Int) (h6 : mj_H), (-2147483648 ≤ x5 ∧ x5 ≤ 2147483647) → (jO K L R g n tm h6) → (x5 ≤ z4) → (x5 + 1 : Int).toNat = k8 → mj_T (D + 2) mj_m28 13 [some (.ref p0), some (.ref p1), some (.ref p2), some (.int (jn x5))] [] h6 (jQ K L R g n tm [] (jVi (-2147483648) 2147483647)) := by
    refine jInd (fun k8 ih9 => ?_)
    intro x5 h6 rx5 oh6 ix5 hm10
    refine mj_T.pl rfl rfl rfl rfl ?_
    refine jT.if0 rfl rx5 (fun c14 => ?_) (fun c14 => ?_)
    · have c14 := of_decide_eq_true c14
      refine mj_T.pl rfl rfl rfl rfl ?_
      refine jT.getR 11 118 18 ty oh6 rfl kp0 (by decide) rfl rfl rfl (fun k11 => ?_)
      refine jT.getI 18 0 oh6 rfl k11 (by decide) rfl rfl rfl (fun z12 (az12 : (-2147483648) ≤ z12) (bz12 : z12 ≤ 2147483647) fz12 => ?_)
      have rz12 : -2147483648 ≤ z12 ∧ z12 ≤ 2147483647 := ⟨by omega, by omega⟩
      exact jT.ret oh6 rfl rfl rfl ⟨z12, by omega, by omega, rfl⟩
    · have c14 := of_decide_eq_false c14
      refine mj_T.pl rfl rfl rfl rfl ?_
      refine jT.getR 11 118 18 ty oh6 rfl kp0 (by decide) rfl rfl rfl (fun k13 => ?_)
      refine mj_T.pl rfl rfl rfl rfl ?_
      refine jT.getR 11 118 18 ty oh6 rfl kp0 (by decide) rfl rfl rfl (fun k14 => ?_)
      refine mj_T.pl rfl rfl rfl rfl ?_
      refine jT.call rfl rfl (Nat.le_of_ble_eq_true rfl) (Nat.le_of_ble_eq_true rfl) (jrv_of oh6 k13 (by decide) rfl (by decide) rfl _) rfl (mj_Ok.up (Nat.add_le_add_left (by decide) D) (jc_95 (D := D) ty hg oh6 k13 k14 kp2)) rfl rfl (fun v15 h16 qv15 oh16 => ?_)
      obtain rfl : v15 = none := qv15
      refine mj_T.eq (pc2 := 29) (st2 := []) ?_ rfl rfl rfl rfl
      refine mj_T.pl rfl rfl rfl rfl ?_
      refine jT.getR 11 118 18 ty oh16 rfl kp0 (by decide) rfl rfl rfl (fun k17 => ?_)
      iterate 2 refine mj_T.pl rfl rfl rfl rfl ?_
      refine jT.callp rfl rfl (Nat.le_of_ble_eq_true rfl) (Nat.le_of_ble_eq_true rfl) (jrv_of oh16 kp1 (by decide) rfl (by decide) rfl _) rfl (mj_Ok.up (Nat.add_le_add_left (by decide) D) (jc_36 (D := D) ty hg oh16 kp1 rx5)) rfl rfl (fun v18 qv18 => ?_)
      obtain ⟨a19, ka19, rfl⟩ := qv18
      refine mj_T.eq (pc2 := 38) (st2 := [.ref a19, .ref (R p0 5)]) ?_ rfl rfl rfl rfl
      refine mj_T.pl rfl rfl rfl rfl ?_
      refine jT.call rfl rfl (Nat.le_of_ble_eq_true rfl) (Nat.le_of_ble_eq_true rfl) (jrv_of oh16 k17 (by decide) rfl (by decide) rfl _) rfl (mj_Ok.up (Nat.add_le_add_left (by decide) D) (jc_91 (D := D) ty hg oh16 k17 ka19 ⟨by decide, by decide⟩)) rfl rfl (fun v20 h21 qv20 oh21 => ?_)
      obtain rfl : v20 = none := qv20
      refine mj_T.eq (pc2 := 42) (st2 := []) ?_ rfl rfl rfl rfl
      refine mj_T.pl rfl rfl rfl rfl ?_
      refine jT.getR 11 118 18 ty oh21 rfl kp0 (by decide) rfl rfl rfl (fun k22 => ?_)
      refine mj_T.pl rfl rfl rfl rfl ?_
      refine jT.getR 11 118 18 ty oh21 rfl kp0 (by decide) rfl rfl rfl (fun k23 => ?_)
      refine jT.call rfl rfl (Nat.le_of_ble_eq_true rfl) (Nat.le_of_ble_eq_true rfl) (jrv_of oh21 k22 (by decide) rfl (by decide) rfl _) rfl (mj_Ok.up (Nat.add_le_add_left (by decide) D) (jc_87 (D := D) ty hg oh21 k22 k23)) rfl rfl (fun v24 h25 qv24 oh25 => ?_)
      obtain rfl : v24 = none := qv24
      refine mj_T.eq (pc2 := 53) (st2 := []) ?_ rfl rfl rfl rfl
      refine jT.iinc rfl rfl (fun z26 rz26 ez26 => ?_)
      replace ez26 := ez26 ⟨by omega, by omega⟩
      refine mj_T.eq (loc2 := [some (.ref p0), some (.ref p1), some (.ref p2), some (.int (jn z26))]) ?_ rfl rfl rfl rfl
      refine mj_T.pl rfl rfl rfl rfl ?_
      exact ih9 ((z26 + 1 : Int).toNat) (by omega) z26 h25 rz26 oh25 (by omega) rfl
  exact t13_7 _ z4 h3 rz4 oh3 (by omega) rfl
-- PolyRegisters$Desk.valueAt([JII)I
theorem jc_27 {D n : Nat} {tm : Int} {h g : mj_H} {K L : Nat → Nat} {R : Nat → Nat → Nat} {p0 : Nat} {p1 : Nat} {p2 : Int} {p3 : Int} (ty : jTY K L R) (hg : g.length ≤ n) (o : jO K L R g n tm h) (kp0 : K p0 = 11) (kp1 : K p1 = 2) (rp2 : -2147483648 ≤ p2 ∧ p2 ≤ 2147483647) (rp3 : -2147483648 ≤ p3 ∧ p3 ≤ 2147483647) : mj_Ok (D + 4) 27 [.ref p0, .ref p1, .int (jn p2), .int (jn p3)] h (jQ K L R g n tm [] (jVi (-2147483648) 2147483647)) := by
  refine mj_Ok.of (M := mj_m27) (loc := [some (.ref p0), some (.ref p1), some (.int (jn p2)), some (.int (jn p3))]) rfl rfl rfl ?_
  refine mj_T.pl rfl rfl rfl rfl ?_
  refine jT.getR 11 113 13 ty o rfl kp0 (by decide) rfl rfl rfl (fun k1 => ?_)
  refine mj_T.pl rfl rfl rfl rfl ?_
  refine jT.lc 1 rfl rfl ?_
  refine jT.call rfl rfl (Nat.le_of_ble_eq_true rfl) (Nat.le_of_ble_eq_true rfl) (jrv_of o k1 (by decide) rfl (by decide) rfl _) rfl (mj_Ok.up (Nat.add_le_add_left (by decide) D) (jc_40 (D := D) ty hg o k1 kp1 ⟨by decide, by decide⟩)) rfl rfl (fun v2 h3 qv2 oh3 => ?_)
  obtain rfl : v2 = none := qv2
  refine mj_T.eq (pc2 := 9) (st2 := []) ?_ rfl rfl rfl rfl
  iterate 2 refine mj_T.pl rfl rfl rfl rfl ?_
  refine jT.getR 11 113 13 ty oh3 rfl kp0 (by decide) rfl rfl rfl (fun k4 => ?_)
  refine mj_T.pl rfl rfl rfl rfl ?_
  refine jT.i2l rfl rp3 ?_
  have j5 : jR p3 := ⟨by omega, by omega⟩
  refine jT.call rfl rfl (Nat.le_of_ble_eq_true rfl) (Nat.le_of_ble_eq_true rfl) (jrv_of oh3 kp0 (by decide) rfl (by decide) rfl _) rfl (mj_Ok.up (Nat.add_le_add_left (by decide) D) (jc_26 (D := D) ty hg oh3 kp0 k4 j5)) rfl rfl (fun v6 h7 qv6 oh7 => ?_)
  obtain rfl : v6 = none := qv6
  refine mj_T.eq (pc2 := 19) (st2 := []) ?_ rfl rfl rfl rfl
  refine mj_T.pl rfl rfl rfl rfl ?_
  refine jT.getR 11 118 18 ty oh7 rfl kp0 (by decide) rfl rfl rfl (fun k8 => ?_)
  refine mj_T.pl rfl rfl rfl rfl ?_
  refine jT.i2l rfl rp2 ?_
  have j9 : jR p2 := ⟨by omega, by omega⟩
  refine jT.call rfl rfl (Nat.le_of_ble_eq_true rfl) (Nat.le_of_ble_eq_true rfl) (jrv_of oh7 k8 (by decide) rfl (by decide) rfl _) rfl (mj_Ok.up (Nat.add_le_add_left (by decide) D) (jc_86 (D := D) ty hg oh7 k8 j9)) rfl rfl (fun v10 h11 qv10 oh11 => ?_)
  obtain rfl : v10 = none := qv10
  refine mj_T.eq (pc2 := 28) (st2 := []) ?_ rfl rfl rfl rfl
  iterate 2 refine mj_T.pl rfl rfl rfl rfl ?_
  refine jT.getR 11 113 13 ty oh11 rfl kp0 (by decide) rfl rfl rfl (fun k12 => ?_)
  refine mj_T.pl rfl rfl rfl rfl ?_
  refine jT.getR 11 118 18 ty oh11 rfl kp0 (by decide) rfl rfl rfl (fun k13 => ?_)
  refine jT.call rfl rfl (Nat.le_of_ble_eq_true rfl) (Nat.le_of_ble_eq_true rfl) (jrv_of oh11 kp0 (by decide) rfl (by decide) rfl _) rfl (mj_Ok.up (Nat.add_le_add_left (by decide) D) (jc_28 (D := D) ty hg oh11 kp0 k12 k13)) rfl rfl (fun v14 h15 qv14 oh15 => ?_)
  obtain ⟨z16, az16, bz16, rfl⟩ := qv14
  have rz16 : -2147483648 ≤ z16 ∧ z16 ≤ 2147483647 := ⟨by omega, by omega⟩
  refine mj_T.eq (pc2 := 40) (st2 := [.int (jn z16)]) ?_ rfl rfl rfl rfl
  exact jT.ret oh15 rfl rfl rfl ⟨z16, by omega, by omega, rfl⟩
