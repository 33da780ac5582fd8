/-! The class by kinds: its methods. -/
-- PolyRegisters$Bench.placeAt(I)I
theorem jc_5 {D n : Nat} {tm : Int} {h g : mj_H} {K L : Nat → Nat} {R : Nat → Nat → Nat} {p0 : Nat} {p1 : Int} (ty : jTY K L R) (hg : g.length ≤ n) (o : jO K L R g n tm h) (kp0 : K p0 = 10) (rp1 : -2147483648 ≤ p1 ∧ p1 ≤ 2147483647) : mj_Ok (D + 1) 5 [.ref p0, .int (jn p1)] h (jQp K L R g n tm h [] (jVi (-2147483648) 2147483647)) := by
  refine mj_Ok.of (M := mj_m5) (loc := [some (.ref p0), some (.int (jn p1))]) rfl rfl rfl ?_
  refine mj_T.pl rfl rfl rfl rfl ?_
  refine jT.if0 rfl rp1 (fun c1 => ?_) (fun c1 => ?_)
  · have c1 := of_decide_eq_true c1
    refine mj_T.pl rfl rfl rfl rfl ?_
    exact jT.retp rfl rfl rfl ⟨0, by omega, by omega, rfl⟩
  · have c1 := of_decide_eq_false c1
    iterate 2 refine mj_T.pl rfl rfl rfl rfl ?_
    refine jT.getR 10 101 1 ty o rfl kp0 (by decide) rfl rfl rfl (fun k1 => ?_)
    refine jT.alen 1 ty o rfl k1 (by decide) (by decide) (fun z2 ez2 (az2 : 0 ≤ z2) (bz2 : z2 ≤ 1000) => ?_)
    have rz2 : -2147483648 ≤ z2 ∧ z2 ≤ 2147483647 := ⟨by omega, by omega⟩
    refine jT.icmp rfl rp1 rz2 (fun c10 => ?_) (fun c10 => ?_)
    · have c10 := of_decide_eq_true c10
      refine mj_T.pl rfl rfl rfl rfl ?_
      exact jT.retp rfl rfl rfl ⟨0, by omega, by omega, rfl⟩
    · have c10 := of_decide_eq_false c10
      refine mj_T.pl rfl rfl rfl rfl ?_
      refine jT.getR 10 101 1 ty o rfl kp0 (by decide) rfl rfl rfl (fun k3 => ?_)
      refine mj_T.pl rfl rfl rfl rfl ?_
      refine jT.iald o rfl k3 rp1 ⟨by omega, by omega⟩ (fun z4 rz4 fz4 => ?_)
      refine mj_T.pl rfl rfl rfl rfl ?_
      exact jT.retp rfl rfl rfl ⟨z4, by omega, by omega, rfl⟩
-- PolyRegisters$Bench.heightAt(I)I
theorem jc_6 {D n : Nat} {tm : Int} {h g : mj_H} {K L : Nat → Nat} {R : Nat → Nat → Nat} {p0 : Nat} {p1 : Int} (ty : jTY K L R) (hg : g.length ≤ n) (o : jO K L R g n tm h) (kp0 : K p0 = 10) (rp1 : -2147483648 ≤ p1 ∧ p1 ≤ 2147483647) : mj_Ok (D + 1) 6 [.ref p0, .int (jn p1)] h (jQp K L R g n tm h [] (jVi (-2147483648) 2147483647)) := by
  refine mj_Ok.of (M := mj_m6) (loc := [some (.ref p0), some (.int (jn p1))]) rfl rfl rfl ?_
  refine mj_T.pl rfl rfl rfl rfl ?_
  refine jT.if0 rfl rp1 (fun c1 => ?_) (fun c1 => ?_)
  · have c1 := of_decide_eq_true c1
    refine mj_T.pl rfl rfl rfl rfl ?_
    exact jT.retp rfl rfl rfl ⟨0, by omega, by omega, rfl⟩
  · have c1 := of_decide_eq_false c1
    iterate 2 refine mj_T.pl rfl rfl rfl rfl ?_
    refine jT.getR 10 101 1 ty o rfl kp0 (by decide) rfl rfl rfl (fun k1 => ?_)
    refine jT.alen 1 ty o rfl k1 (by decide) (by decide) (fun z2 ez2 (az2 : 0 ≤ z2) (bz2 : z2 ≤ 1000) => ?_)
    have rz2 : -2147483648 ≤ z2 ∧ z2 ≤ 2147483647 := ⟨by omega, by omega⟩
    refine jT.icmp rfl rp1 rz2 (fun c10 => ?_) (fun c10 => ?_)
    · have c10 := of_decide_eq_true c10
      refine mj_T.pl rfl rfl rfl rfl ?_
      exact jT.retp rfl rfl rfl ⟨0, by omega, by omega, rfl⟩
    · have c10 := of_decide_eq_false c10
      refine mj_T.pl rfl rfl rfl rfl ?_
      refine jT.getR 10 101 1 ty o rfl kp0 (by decide) rfl rfl rfl (fun k3 => ?_)
      refine mj_T.pl rfl rfl rfl rfl ?_
      refine jT.iald o rfl k3 rp1 ⟨by omega, by omega⟩ (fun z4 rz4 fz4 => ?_)
      refine mj_T.pl rfl rfl rfl rfl ?_
      exact jT.retp rfl rfl rfl ⟨z4, by omega, by omega, rfl⟩
-- PolyRegisters$Bench.putPoint(II)V
theorem jc_3 {D n : Nat} {tm : Int} {h g : mj_H} {K L : Nat → Nat} {R : Nat → Nat → Nat} {p0 : Nat} {p1 : Int} {p2 : Int} (ty : jTY K L R) (hg : g.length ≤ n) (o : jO K L R g n tm h) (kp0 : K p0 = 10) (rp1 : -2147483648 ≤ p1 ∧ p1 ≤ 2147483647) (rp2 : -2147483648 ≤ p2 ∧ p2 ≤ 2147483647) : mj_Ok (D + 1) 3 [.ref p0, .int (jn p1), .int (jn p2)] h (jQ K L R g n tm [] jV0) := by
  refine mj_Ok.of (M := mj_m3) (loc := [some (.ref p0), some (.int (jn p1)), some (.int (jn p2))]) rfl rfl rfl ?_
  refine mj_T.pl rfl rfl rfl rfl ?_
  refine jT.getI 10 9 o rfl kp0 (by decide) rfl rfl rfl (fun z1 (az1 : 0 ≤ z1) (bz1 : z1 ≤ 2147483647) fz1 => ?_)
  have rz1 : -2147483648 ≤ z1 ∧ z1 ≤ 2147483647 := ⟨by omega, by omega⟩
  refine mj_T.pl rfl rfl rfl rfl ?_
  refine jT.getR 10 101 1 ty o rfl kp0 (by decide) rfl rfl rfl (fun k2 => ?_)
  refine jT.alen 1 ty o rfl k2 (by decide) (by decide) (fun z3 ez3 (az3 : 0 ≤ z3) (bz3 : z3 ≤ 1000) => ?_)
  have rz3 : -2147483648 ≤ z3 ∧ z3 ≤ 2147483647 := ⟨by omega, by omega⟩
  refine jT.icmp rfl rz1 rz3 (fun c9 => ?_) (fun c9 => ?_)
  · have c9 := of_decide_eq_true c9
    exact jT.ret o rfl rfl rfl rfl
  · have c9 := of_decide_eq_false c9
    refine mj_T.pl rfl rfl rfl rfl ?_
    refine jT.getK 10 9 o rfl kp0 (by decide) rfl rfl rfl fz1.symm ?_
    refine mj_T.pl rfl rfl rfl rfl ?_
    refine jT.getR 10 101 1 ty o rfl kp0 (by decide) rfl rfl rfl (fun k4 => ?_)
    refine jT.alen 1 ty o rfl k4 (by decide) (by decide) (fun z5 ez5 (az5 : 0 ≤ z5) (bz5 : z5 ≤ 1000) => ?_)
    have rz5 : -2147483648 ≤ z5 ∧ z5 ≤ 2147483647 := ⟨by omega, by omega⟩
    refine jT.icmp rfl rz1 rz5 (fun c21 => ?_) (fun c21 => ?_)
    · have c21 := of_decide_eq_true c21
      exact jT.ret o rfl rfl rfl rfl
    · have c21 := of_decide_eq_false c21
      refine mj_T.pl rfl rfl rfl rfl ?_
      refine jT.getR 10 101 1 ty o rfl kp0 (by decide) rfl rfl rfl (fun k6 => ?_)
      refine mj_T.pl rfl rfl rfl rfl ?_
      refine jT.getK 10 9 o rfl kp0 (by decide) rfl rfl rfl fz1.symm ?_
      refine mj_T.pl rfl rfl rfl rfl ?_
      refine jT.iast o rfl k6 rz1 ⟨by omega, by omega⟩ rp1 (fun h7 oh7 uh7 => ?_)
      refine mj_T.pl rfl rfl rfl rfl ?_
      refine jT.getR 10 101 1 ty oh7 rfl kp0 (by decide) rfl rfl rfl (fun k8 => ?_)
      refine mj_T.pl rfl rfl rfl rfl ?_
      refine jT.getK 10 9 oh7 rfl kp0 (by decide) rfl rfl rfl ((uh7 p0 3).trans fz1.symm) ?_
      refine mj_T.pl rfl rfl rfl rfl ?_
      refine jT.iast oh7 rfl k8 rz1 ⟨by omega, by omega⟩ rp2 (fun h9 oh9 uh9 => ?_)
      iterate 2 refine mj_T.pl rfl rfl rfl rfl ?_
      refine jT.getK 10 9 oh9 rfl kp0 (by decide) rfl rfl rfl ((uh9 p0 3).trans ((uh7 p0 3).trans fz1.symm)) ?_
      refine mj_T.pl rfl rfl rfl rfl ?_
      refine jT.iadd rfl (fun z10 rz10 ez10 => ?_)
      replace ez10 := ez10 ⟨by omega, by omega⟩
      refine jT.putI 10 9 oh9 rfl kp0 (by decide) rfl rfl rfl (Or.inl rfl) (by show 0 ≤ z10; omega) (by show z10 ≤ 2147483647; omega) (fun h11 oh11 wh11 uh11 => ?_)
      exact jT.ret oh11 rfl rfl rfl rfl
-- PolyRegisters$Bench.copy(LPolyRegisters$Bench;)V
theorem jc_2 {D n : Nat} {tm : Int} {h g : mj_H} {K L : Nat → Nat} {R : Nat → Nat → Nat} {p0 : Nat} {p1 : Nat} (ty : jTY K L R) (hg : g.length ≤ n) (o : jO K L R g n tm h) (kp0 : K p0 = 10) (kp1 : K p1 = 10) : mj_Ok (D + 2) 2 [.ref p0, .ref p1] h (jQ K L R g n tm [] jV0) := by
  refine mj_Ok.of (M := mj_m2) (loc := [some (.ref p0), some (.ref p1), none]) rfl rfl rfl ?_
  refine mj_T.pl rfl rfl rfl rfl ?_
  refine mj_T.pl (loc' := [some (.ref p0), some (.ref p1), some (.int (jn 0))]) rfl rfl rfl rfl ?_
  have t2_3 : ∀ (k4 : Nat) (x1 : Int) (h2 : mj_H), (-2147483648 ≤ x1 ∧ x1 ≤ 2147483647) → (jO K L R g n tm h2) → (0 ≤ x1) → (2147483647 - x1 : Int).toNat = k4 → mj_T (D + 1) mj_m2 2 [some (.ref p0), some (.ref p1), some (.int (jn x1))] [] h2 (jQ K L R g n tm [] jV0) := by
    refine jInd (fun k4 ih5 => ?_)
    intro x1 h2 rx1 oh2 ix1 hm6
    refine mj_T.pl rfl rfl rfl rfl ?_
    refine mj_T.pl rfl rfl rfl rfl ?_
    refine jT.getR 10 106 6 ty oh2 rfl kp0 (by decide) rfl rfl rfl (fun k7 => ?_)
    refine jT.alen 6 ty oh2 rfl k7 (by decide) (by decide) (fun z8 ez8 (az8 : 6 ≤ z8) (bz8 : z8 ≤ 9) => ?_)
    have rz8 : -2147483648 ≤ z8 ∧ z8 ≤ 2147483647 := ⟨by omega, by omega⟩
    refine jT.icmp rfl rx1 rz8 (fun c8 => ?_) (fun c8 => ?_)
    · have c8 := of_decide_eq_true c8
      iterate 2 refine mj_T.pl rfl rfl rfl rfl ?_
      refine jT.putI 10 9 oh2 rfl kp0 (by decide) rfl rfl rfl (Or.inl rfl) (by show 0 ≤ 0; omega) (by show 0 ≤ 2147483647; omega) (fun h9 oh9 wh9 uh9 => ?_)
      refine mj_T.pl rfl rfl rfl rfl ?_
      refine mj_T.pl (loc' := [some (.ref p0), some (.ref p1), some (.int (jn 0))]) rfl rfl rfl rfl ?_
      have t48_12 : ∀ (k13 : Nat) (x10 : Int) (h11 : mj_H), (-2147483648 ≤ x10 ∧ x10 ≤ 2147483647) → (jO K L R g n tm h11) → (0 ≤ x10) → (2147483647 - x10 : Int).toNat = k13 → mj_T (D + 1) mj_m2 48 [some (.ref p0), some (.ref p1), some (.int (jn x10))] [] h11 (jQ K L R g n tm [] jV0) := by
        refine jInd (fun k13 ih14 => ?_)
        intro x10 h11 rx10 oh11 ix10 hm15
        refine mj_T.pl rfl rfl rfl rfl ?_
        refine mj_T.pl rfl rfl rfl rfl ?_
        refine jT.getI 10 9 oh11 rfl kp1 (by decide) rfl rfl rfl (fun z16 (az16 : 0 ≤ z16) (bz16 : z16 ≤ 2147483647) fz16 => ?_)
        have rz16 : -2147483648 ≤ z16 ∧ z16 ≤ 2147483647 := ⟨by omega, by omega⟩
        refine jT.icmp rfl rx10 rz16 (fun c53 => ?_) (fun c53 => ?_)
        · have c53 := of_decide_eq_true c53
          exact jT.ret oh11 rfl rfl rfl rfl
        · have c53 := of_decide_eq_false c53
          iterate 3 refine mj_T.pl rfl rfl rfl rfl ?_
          refine jT.callp rfl rfl (Nat.le_of_ble_eq_true rfl) (Nat.le_of_ble_eq_true rfl) (jrv_of oh11 kp1 (by decide) rfl (by decide) rfl _) rfl (mj_Ok.up (Nat.add_le_add_left (by decide) D) (jc_5 (D := D) ty hg oh11 kp1 rx10)) rfl rfl (fun v17 qv17 => ?_)
          obtain ⟨z18, az18, bz18, rfl⟩ := qv17
          have rz18 : -2147483648 ≤ z18 ∧ z18 ≤ 2147483647 := ⟨by omega, by omega⟩
          refine mj_T.eq (pc2 := 62) (st2 := [.int (jn z18), .ref p0]) ?_ rfl rfl rfl rfl
          iterate 2 refine mj_T.pl rfl rfl rfl rfl ?_
          refine jT.callp rfl rfl (Nat.le_of_ble_eq_true rfl) (Nat.le_of_ble_eq_true rfl) (jrv_of oh11 kp1 (by decide) rfl (by decide) rfl _) rfl (mj_Ok.up (Nat.add_le_add_left (by decide) D) (jc_6 (D := D) ty hg oh11 kp1 rx10)) rfl rfl (fun v19 qv19 => ?_)
          obtain ⟨z20, az20, bz20, rfl⟩ := qv19
          have rz20 : -2147483648 ≤ z20 ∧ z20 ≤ 2147483647 := ⟨by omega, by omega⟩
          refine mj_T.eq (pc2 := 67) (st2 := [.int (jn z20), .int (jn z18), .ref p0]) ?_ rfl rfl rfl rfl
          refine jT.call rfl rfl (Nat.le_of_ble_eq_true rfl) (Nat.le_of_ble_eq_true rfl) (jrv_of oh11 kp0 (by decide) rfl (by decide) rfl _) rfl (mj_Ok.up (Nat.add_le_add_left (by decide) D) (jc_3 (D := D) ty hg oh11 kp0 rz18 rz20)) rfl rfl (fun v21 h22 qv21 oh22 => ?_)
          obtain rfl : v21 = none := qv21
          refine mj_T.eq (pc2 := 70) (st2 := []) ?_ rfl rfl rfl rfl
          refine jT.iinc rfl rfl (fun z23 rz23 ez23 => ?_)
          replace ez23 := ez23 ⟨by omega, by omega⟩
          refine mj_T.eq (loc2 := [some (.ref p0), some (.ref p1), some (.int (jn z23))]) ?_ rfl rfl rfl rfl
          refine mj_T.pl rfl rfl rfl rfl ?_
          exact ih14 ((2147483647 - z23 : Int).toNat) (by omega) z23 h22 rz23 oh22 (by omega) rfl
      exact t48_12 _ 0 h9 ⟨by decide, by decide⟩ oh9 (by omega) rfl
    · have c8 := of_decide_eq_false c8
      iterate 2 refine mj_T.pl rfl rfl rfl rfl ?_
      refine jT.getR 10 106 6 ty oh2 rfl kp1 (by decide) rfl rfl rfl (fun k24 => ?_)
      refine jT.alen 6 ty oh2 rfl k24 (by decide) (by decide) (fun z25 ez25 (az25 : 6 ≤ z25) (bz25 : z25 ≤ 9) => ?_)
      have rz25 : -2147483648 ≤ z25 ∧ z25 ≤ 2147483647 := ⟨by omega, by omega⟩
      refine jT.icmp rfl rx1 rz25 (fun c17 => ?_) (fun c17 => ?_)
      · have c17 := of_decide_eq_true c17
        iterate 2 refine mj_T.pl rfl rfl rfl rfl ?_
        refine jT.putI 10 9 oh2 rfl kp0 (by decide) rfl rfl rfl (Or.inl rfl) (by show 0 ≤ 0; omega) (by show 0 ≤ 2147483647; omega) (fun h26 oh26 wh26 uh26 => ?_)
        refine mj_T.pl rfl rfl rfl rfl ?_
        refine mj_T.pl (loc' := [some (.ref p0), some (.ref p1), some (.int (jn 0))]) rfl rfl rfl rfl ?_
        have t48_29 : ∀ (k30 : Nat) (x27 : Int) (h28 : mj_H), (-2147483648 ≤ x27 ∧ x27 ≤ 2147483647) → (jO K L R g n tm h28) → (0 ≤ x27) → (2147483647 - x27 : Int).toNat = k30 → mj_T (D + 1) mj_m2 48 [some (.ref p0), some (.ref p1), some (.int (jn x27))] [] h28 (jQ K L R g n tm [] jV0) := by
          refine jInd (fun k30 ih31 => ?_)
          intro x27 h28 rx27 oh28 ix27 hm32
          refine mj_T.pl rfl rfl rfl rfl ?_
          refine mj_T.pl rfl rfl rfl rfl ?_
          refine jT.getI 10 9 oh28 rfl kp1 (by decide) rfl rfl rfl (fun z33 (az33 : 0 ≤ z33) (bz33 : z33 ≤ 2147483647) fz33 => ?_)
          have rz33 : -2147483648 ≤ z33 ∧ z33 ≤ 2147483647 := ⟨by omega, by omega⟩
          refine jT.icmp rfl rx27 rz33 (fun c53 => ?_) (fun c53 => ?_)
          · have c53 := of_decide_eq_true c53
            exact jT.ret oh28 rfl rfl rfl rfl
          · have c53 := of_decide_eq_false c53
            iterate 3 refine mj_T.pl rfl rfl rfl rfl ?_
            refine jT.callp rfl rfl (Nat.le_of_ble_eq_true rfl) (Nat.le_of_ble_eq_true rfl) (jrv_of oh28 kp1 (by decide) rfl (by decide) rfl _) rfl (mj_Ok.up (Nat.add_le_add_left (by decide) D) (jc_5 (D := D) ty hg oh28 kp1 rx27)) rfl rfl (fun v34 qv34 => ?_)
            obtain ⟨z35, az35, bz35, rfl⟩ := qv34
            have rz35 : -2147483648 ≤ z35 ∧ z35 ≤ 2147483647 := ⟨by omega, by omega⟩
            refine mj_T.eq (pc2 := 62) (st2 := [.int (jn z35), .ref p0]) ?_ rfl rfl rfl rfl
            iterate 2 refine mj_T.pl rfl rfl rfl rfl ?_
            refine jT.callp rfl rfl (Nat.le_of_ble_eq_true rfl) (Nat.le_of_ble_eq_true rfl) (jrv_of oh28 kp1 (by decide) rfl (by decide) rfl _) rfl (mj_Ok.up (Nat.add_le_add_left (by decide) D) (jc_6 (D := D) ty hg oh28 kp1 rx27)) rfl rfl (fun v36 qv36 => ?_)
            obtain ⟨z37, az37, bz37, rfl⟩ := qv36
            have rz37 : -2147483648 ≤ z37 ∧ z37 ≤ 2147483647 := ⟨by omega, by omega⟩
            refine mj_T.eq (pc2 := 67) (st2 := [.int (jn z37), .int (jn z35), .ref p0]) ?_ rfl rfl rfl rfl
            refine jT.call rfl rfl (Nat.le_of_ble_eq_true rfl) (Nat.le_of_ble_eq_true rfl) (jrv_of oh28 kp0 (by decide) rfl (by decide) rfl _) rfl (mj_Ok.up (Nat.add_le_add_left (by decide) D) (jc_3 (D := D) ty hg oh28 kp0 rz35 rz37)) rfl rfl (fun v38 h39 qv38 oh39 => ?_)
            obtain rfl : v38 = none := qv38
            refine mj_T.eq (pc2 := 70) (st2 := []) ?_ rfl rfl rfl rfl
            refine jT.iinc rfl rfl (fun z40 rz40 ez40 => ?_)
            replace ez40 := ez40 ⟨by omega, by omega⟩
            refine mj_T.eq (loc2 := [some (.ref p0), some (.ref p1), some (.int (jn z40))]) ?_ rfl rfl rfl rfl
            refine mj_T.pl rfl rfl rfl rfl ?_
            exact ih31 ((2147483647 - z40 : Int).toNat) (by omega) z40 h39 rz40 oh39 (by omega) rfl
        exact t48_29 _ 0 h26 ⟨by decide, by decide⟩ oh26 (by omega) rfl
      · have c17 := of_decide_eq_false c17
        refine mj_T.pl rfl rfl rfl rfl ?_
        refine jT.getR 10 106 6 ty oh2 rfl kp1 (by decide) rfl rfl rfl (fun k41 => ?_)
        refine mj_T.pl rfl rfl rfl rfl ?_
        refine jT.aald 6 2 ty oh2 rfl k41 (by decide) (by decide) rfl rx1 ⟨by omega, by omega⟩ (fun k42 => ?_)
        refine mj_T.pl rfl rfl rfl rfl ?_
        refine jT.getR 10 106 6 ty oh2 rfl kp0 (by decide) rfl rfl rfl (fun k43 => ?_)
        refine mj_T.pl rfl rfl rfl rfl ?_
        refine jT.aald 6 2 ty oh2 rfl k43 (by decide) (by decide) rfl rx1 ⟨by omega, by omega⟩ (fun k44 => ?_)
        refine jT.call rfl rfl (Nat.le_of_ble_eq_true rfl) (Nat.le_of_ble_eq_true rfl) rfl rfl (mj_Ok.up (Nat.add_le_add_left (by decide) D) (jc_164 (D := D) ty hg oh2 k42 k44)) rfl rfl (fun v45 h46 qv45 oh46 => ?_)
        obtain rfl : v45 = none := qv45
        refine mj_T.eq (pc2 := 35) (st2 := []) ?_ rfl rfl rfl rfl
        refine jT.iinc rfl rfl (fun z47 rz47 ez47 => ?_)
        replace ez47 := ez47 ⟨by omega, by omega⟩
        refine mj_T.eq (loc2 := [some (.ref p0), some (.ref p1), some (.int (jn z47))]) ?_ rfl rfl rfl rfl
        refine mj_T.pl rfl rfl rfl rfl ?_
        exact ih5 ((2147483647 - z47 : Int).toNat) (by omega) z47 h46 rz47 oh46 (by omega) rfl
  exact t2_3 _ 0 h ⟨by decide, by decide⟩ o (by omega) rfl
-- PolyRegisters$Bench.hasPlace(I)Z
theorem jc_4 {D n : Nat} {tm : Int} {h g : mj_H} {K L : Nat → Nat} {R : Nat → Nat → Nat} {p0 : Nat} {p1 : Int} (ty : jTY K L R) (hg : g.length ≤ n) (o : jO K L R g n tm h) (kp0 : K p0 = 10) (rp1 : -2147483648 ≤ p1 ∧ p1 ≤ 2147483647) : mj_Ok (D + 2) 4 [.ref p0, .int (jn p1)] h (jQp K L R g n tm h [] (jVi 0 1)) := by
  refine mj_Ok.of (M := mj_m4) (loc := [some (.ref p0), some (.int (jn p1)), none]) rfl rfl rfl ?_
  refine mj_T.pl rfl rfl rfl rfl ?_
  refine mj_T.pl (loc' := [some (.ref p0), some (.int (jn p1)), some (.int (jn 0))]) rfl rfl rfl rfl ?_
  have t2_2 : ∀ (k3 : Nat) (x1 : Int), (-2147483648 ≤ x1 ∧ x1 ≤ 2147483647) → (0 ≤ x1) → (2147483647 - x1 : Int).toNat = k3 → mj_T (D + 1) mj_m4 2 [some (.ref p0), some (.int (jn p1)), some (.int (jn x1))] [] h (jQp K L R g n tm h [] (jVi 0 1)) := by
    refine jInd (fun k3 ih4 => ?_)
    intro x1 rx1 ix1 hm5
    refine mj_T.pl rfl rfl rfl rfl ?_
    refine mj_T.pl rfl rfl rfl rfl ?_
    refine jT.getI 10 9 o rfl kp0 (by decide) rfl rfl rfl (fun z6 (az6 : 0 ≤ z6) (bz6 : z6 ≤ 2147483647) fz6 => ?_)
    have rz6 : -2147483648 ≤ z6 ∧ z6 ≤ 2147483647 := ⟨by omega, by omega⟩
    refine jT.icmp rfl rx1 rz6 (fun c7 => ?_) (fun c7 => ?_)
    · have c7 := of_decide_eq_true c7
      refine mj_T.pl rfl rfl rfl rfl ?_
      exact jT.retbp rfl rfl (by omega) (by omega)
    · have c7 := of_decide_eq_false c7
      iterate 2 refine mj_T.pl rfl rfl rfl rfl ?_
      refine jT.callpp rfl rfl (Nat.le_of_ble_eq_true rfl) (Nat.le_of_ble_eq_true rfl) (jrv_of o kp0 (by decide) rfl (by decide) rfl _) rfl (mj_Ok.up (Nat.add_le_add_left (by decide) D) (jc_5 (D := D) ty hg o kp0 rx1)) rfl rfl (fun v7 qv7 => ?_)
      obtain ⟨z8, az8, bz8, rfl⟩ := qv7
      have rz8 : -2147483648 ≤ z8 ∧ z8 ≤ 2147483647 := ⟨by omega, by omega⟩
      refine mj_T.eq (pc2 := 15) (st2 := [.int (jn z8)]) ?_ rfl rfl rfl rfl
      refine mj_T.pl rfl rfl rfl rfl ?_
      refine jT.icmp rfl rz8 rp1 (fun c16 => ?_) (fun c16 => ?_)
      · have c16 := jne1 c16
        refine jT.iinc rfl rfl (fun z9 rz9 ez9 => ?_)
        replace ez9 := ez9 ⟨by omega, by omega⟩
        refine mj_T.eq (loc2 := [some (.ref p0), some (.int (jn p1)), some (.int (jn z9))]) ?_ rfl rfl rfl rfl
        refine mj_T.pl rfl rfl rfl rfl ?_
        exact ih4 ((2147483647 - z9 : Int).toNat) (by omega) z9 rz9 (by omega) rfl
      · have c16 := jne2 c16
        refine mj_T.pl rfl rfl rfl rfl ?_
        exact jT.retbp rfl rfl (by omega) (by omega)
  exact t2_2 _ 0 ⟨by decide, by decide⟩ (by omega) rfl
-- PolyRegisters$Bench.weight(I)J
theorem jc_7 {D n : Nat} {tm : Int} {h g : mj_H} {K L : Nat → Nat} {R : Nat → Nat → Nat} {p0 : Nat} {p1 : Int} (ty : jTY K L R) (hg : g.length ≤ n) (o : jO K L R g n tm h) (kp0 : K p0 = 10) (rp1 : -2147483648 ≤ p1 ∧ p1 ≤ 2147483647) : mj_Ok (D + 2) 7 [.ref p0, .int (jn p1)] h (jQp K L R g n tm h [] jVl) := by
  refine mj_Ok.of (M := mj_m7) (loc := [some (.ref p0), some (.int (jn p1)), none, none, none]) rfl rfl rfl ?_
  refine jT.lc 1 rfl rfl ?_
  refine mj_T.pl (loc' := [some (.ref p0), some (.int (jn p1)), some (.long (jl ((1 : Nat) : Int))), none, none]) rfl rfl rfl rfl ?_
  refine mj_T.pl rfl rfl rfl rfl ?_
  refine mj_T.pl (loc' := [some (.ref p0), some (.int (jn p1)), some (.long (jl ((1 : Nat) : Int))), none, some (.int (jn 0))]) rfl rfl rfl rfl ?_
  have t5_3 : ∀ (k4 : Nat) (y1 : Int) (x2 : Int), (jR y1) → (-2147483648 ≤ x2 ∧ x2 ≤ 2147483647) → (0 ≤ x2) → (2147483647 - x2 : Int).toNat = k4 → mj_T (D + 1) mj_m7 5 [some (.ref p0), some (.int (jn p1)), some (.long (jl y1)), none, some (.int (jn x2))] [] h (jQp K L R g n tm h [] jVl) := by
    refine jInd (fun k4 ih5 => ?_)
    intro y1 x2 jy1 rx2 ix2 hm6
    refine mj_T.pl rfl rfl rfl rfl ?_
    refine mj_T.pl rfl rfl rfl rfl ?_
    refine jT.getI 10 9 o rfl kp0 (by decide) rfl rfl rfl (fun z7 (az7 : 0 ≤ z7) (bz7 : z7 ≤ 2147483647) fz7 => ?_)
    have rz7 : -2147483648 ≤ z7 ∧ z7 ≤ 2147483647 := ⟨by omega, by omega⟩
    refine jT.icmp rfl rx2 rz7 (fun c11 => ?_) (fun c11 => ?_)
    · have c11 := of_decide_eq_true c11
      refine mj_T.pl rfl rfl rfl rfl ?_
      exact jT.retp rfl rfl rfl ⟨y1, jy1, rfl⟩
    · have c11 := of_decide_eq_false c11
      iterate 2 refine mj_T.pl rfl rfl rfl rfl ?_
      refine jT.icmp rfl rx2 rp1 (fun c17 => ?_) (fun c17 => ?_)
      · have c17 := of_decide_eq_true c17
        refine jT.iinc rfl rfl (fun z8 rz8 ez8 => ?_)
        replace ez8 := ez8 ⟨by omega, by omega⟩
        refine mj_T.eq (loc2 := [some (.ref p0), some (.int (jn p1)), some (.long (jl y1)), none, some (.int (jn z8))]) ?_ rfl rfl rfl rfl
        refine mj_T.pl rfl rfl rfl rfl ?_
        exact ih5 ((2147483647 - z8 : Int).toNat) (by omega) y1 z8 jy1 rz8 (by omega) rfl
      · have c17 := of_decide_eq_false c17
        iterate 3 refine mj_T.pl rfl rfl rfl rfl ?_
        refine jT.callpp rfl rfl (Nat.le_of_ble_eq_true rfl) (Nat.le_of_ble_eq_true rfl) (jrv_of o kp0 (by decide) rfl (by decide) rfl _) rfl (mj_Ok.up (Nat.add_le_add_left (by decide) D) (jc_5 (D := D) ty hg o kp0 rp1)) rfl rfl (fun v9 qv9 => ?_)
        obtain ⟨z10, az10, bz10, rfl⟩ := qv9
        have rz10 : -2147483648 ≤ z10 ∧ z10 ≤ 2147483647 := ⟨by omega, by omega⟩
        refine mj_T.eq (pc2 := 26) (st2 := [.int (jn z10), .long (jl y1)]) ?_ rfl rfl rfl rfl
        iterate 2 refine mj_T.pl rfl rfl rfl rfl ?_
        refine jT.callpp rfl rfl (Nat.le_of_ble_eq_true rfl) (Nat.le_of_ble_eq_true rfl) (jrv_of o kp0 (by decide) rfl (by decide) rfl _) rfl (mj_Ok.up (Nat.add_le_add_left (by decide) D) (jc_5 (D := D) ty hg o kp0 rx2)) rfl rfl (fun v11 qv11 => ?_)
        obtain ⟨z12, az12, bz12, rfl⟩ := qv11
        have rz12 : -2147483648 ≤ z12 ∧ z12 ≤ 2147483647 := ⟨by omega, by omega⟩
        refine mj_T.eq (pc2 := 32) (st2 := [.int (jn z12), .int (jn z10), .long (jl y1)]) ?_ rfl rfl rfl rfl
        refine jT.isub rfl (fun z13 rz13 ez13 => ?_)
        clear ez13
        refine jT.i2l rfl rz13 ?_
        have j14 : jR z13 := ⟨by omega, by omega⟩
        refine jT.lmul rfl (fun z15 jz15 _ => ?_)
        refine mj_T.pl (loc' := [some (.ref p0), some (.int (jn p1)), some (.long (jl z15)), none, some (.int (jn x2))]) rfl rfl rfl rfl ?_
        refine jT.iinc rfl rfl (fun z16 rz16 ez16 => ?_)
        replace ez16 := ez16 ⟨by omega, by omega⟩
        refine mj_T.eq (loc2 := [some (.ref p0), some (.int (jn p1)), some (.long (jl z15)), none, some (.int (jn z16))]) ?_ rfl rfl rfl rfl
        refine mj_T.pl rfl rfl rfl rfl ?_
        exact ih5 ((2147483647 - z16 : Int).toNat) (by omega) z15 z16 jz15 rz16 (by omega) rfl
  exact t5_3 _ ((1 : Nat) : Int) 0 ⟨by decide, by decide⟩ ⟨by decide, by decide⟩ (by omega) rfl
-- PolyRegisters.commonOfLongs(JJ)J
theorem jc_171 {D n : Nat} {tm : Int} {h g : mj_H} {K L : Nat → Nat} {R : Nat → Nat → Nat} {p0 : Int} {p1 : Int} (ty : jTY K L R) (hg : g.length ≤ n) (o : jO K L R g n tm h) (jp0 : jR p0) (jp1 : jR p1) : mj_Ok (D + 1) 171 [.long (jl p0), .long (jl p1)] h (jQp K L R g n tm h [] jVl) := by
  refine mj_Ok.of (M := mj_m171) (loc := [some (.long (jl p0)), none, some (.long (jl p1)), none, none, none, none, none, none, none, none]) rfl rfl rfl ?_
  refine mj_T.pl rfl rfl rfl rfl ?_
  refine jT.lc 0 rfl rfl ?_
  have t12_2 : ∀ (y1 : Int), (jR y1) → mj_T (D + 0) mj_m171 12 [some (.long (jl p0)), none, some (.long (jl p1)), none, none, none, none, none, none, none, none] [.long (jl y1)] h (jQp K L R g n tm h [] jVl) := by
    intro y1 jy1
    refine mj_T.pl (loc' := [some (.long (jl p0)), none, some (.long (jl p1)), none, some (.long (jl y1)), none, none, none, none, none, none]) rfl rfl rfl rfl ?_
    refine mj_T.pl rfl rfl rfl rfl ?_
    refine jT.lc 0 rfl rfl ?_
    refine mj_T.lif rfl rfl jp1 ⟨by decide, by decide⟩ (fun c16 => ?_) (fun c16 => ?_)
    · have c16 := of_decide_eq_true c16
      refine mj_T.pl rfl rfl rfl rfl ?_
      refine mj_T.pl (loc' := [some (.long (jl p0)), none, some (.long (jl p1)), none, some (.long (jl y1)), none, some (.long (jl p1)), none, none, none, none]) rfl rfl rfl rfl ?_
      refine mj_T.pl rfl rfl rfl rfl ?_
      refine mj_T.pl (loc' := [some (.long (jl p0)), none, some (.long (jl p1)), none, some (.long (jl y1)), none, some (.long (jl p1)), none, some (.int (jn 0)), none, none]) rfl rfl rfl rfl ?_
      have t31_7 : ∀ (k8 : Nat) (y3 : Int) (y4 : Int) (x5 : Int) (w6 : Option Value), (jR y3) → (jR y4) → (-2147483648 ≤ x5 ∧ x5 ≤ 2147483647) → (0 ≤ x5) → (2147483647 - x5 : Int).toNat = k8 → mj_T (D + 0) mj_m171 31 [some (.long (jl p0)), none, some (.long (jl p1)), none, some (.long (jl y3)), none, some (.long (jl y4)), none, some (.int (jn x5)), w6, none] [] h (jQp K L R g n tm h [] jVl) := by
        refine jInd (fun k8 ih9 => ?_)
        intro y3 y4 x5 w6 jy3 jy4 rx5 ix5 hm10
        refine mj_T.pl rfl rfl rfl rfl ?_
        refine mj_T.pl rfl rfl rfl rfl ?_
        refine jT.icmp rfl rx5 ⟨by decide, by decide⟩ (fun c36 => ?_) (fun c36 => ?_)
        · have c36 := of_decide_eq_true c36
          refine mj_T.pl rfl rfl rfl rfl ?_
          exact jT.retp rfl rfl rfl ⟨y3, jy3, rfl⟩
        · have c36 := of_decide_eq_false c36
          refine mj_T.pl rfl rfl rfl rfl ?_
          refine jT.lc 0 rfl rfl ?_
          refine mj_T.lif rfl rfl jy4 ⟨by decide, by decide⟩ (fun c42 => ?_) (fun c42 => ?_)
          · have c42 := of_decide_eq_true c42
            refine mj_T.pl rfl rfl rfl rfl ?_
            exact jT.retp rfl rfl rfl ⟨y3, jy3, rfl⟩
          · have c42 := of_decide_eq_false c42
            iterate 2 refine mj_T.pl rfl rfl rfl rfl ?_
            refine jT.lrem rfl jy4 (by omega) (fun z11 jz11 => ?_)
            refine mj_T.pl (loc' := [some (.long (jl p0)), none, some (.long (jl p1)), none, some (.long (jl y3)), none, some (.long (jl y4)), none, some (.int (jn x5)), some (.long (jl z11)), none]) rfl rfl rfl rfl ?_
            refine mj_T.pl rfl rfl rfl rfl ?_
            refine mj_T.pl (loc' := [some (.long (jl p0)), none, some (.long (jl p1)), none, some (.long (jl y4)), none, some (.long (jl y4)), none, some (.int (jn x5)), some (.long (jl z11)), none]) rfl rfl rfl rfl ?_
            refine mj_T.pl rfl rfl rfl rfl ?_
            refine mj_T.pl (loc' := [some (.long (jl p0)), none, some (.long (jl p1)), none, some (.long (jl y4)), none, some (.long (jl z11)), none, some (.int (jn x5)), some (.long (jl z11)), none]) rfl rfl rfl rfl ?_
            refine jT.iinc rfl rfl (fun z12 rz12 ez12 => ?_)
            replace ez12 := ez12 ⟨by omega, by omega⟩
            refine mj_T.eq (loc2 := [some (.long (jl p0)), none, some (.long (jl p1)), none, some (.long (jl y4)), none, some (.long (jl z11)), none, some (.int (jn z12)), some (.long (jl z11)), none]) ?_ rfl rfl rfl rfl
            refine mj_T.pl rfl rfl rfl rfl ?_
            exact ih9 ((2147483647 - z12 : Int).toNat) (by omega) y4 z11 z12 (some (.long (jl z11))) jy4 jz11 rz12 (by omega) rfl
      exact t31_7 _ y1 p1 0 none jy1 jp1 ⟨by decide, by decide⟩ (by omega) rfl
    · have c16 := of_decide_eq_false c16
      refine mj_T.pl rfl rfl rfl rfl ?_
      refine jT.lneg rfl (fun z13 jz13 _ => ?_)
      refine mj_T.pl rfl rfl rfl rfl ?_
      refine mj_T.pl (loc' := [some (.long (jl p0)), none, some (.long (jl p1)), none, some (.long (jl y1)), none, some (.long (jl z13)), none, none, none, none]) rfl rfl rfl rfl ?_
      refine mj_T.pl rfl rfl rfl rfl ?_
      refine mj_T.pl (loc' := [some (.long (jl p0)), none, some (.long (jl p1)), none, some (.long (jl y1)), none, some (.long (jl z13)), none, some (.int (jn 0)), none, none]) rfl rfl rfl rfl ?_
      have t31_18 : ∀ (k19 : Nat) (y14 : Int) (y15 : Int) (x16 : Int) (w17 : Option Value), (jR y14) → (jR y15) → (-2147483648 ≤ x16 ∧ x16 ≤ 2147483647) → (0 ≤ x16) → (2147483647 - x16 : Int).toNat = k19 → mj_T (D + 0) mj_m171 31 [some (.long (jl p0)), none, some (.long (jl p1)), none, some (.long (jl y14)), none, some (.long (jl y15)), none, some (.int (jn x16)), w17, none] [] h (jQp K L R g n tm h [] jVl) := by
        refine jInd (fun k19 ih20 => ?_)
        intro y14 y15 x16 w17 jy14 jy15 rx16 ix16 hm21
        refine mj_T.pl rfl rfl rfl rfl ?_
        refine mj_T.pl rfl rfl rfl rfl ?_
        refine jT.icmp rfl rx16 ⟨by decide, by decide⟩ (fun c36 => ?_) (fun c36 => ?_)
        · have c36 := of_decide_eq_true c36
          refine mj_T.pl rfl rfl rfl rfl ?_
          exact jT.retp rfl rfl rfl ⟨y14, jy14, rfl⟩
        · have c36 := of_decide_eq_false c36
          refine mj_T.pl rfl rfl rfl rfl ?_
          refine jT.lc 0 rfl rfl ?_
          refine mj_T.lif rfl rfl jy15 ⟨by decide, by decide⟩ (fun c42 => ?_) (fun c42 => ?_)
          · have c42 := of_decide_eq_true c42
            refine mj_T.pl rfl rfl rfl rfl ?_
            exact jT.retp rfl rfl rfl ⟨y14, jy14, rfl⟩
          · have c42 := of_decide_eq_false c42
            iterate 2 refine mj_T.pl rfl rfl rfl rfl ?_
            refine jT.lrem rfl jy15 (by omega) (fun z22 jz22 => ?_)
            refine mj_T.pl (loc' := [some (.long (jl p0)), none, some (.long (jl p1)), none, some (.long (jl y14)), none, some (.long (jl y15)), none, some (.int (jn x16)), some (.long (jl z22)), none]) rfl rfl rfl rfl ?_
            refine mj_T.pl rfl rfl rfl rfl ?_
            refine mj_T.pl (loc' := [some (.long (jl p0)), none, some (.long (jl p1)), none, some (.long (jl y15)), none, some (.long (jl y15)), none, some (.int (jn x16)), some (.long (jl z22)), none]) rfl rfl rfl rfl ?_
            refine mj_T.pl rfl rfl rfl rfl ?_
            refine mj_T.pl (loc' := [some (.long (jl p0)), none, some (.long (jl p1)), none, some (.long (jl y15)), none, some (.long (jl z22)), none, some (.int (jn x16)), some (.long (jl z22)), none]) rfl rfl rfl rfl ?_
            refine jT.iinc rfl rfl (fun z23 rz23 ez23 => ?_)
            replace ez23 := ez23 ⟨by omega, by omega⟩
            refine mj_T.eq (loc2 := [some (.long (jl p0)), none, some (.long (jl p1)), none, some (.long (jl y15)), none, some (.long (jl z22)), none, some (.int (jn z23)), some (.long (jl z22)), none]) ?_ rfl rfl rfl rfl
            refine mj_T.pl rfl rfl rfl rfl ?_
            exact ih20 ((2147483647 - z23 : Int).toNat) (by omega) y15 z22 z23 (some (.long (jl z22))) jy15 jz22 rz23 (by omega) rfl
      exact t31_18 _ y1 z13 0 none jy1 jz13 ⟨by decide, by decide⟩ (by omega) rfl
  refine mj_T.lif rfl rfl jp0 ⟨by decide, by decide⟩ (fun c2 => ?_) (fun c2 => ?_)
  · have c2 := of_decide_eq_true c2
    refine mj_T.pl rfl rfl rfl rfl ?_
    exact t12_2 p0 jp0
  · have c2 := of_decide_eq_false c2
    refine mj_T.pl rfl rfl rfl rfl ?_
    refine jT.lneg rfl (fun z24 jz24 _ => ?_)
    refine mj_T.pl rfl rfl rfl rfl ?_
    exact t12_2 z24 jz24
-- PolyRegisters$Bench.commonWeight()J
theorem jc_8 {D n : Nat} {tm : Int} {h g : mj_H} {K L : Nat → Nat} {R : Nat → Nat → Nat} {p0 : Nat} (ty : jTY K L R) (hg : g.length ≤ n) (o : jO K L R g n tm h) (kp0 : K p0 = 10) : mj_Ok (D + 3) 8 [.ref p0] h (jQp K L R g n tm h [] jVl) := by
  refine mj_Ok.of (M := mj_m8) (loc := [some (.ref p0), none, none, none, none, none, none, none]) rfl rfl rfl ?_
  refine jT.lc 1 rfl rfl ?_
  refine mj_T.pl (loc' := [some (.ref p0), some (.long (jl ((1 : Nat) : Int))), none, none, none, none, none, none]) rfl rfl rfl rfl ?_
  refine mj_T.pl rfl rfl rfl rfl ?_
  refine mj_T.pl (loc' := [some (.ref p0), some (.long (jl ((1 : Nat) : Int))), none, some (.int (jn 0)), none, none, none, none]) rfl rfl rfl rfl ?_
  have t4_5 : ∀ (k6 : Nat) (y1 : Int) (x2 : Int) (w3 : Option Value) (w4 : Option Value), (jR y1) → (-2147483648 ≤ x2 ∧ x2 ≤ 2147483647) → (0 ≤ x2) → (2147483647 - x2 : Int).toNat = k6 → mj_T (D + 2) mj_m8 4 [some (.ref p0), some (.long (jl y1)), none, some (.int (jn x2)), w3, none, w4, none] [] h (jQp K L R g n tm h [] jVl) := by
    refine jInd (fun k6 ih7 => ?_)
    intro y1 x2 w3 w4 jy1 rx2 ix2 hm8
    refine mj_T.pl rfl rfl rfl rfl ?_
    refine mj_T.pl rfl rfl rfl rfl ?_
    refine jT.getI 10 9 o rfl kp0 (by decide) rfl rfl rfl (fun z9 (az9 : 0 ≤ z9) (bz9 : z9 ≤ 2147483647) fz9 => ?_)
    have rz9 : -2147483648 ≤ z9 ∧ z9 ≤ 2147483647 := ⟨by omega, by omega⟩
    refine jT.icmp rfl rx2 rz9 (fun c9 => ?_) (fun c9 => ?_)
    · have c9 := of_decide_eq_true c9
      refine mj_T.pl rfl rfl rfl rfl ?_
      refine jT.lc 0 rfl rfl ?_
      refine mj_T.lif rfl rfl jy1 ⟨by decide, by decide⟩ (fun c54 => ?_) (fun c54 => ?_)
      · have c54 := of_decide_eq_true c54
        refine mj_T.pl rfl rfl rfl rfl ?_
        exact jT.retp rfl rfl rfl ⟨y1, jy1, rfl⟩
      · have c54 := of_decide_eq_false c54
        refine mj_T.pl rfl rfl rfl rfl ?_
        refine jT.lneg rfl (fun z10 jz10 _ => ?_)
        refine mj_T.pl rfl rfl rfl rfl ?_
        exact jT.retp rfl rfl rfl ⟨z10, jz10, rfl⟩
    · have c9 := of_decide_eq_false c9
      iterate 2 refine mj_T.pl rfl rfl rfl rfl ?_
      refine jT.callpp rfl rfl (Nat.le_of_ble_eq_true rfl) (Nat.le_of_ble_eq_true rfl) (jrv_of o kp0 (by decide) rfl (by decide) rfl _) rfl (mj_Ok.up (Nat.add_le_add_left (by decide) D) (jc_7 (D := D) ty hg o kp0 rx2)) rfl rfl (fun v11 qv11 => ?_)
      obtain ⟨z12, jz12, rfl⟩ := qv11
      refine mj_T.eq (pc2 := 17) (st2 := [.long (jl z12)]) ?_ rfl rfl rfl rfl
      refine mj_T.pl (loc' := [some (.ref p0), some (.long (jl y1)), none, some (.int (jn x2)), some (.long (jl z12)), none, w4, none]) rfl rfl rfl rfl ?_
      iterate 2 refine mj_T.pl rfl rfl rfl rfl ?_
      refine jT.callpp rfl rfl (Nat.le_of_ble_eq_true rfl) (Nat.le_of_ble_eq_true rfl) rfl rfl (mj_Ok.up (Nat.add_le_add_left (by decide) D) (jc_171 (D := D) ty hg o jy1 jz12)) rfl rfl (fun v13 qv13 => ?_)
      obtain ⟨z14, jz14, rfl⟩ := qv13
      refine mj_T.eq (pc2 := 25) (st2 := [.long (jl z14)]) ?_ rfl rfl rfl rfl
      refine mj_T.pl (loc' := [some (.ref p0), some (.long (jl y1)), none, some (.int (jn x2)), some (.long (jl z12)), none, some (.long (jl z14)), none]) rfl rfl rfl rfl ?_
      iterate 2 refine mj_T.pl rfl rfl rfl rfl ?_
      refine jT.lc 0 rfl rfl ?_
      refine mj_T.lif rfl rfl jz14 ⟨by decide, by decide⟩ (fun c31 => ?_) (fun c31 => ?_)
      · have c31 := jne1 c31
        iterate 2 refine mj_T.pl rfl rfl rfl rfl ?_
        refine jT.ldiv rfl jz14 (by omega) (fun z15 jz15 => ?_)
        refine jT.lmul rfl (fun z16 jz16 _ => ?_)
        refine mj_T.pl (loc' := [some (.ref p0), some (.long (jl z16)), none, some (.int (jn x2)), some (.long (jl z12)), none, some (.long (jl z14)), none]) rfl rfl rfl rfl ?_
        refine jT.iinc rfl rfl (fun z17 rz17 ez17 => ?_)
        replace ez17 := ez17 ⟨by omega, by omega⟩
        refine mj_T.eq (loc2 := [some (.ref p0), some (.long (jl z16)), none, some (.int (jn z17)), some (.long (jl z12)), none, some (.long (jl z14)), none]) ?_ rfl rfl rfl rfl
        refine mj_T.pl rfl rfl rfl rfl ?_
        exact ih7 ((2147483647 - z17 : Int).toNat) (by omega) z16 z17 (some (.long (jl z12))) (some (.long (jl z14))) jz16 rz17 (by omega) rfl
      · have c31 := jne2 c31
        refine jT.lc 1 rfl rfl ?_
        refine mj_T.pl rfl rfl rfl rfl ?_
        refine jT.lmul rfl (fun z18 jz18 _ => ?_)
        refine mj_T.pl (loc' := [some (.ref p0), some (.long (jl z18)), none, some (.int (jn x2)), some (.long (jl z12)), none, some (.long (jl z14)), none]) rfl rfl rfl rfl ?_
        refine jT.iinc rfl rfl (fun z19 rz19 ez19 => ?_)
        replace ez19 := ez19 ⟨by omega, by omega⟩
        refine mj_T.eq (loc2 := [some (.ref p0), some (.long (jl z18)), none, some (.int (jn z19)), some (.long (jl z12)), none, some (.long (jl z14)), none]) ?_ rfl rfl rfl rfl
        refine mj_T.pl rfl rfl rfl rfl ?_
        exact ih7 ((2147483647 - z19 : Int).toNat) (by omega) z18 z19 (some (.long (jl z12))) (some (.long (jl z14))) jz18 rz19 (by omega) rfl
  exact t4_5 _ ((1 : Nat) : Int) 0 none none ⟨by decide, by decide⟩ ⟨by decide, by decide⟩ (by omega) rfl
-- PolyRegisters$Bench.putBasis(I[J)V
theorem jc_9 {D n : Nat} {tm : Int} {h g : mj_H} {K L : Nat → Nat} {R : Nat → Nat → Nat} {p0 : Nat} {p1 : Int} {p2 : Nat} (ty : jTY K L R) (hg : g.length ≤ n) (o : jO K L R g n tm h) (kp0 : K p0 = 10) (rp1 : -2147483648 ≤ p1 ∧ p1 ≤ 2147483647) (kp2 : K p2 = 2) : mj_Ok (D + 2) 9 [.ref p0, .int (jn p1), .ref p2] h (jQ K L R g n tm [] jV0) := by
  refine mj_Ok.of (M := mj_m9) (loc := [some (.ref p0), some (.int (jn p1)), some (.ref p2), none, none]) rfl rfl rfl ?_
  refine mj_T.pl rfl rfl rfl rfl ?_
  refine jT.call rfl rfl (Nat.le_of_ble_eq_true rfl) (Nat.le_of_ble_eq_true rfl) rfl rfl (mj_Ok.up (Nat.add_le_add_left (by decide) D) (jc_165 (D := D) ty hg o kp2)) rfl rfl (fun v1 h2 qv1 oh2 => ?_)
  obtain rfl : v1 = none := qv1
  refine mj_T.eq (pc2 := 4) (st2 := []) ?_ rfl rfl rfl rfl
  iterate 2 refine mj_T.pl rfl rfl rfl rfl ?_
  refine jT.lc 1 rfl rfl ?_
  have l3 : 13 ≤ (L p2 : Int) ∧ (L p2 : Int) ≤ 13 := jlen 2 ty kp2 (by decide) (by decide)
  refine jT.last oh2 rfl kp2 ⟨by decide, by decide⟩ ⟨by omega, by omega⟩ ⟨by decide, by decide⟩ (fun h4 oh4 uh4 => ?_)
  refine mj_T.pl rfl rfl rfl rfl ?_
  refine mj_T.pl (loc' := [some (.ref p0), some (.int (jn p1)), some (.ref p2), some (.int (jn 0)), none]) rfl rfl rfl rfl ?_
  have t10_8 : ∀ (k9 : Nat) (x5 : Int) (w6 : Option Value) (h7 : mj_H), (-2147483648 ≤ x5 ∧ x5 ≤ 2147483647) → (jO K L R g n tm h7) → (0 ≤ x5) → (2147483647 - x5 : Int).toNat = k9 → mj_T (D + 1) mj_m9 10 [some (.ref p0), some (.int (jn p1)), some (.ref p2), some (.int (jn x5)), w6] [] h7 (jQ K L R g n tm [] jV0) := by
    refine jInd (fun k9 ih10 => ?_)
    intro x5 w6 h7 rx5 oh7 ix5 hm11
    refine mj_T.pl rfl rfl rfl rfl ?_
    refine mj_T.pl rfl rfl rfl rfl ?_
    refine jT.getI 10 9 oh7 rfl kp0 (by decide) rfl rfl rfl (fun z12 (az12 : 0 ≤ z12) (bz12 : z12 ≤ 2147483647) fz12 => ?_)
    have rz12 : -2147483648 ≤ z12 ∧ z12 ≤ 2147483647 := ⟨by omega, by omega⟩
    refine jT.icmp rfl rx5 rz12 (fun c15 => ?_) (fun c15 => ?_)
    · have c15 := of_decide_eq_true c15
      exact jT.ret oh7 rfl rfl rfl rfl
    · have c15 := of_decide_eq_false c15
      iterate 2 refine mj_T.pl rfl rfl rfl rfl ?_
      refine jT.icmp rfl rx5 rp1 (fun c20 => ?_) (fun c20 => ?_)
      · have c20 := of_decide_eq_true c20
        refine jT.iinc rfl rfl (fun z13 rz13 ez13 => ?_)
        replace ez13 := ez13 ⟨by omega, by omega⟩
        refine mj_T.eq (loc2 := [some (.ref p0), some (.int (jn p1)), some (.ref p2), some (.int (jn z13)), w6]) ?_ rfl rfl rfl rfl
        refine mj_T.pl rfl rfl rfl rfl ?_
        exact ih10 ((2147483647 - z13 : Int).toNat) (by omega) z13 w6 h7 rz13 oh7 (by omega) rfl
      · have c20 := of_decide_eq_false c20
        refine mj_T.pl rfl rfl rfl rfl ?_
        refine jT.alen 2 ty oh7 rfl kp2 (by decide) (by decide) (fun z14 ez14 (az14 : 13 ≤ z14) (bz14 : z14 ≤ 13) => ?_)
        have rz14 : -2147483648 ≤ z14 ∧ z14 ≤ 2147483647 := ⟨by omega, by omega⟩
        refine mj_T.pl rfl rfl rfl rfl ?_
        refine jT.isub rfl (fun z15 rz15 ez15 => ?_)
        replace ez15 := ez15 ⟨by omega, by omega⟩
        refine mj_T.pl (loc' := [some (.ref p0), some (.int (jn p1)), some (.ref p2), some (.int (jn x5)), some (.int (jn z15))]) rfl rfl rfl rfl ?_
        have t29_19 : ∀ (k20 : Nat) (x16 : Int) (h17 : mj_H), (-2147483648 ≤ x16 ∧ x16 ≤ 2147483647) → (jO K L R g n tm h17) → (jfI h17 p0 3 = z12) → (x16 ≤ z15) → (x16 + 1 : Int).toNat = k20 → mj_T (D + 1) mj_m9 29 [some (.ref p0), some (.int (jn p1)), some (.ref p2), some (.int (jn x5)), some (.int (jn x16))] [] h17 (jQ K L R g n tm [] jV0) := by
          refine jInd (fun k20 ih21 => ?_)
          intro x16 h17 rx16 oh17 f18 ix16 hm22
          refine mj_T.pl rfl rfl rfl rfl ?_
          refine jT.if0 rfl rx16 (fun c31 => ?_) (fun c31 => ?_)
          · have c31 := of_decide_eq_true c31
            refine jT.iinc rfl rfl (fun z23 rz23 ez23 => ?_)
            replace ez23 := ez23 ⟨by omega, by omega⟩
            refine mj_T.eq (loc2 := [some (.ref p0), some (.int (jn p1)), some (.ref p2), some (.int (jn z23)), some (.int (jn x16))]) ?_ rfl rfl rfl rfl
            refine mj_T.pl rfl rfl rfl rfl ?_
            exact ih10 ((2147483647 - z23 : Int).toNat) (by omega) z23 (some (.int (jn x16))) h17 rz23 oh17 (by omega) rfl
          · have c31 := of_decide_eq_false c31
            iterate 3 refine mj_T.pl rfl rfl rfl rfl ?_
            have t52_25 : ∀ (y24 : Int), (jR y24) → mj_T (D + 1) mj_m9 52 [some (.ref p0), some (.int (jn p1)), some (.ref p2), some (.int (jn x5)), some (.int (jn x16))] [.long (jl y24), .int (jn x16), .ref p2] h17 (jQ K L R g n tm [] jV0) := by
              intro y24 jy24
              iterate 2 refine mj_T.pl rfl rfl rfl rfl ?_
              refine jT.callp rfl rfl (Nat.le_of_ble_eq_true rfl) (Nat.le_of_ble_eq_true rfl) (jrv_of oh17 kp0 (by decide) rfl (by decide) rfl _) rfl (mj_Ok.up (Nat.add_le_add_left (by decide) D) (jc_5 (D := D) ty hg oh17 kp0 rx5)) rfl rfl (fun v26 qv26 => ?_)
              obtain ⟨z27, az27, bz27, rfl⟩ := qv26
              have rz27 : -2147483648 ≤ z27 ∧ z27 ≤ 2147483647 := ⟨by omega, by omega⟩
              refine mj_T.eq (pc2 := 57) (st2 := [.int (jn z27), .long (jl y24), .int (jn x16), .ref p2]) ?_ rfl rfl rfl rfl
              refine jT.i2l rfl rz27 ?_
              have j28 : jR z27 := ⟨by omega, by omega⟩
              iterate 2 refine mj_T.pl rfl rfl rfl rfl ?_
              refine jT.lald oh17 rfl kp2 rx16 ⟨by omega, by omega⟩ (fun z29 jz29 => ?_)
              refine jT.lmul rfl (fun z30 jz30 _ => ?_)
              refine jT.lsub rfl (fun z31 jz31 _ => ?_)
              refine jT.last oh17 rfl kp2 rx16 ⟨by omega, by omega⟩ jz31 (fun h32 oh32 uh32 => ?_)
              refine jT.iinc rfl rfl (fun z33 rz33 ez33 => ?_)
              replace ez33 := ez33 ⟨by omega, by omega⟩
              refine mj_T.eq (loc2 := [some (.ref p0), some (.int (jn p1)), some (.ref p2), some (.int (jn x5)), some (.int (jn z33))]) ?_ rfl rfl rfl rfl
              refine mj_T.pl rfl rfl rfl rfl ?_
              exact ih21 ((z33 + 1 : Int).toNat) (by omega) z33 h32 rz33 oh32 ((uh32 p0 3).trans f18) (by omega) rfl
            refine jT.if0 rfl rx16 (fun c39 => ?_) (fun c39 => ?_)
            · have c39 := of_decide_eq_true c39
              refine jT.lc 0 rfl rfl ?_
              exact t52_25 ((0 : Nat) : Int) ⟨by decide, by decide⟩
            · have c39 := of_decide_eq_false c39
              iterate 3 refine mj_T.pl rfl rfl rfl rfl ?_
              refine jT.isub rfl (fun z34 rz34 ez34 => ?_)
              replace ez34 := ez34 ⟨by omega, by omega⟩
              refine jT.lald oh17 rfl kp2 rz34 ⟨by omega, by omega⟩ (fun z35 jz35 => ?_)
              refine mj_T.pl rfl rfl rfl rfl ?_
              exact t52_25 z35 jz35
        exact t29_19 _ z15 h7 rz15 oh7 fz12.symm (by omega) rfl
  exact t10_8 _ 0 none h4 ⟨by decide, by decide⟩ oh4 (by omega) rfl
