/-! The class by kinds: its methods. -/
-- PolyRegisters$Poly.at(I)LPolyRegisters$Wide;
theorem jc_36 {D n : Nat} {tm : Int} {h g : mj_H} {K L : Nat → Nat} {R : Nat → Nat → Nat} {p0 : Nat} {p1 : Int} (ty : jTY K L R) (hg : g.length ≤ n) (o : jO K L R g n tm h) (kp0 : K p0 = 13) (rp1 : -2147483648 ≤ p1 ∧ p1 ≤ 2147483647) : mj_Ok (D + 1) 36 [.ref p0, .int (jn p1)] h (jQp K L R g n tm h [] (jVr K 18)) := by
  refine mj_Ok.of (M := mj_m36) (loc := [some (.ref p0), some (.int (jn p1))]) rfl rfl rfl ?_
  refine mj_T.pl rfl rfl rfl rfl ?_
  refine jT.if0 rfl rp1 (fun c1 => ?_) (fun c1 => ?_)
  · have c1 := of_decide_eq_true c1
    refine mj_T.pl rfl rfl rfl rfl ?_
    refine jT.getR 13 118 18 ty o rfl kp0 (by decide) rfl rfl rfl (fun k1 => ?_)
    exact jT.retp rfl rfl rfl ⟨(R p0 1), k1, rfl⟩
  · have c1 := of_decide_eq_false c1
    iterate 2 refine mj_T.pl rfl rfl rfl rfl ?_
    refine jT.getR 13 104 4 ty o rfl kp0 (by decide) rfl rfl rfl (fun k2 => ?_)
    refine jT.alen 4 ty o rfl k2 (by decide) (by decide) (fun z3 ez3 (az3 : 1 ≤ z3) (bz3 : z3 ≤ 25) => ?_)
    have rz3 : -2147483648 ≤ z3 ∧ z3 ≤ 2147483647 := ⟨by omega, by omega⟩
    refine jT.icmp rfl rp1 rz3 (fun c10 => ?_) (fun c10 => ?_)
    · have c10 := of_decide_eq_true c10
      refine mj_T.pl rfl rfl rfl rfl ?_
      refine jT.getR 13 118 18 ty o rfl kp0 (by decide) rfl rfl rfl (fun k4 => ?_)
      exact jT.retp rfl rfl rfl ⟨(R p0 1), k4, rfl⟩
    · have c10 := of_decide_eq_false c10
      refine mj_T.pl rfl rfl rfl rfl ?_
      refine jT.getR 13 104 4 ty o rfl kp0 (by decide) rfl rfl rfl (fun k5 => ?_)
      refine mj_T.pl rfl rfl rfl rfl ?_
      refine jT.aald 4 18 ty o rfl k5 (by decide) (by decide) rfl rp1 ⟨by omega, by omega⟩ (fun k6 => ?_)
      refine mj_T.pl rfl rfl rfl rfl ?_
      exact jT.retp rfl rfl rfl ⟨(R (R p0 0) (p1 : Int).toNat), k6, rfl⟩
-- PolyRegisters$Poly.lead()LPolyRegisters$Wide;
theorem jc_37 {D n : Nat} {tm : Int} {h g : mj_H} {K L : Nat → Nat} {R : Nat → Nat → Nat} {p0 : Nat} (ty : jTY K L R) (hg : g.length ≤ n) (o : jO K L R g n tm h) (kp0 : K p0 = 13) : mj_Ok (D + 2) 37 [.ref p0] h (jQp K L R g n tm h [] (jVr K 18)) := by
  refine mj_Ok.of (M := mj_m37) (loc := [some (.ref p0)]) rfl rfl rfl ?_
  iterate 2 refine mj_T.pl rfl rfl rfl rfl ?_
  refine jT.getI 13 6 o rfl kp0 (by decide) rfl rfl rfl (fun z1 (az1 : (-1) ≤ z1) (bz1 : z1 ≤ 30) fz1 => ?_)
  have rz1 : -2147483648 ≤ z1 ∧ z1 ≤ 2147483647 := ⟨by omega, by omega⟩
  refine jT.callpp rfl rfl (Nat.le_of_ble_eq_true rfl) (Nat.le_of_ble_eq_true rfl) (jrv_of o kp0 (by decide) rfl (by decide) rfl _) rfl (mj_Ok.up (Nat.add_le_add_left (by decide) D) (jc_36 (D := D) ty hg o kp0 rz1)) rfl rfl (fun v2 qv2 => ?_)
  obtain ⟨a3, ka3, rfl⟩ := qv2
  refine mj_T.eq (pc2 := 8) (st2 := [.ref a3]) ?_ rfl rfl rfl rfl
  exact jT.retp rfl rfl rfl ⟨a3, ka3, rfl⟩
-- PolyRegisters$Poly.highest()I
theorem jc_38 {D n : Nat} {tm : Int} {h g : mj_H} {K L : Nat → Nat} {R : Nat → Nat → Nat} {p0 : Nat} (ty : jTY K L R) (hg : g.length ≤ n) (o : jO K L R g n tm h) (kp0 : K p0 = 13) : mj_Ok (D + 1) 38 [.ref p0] h (jQp K L R g n tm h [] (jVi 0 24)) := by
  refine mj_Ok.of (M := mj_m38) (loc := [some (.ref p0)]) rfl rfl rfl ?_
  refine mj_T.pl rfl rfl rfl rfl ?_
  refine jT.getR 13 104 4 ty o rfl kp0 (by decide) rfl rfl rfl (fun k1 => ?_)
  refine jT.alen 4 ty o rfl k1 (by decide) (by decide) (fun z2 ez2 (az2 : 1 ≤ z2) (bz2 : z2 ≤ 25) => ?_)
  have rz2 : -2147483648 ≤ z2 ∧ z2 ≤ 2147483647 := ⟨by omega, by omega⟩
  refine mj_T.pl rfl rfl rfl rfl ?_
  refine jT.isub rfl (fun z3 rz3 ez3 => ?_)
  replace ez3 := ez3 ⟨by omega, by omega⟩
  exact jT.retp rfl rfl rfl ⟨z3, by omega, by omega, rfl⟩
-- PolyRegisters$Poly.clear()V
theorem jc_39 {D n : Nat} {tm : Int} {h g : mj_H} {K L : Nat → Nat} {R : Nat → Nat → Nat} {p0 : Nat} (ty : jTY K L R) (hg : g.length ≤ n) (o : jO K L R g n tm h) (kp0 : K p0 = 13) : mj_Ok (D + 2) 39 [.ref p0] h (jQ K L R g n tm [] jV0) := by
  refine mj_Ok.of (M := mj_m39) (loc := [some (.ref p0), none]) rfl rfl rfl ?_
  refine mj_T.pl rfl rfl rfl rfl ?_
  refine mj_T.pl (loc' := [some (.ref p0), some (.int (jn 0))]) rfl rfl rfl rfl ?_
  have t2_3 : ∀ (k4 : Nat) (x1 : Int) (h2 : mj_H), (-2147483648 ≤ x1 ∧ x1 ≤ 2147483647) → (jO K L R g n tm h2) → (0 ≤ x1) → (2147483647 - x1 : Int).toNat = k4 → mj_T (D + 1) mj_m39 2 [some (.ref p0), some (.int (jn x1))] [] h2 (jQ K L R g n tm [] jV0) := by
    refine jInd (fun k4 ih5 => ?_)
    intro x1 h2 rx1 oh2 ix1 hm6
    refine mj_T.pl rfl rfl rfl rfl ?_
    refine mj_T.pl rfl rfl rfl rfl ?_
    refine jT.getR 13 104 4 ty oh2 rfl kp0 (by decide) rfl rfl rfl (fun k7 => ?_)
    refine jT.alen 4 ty oh2 rfl k7 (by decide) (by decide) (fun z8 ez8 (az8 : 1 ≤ z8) (bz8 : z8 ≤ 25) => ?_)
    have rz8 : -2147483648 ≤ z8 ∧ z8 ≤ 2147483647 := ⟨by omega, by omega⟩
    refine jT.icmp rfl rx1 rz8 (fun c8 => ?_) (fun c8 => ?_)
    · have c8 := of_decide_eq_true c8
      iterate 2 refine mj_T.pl rfl rfl rfl rfl ?_
      refine jT.putI 13 6 oh2 rfl kp0 (by decide) rfl rfl rfl (Or.inl rfl) (by show (-1) ≤ (-1); omega) (by show (-1) ≤ 30; omega) (fun h9 oh9 wh9 uh9 => ?_)
      exact jT.ret oh9 rfl rfl rfl rfl
    · have c8 := of_decide_eq_false c8
      refine mj_T.pl rfl rfl rfl rfl ?_
      refine jT.getR 13 104 4 ty oh2 rfl kp0 (by decide) rfl rfl rfl (fun k10 => ?_)
      refine mj_T.pl rfl rfl rfl rfl ?_
      refine jT.aald 4 18 ty oh2 rfl k10 (by decide) (by decide) rfl rx1 ⟨by omega, by omega⟩ (fun k11 => ?_)
      refine jT.lc 0 rfl rfl ?_
      refine jT.call rfl rfl (Nat.le_of_ble_eq_true rfl) (Nat.le_of_ble_eq_true rfl) (jrv_of oh2 k11 (by decide) rfl (by decide) rfl _) rfl (mj_Ok.up (Nat.add_le_add_left (by decide) D) (jc_86 (D := D) ty hg oh2 k11 ⟨by decide, by decide⟩)) rfl rfl (fun v12 h13 qv12 oh13 => ?_)
      obtain rfl : v12 = none := qv12
      refine mj_T.eq (pc2 := 21) (st2 := []) ?_ rfl rfl rfl rfl
      refine jT.iinc rfl rfl (fun z14 rz14 ez14 => ?_)
      replace ez14 := ez14 ⟨by omega, by omega⟩
      refine mj_T.eq (loc2 := [some (.ref p0), some (.int (jn z14))]) ?_ rfl rfl rfl rfl
      refine mj_T.pl rfl rfl rfl rfl ?_
      exact ih5 ((2147483647 - z14 : Int).toNat) (by omega) z14 h13 rz14 oh13 (by omega) rfl
  exact t2_3 _ 0 h ⟨by decide, by decide⟩ o (by omega) rfl
-- PolyRegisters$Poly.settle()V
theorem jc_42 {D n : Nat} {tm : Int} {h g : mj_H} {K L : Nat → Nat} {R : Nat → Nat → Nat} {p0 : Nat} (ty : jTY K L R) (hg : g.length ≤ n) (o : jO K L R g n tm h) (kp0 : K p0 = 13) : mj_Ok (D + 1) 42 [.ref p0] h (jQ K L R g n tm [] jV0) := by
  refine mj_Ok.of (M := mj_m42) (loc := [some (.ref p0), none]) rfl rfl rfl ?_
  iterate 2 refine mj_T.pl rfl rfl rfl rfl ?_
  refine jT.putI 13 6 o rfl kp0 (by decide) rfl rfl rfl (Or.inl rfl) (by show (-1) ≤ (-1); omega) (by show (-1) ≤ 30; omega) (fun h1 oh1 wh1 uh1 => ?_)
  refine mj_T.pl rfl rfl rfl rfl ?_
  refine mj_T.pl (loc' := [some (.ref p0), some (.int (jn 0))]) rfl rfl rfl rfl ?_
  have t7_4 : ∀ (k5 : Nat) (x2 : Int) (h3 : mj_H), (-2147483648 ≤ x2 ∧ x2 ≤ 2147483647) → (jO K L R g n tm h3) → (0 ≤ x2) → (2147483647 - x2 : Int).toNat = k5 → mj_T (D + 0) mj_m42 7 [some (.ref p0), some (.int (jn x2))] [] h3 (jQ K L R g n tm [] jV0) := by
    refine jInd (fun k5 ih6 => ?_)
    intro x2 h3 rx2 oh3 ix2 hm7
    refine mj_T.pl rfl rfl rfl rfl ?_
    refine mj_T.pl rfl rfl rfl rfl ?_
    refine jT.getR 13 104 4 ty oh3 rfl kp0 (by decide) rfl rfl rfl (fun k8 => ?_)
    refine jT.alen 4 ty oh3 rfl k8 (by decide) (by decide) (fun z9 ez9 (az9 : 1 ≤ z9) (bz9 : z9 ≤ 25) => ?_)
    have rz9 : -2147483648 ≤ z9 ∧ z9 ≤ 2147483647 := ⟨by omega, by omega⟩
    refine jT.icmp rfl rx2 rz9 (fun c13 => ?_) (fun c13 => ?_)
    · have c13 := of_decide_eq_true c13
      exact jT.ret oh3 rfl rfl rfl rfl
    · have c13 := of_decide_eq_false c13
      iterate 2 refine mj_T.pl rfl rfl rfl rfl ?_
      refine jT.getR 13 104 4 ty oh3 rfl kp0 (by decide) rfl rfl rfl (fun k10 => ?_)
      refine mj_T.pl rfl rfl rfl rfl ?_
      refine jT.aald 4 18 ty oh3 rfl k10 (by decide) (by decide) rfl rx2 ⟨by omega, by omega⟩ (fun k11 => ?_)
      refine jT.getI 18 0 oh3 rfl k11 (by decide) rfl rfl rfl (fun z12 (az12 : (-2147483648) ≤ z12) (bz12 : z12 ≤ 2147483647) fz12 => ?_)
      have rz12 : -2147483648 ≤ z12 ∧ z12 ≤ 2147483647 := ⟨by omega, by omega⟩
      refine jT.if0 rfl rz12 (fun c26 => ?_) (fun c26 => ?_)
      · have c26 := of_decide_eq_true c26
        refine mj_T.pl rfl rfl rfl rfl ?_
        refine jT.getI 13 6 oh3 rfl kp0 (by decide) rfl rfl rfl (fun z13 (az13 : (-1) ≤ z13) (bz13 : z13 ≤ 30) fz13 => ?_)
        have rz13 : -2147483648 ≤ z13 ∧ z13 ≤ 2147483647 := ⟨by omega, by omega⟩
        refine jT.putI 13 6 oh3 rfl kp0 (by decide) rfl rfl rfl (Or.inl rfl) (by show (-1) ≤ z13; omega) (by show z13 ≤ 30; omega) (fun h14 oh14 wh14 uh14 => ?_)
        refine jT.iinc rfl rfl (fun z15 rz15 ez15 => ?_)
        replace ez15 := ez15 ⟨by omega, by omega⟩
        refine mj_T.eq (loc2 := [some (.ref p0), some (.int (jn z15))]) ?_ rfl rfl rfl rfl
        refine mj_T.pl rfl rfl rfl rfl ?_
        exact ih6 ((2147483647 - z15 : Int).toNat) (by omega) z15 h14 rz15 oh14 (by omega) rfl
      · have c26 := of_decide_eq_false c26
        iterate 2 refine mj_T.pl rfl rfl rfl rfl ?_
        refine jT.putI 13 6 oh3 rfl kp0 (by decide) rfl rfl rfl (Or.inl rfl) (by show (-1) ≤ x2; omega) (by show x2 ≤ 30; omega) (fun h16 oh16 wh16 uh16 => ?_)
        refine jT.iinc rfl rfl (fun z17 rz17 ez17 => ?_)
        replace ez17 := ez17 ⟨by omega, by omega⟩
        refine mj_T.eq (loc2 := [some (.ref p0), some (.int (jn z17))]) ?_ rfl rfl rfl rfl
        refine mj_T.pl rfl rfl rfl rfl ?_
        exact ih6 ((2147483647 - z17 : Int).toNat) (by omega) z17 h16 rz17 oh16 (by omega) rfl
  exact t7_4 _ 0 h1 ⟨by decide, by decide⟩ oh1 (by omega) rfl
-- PolyRegisters$Poly.load([JJ)V
theorem jc_40 {D n : Nat} {tm : Int} {h g : mj_H} {K L : Nat → Nat} {R : Nat → Nat → Nat} {p0 : Nat} {p1 : Nat} {p2 : Int} (ty : jTY K L R) (hg : g.length ≤ n) (o : jO K L R g n tm h) (kp0 : K p0 = 13) (kp1 : K p1 = 2) (jp2 : jR p2) : mj_Ok (D + 2) 40 [.ref p0, .ref p1, .long (jl p2)] h (jQ K L R g n tm [] jV0) := by
  refine mj_Ok.of (M := mj_m40) (loc := [some (.ref p0), some (.ref p1), some (.long (jl p2)), none, none]) rfl rfl rfl ?_
  refine mj_T.pl rfl rfl rfl rfl ?_
  refine mj_T.pl (loc' := [some (.ref p0), some (.ref p1), some (.long (jl p2)), none, some (.int (jn 0))]) rfl rfl rfl rfl ?_
  have t3_3 : ∀ (k4 : Nat) (x1 : Int) (h2 : mj_H), (-2147483648 ≤ x1 ∧ x1 ≤ 2147483647) → (jO K L R g n tm h2) → (0 ≤ x1) → (2147483647 - x1 : Int).toNat = k4 → mj_T (D + 1) mj_m40 3 [some (.ref p0), some (.ref p1), some (.long (jl p2)), none, some (.int (jn x1))] [] h2 (jQ K L R g n tm [] jV0) := by
    refine jInd (fun k4 ih5 => ?_)
    intro x1 h2 rx1 oh2 ix1 hm6
    refine mj_T.pl rfl rfl rfl rfl ?_
    refine mj_T.pl rfl rfl rfl rfl ?_
    refine jT.getR 13 104 4 ty oh2 rfl kp0 (by decide) rfl rfl rfl (fun k7 => ?_)
    refine jT.alen 4 ty oh2 rfl k7 (by decide) (by decide) (fun z8 ez8 (az8 : 1 ≤ z8) (bz8 : z8 ≤ 25) => ?_)
    have rz8 : -2147483648 ≤ z8 ∧ z8 ≤ 2147483647 := ⟨by omega, by omega⟩
    refine jT.icmp rfl rx1 rz8 (fun c10 => ?_) (fun c10 => ?_)
    · have c10 := of_decide_eq_true c10
      refine mj_T.pl rfl rfl rfl rfl ?_
      refine jT.call rfl rfl (Nat.le_of_ble_eq_true rfl) (Nat.le_of_ble_eq_true rfl) (jrv_of oh2 kp0 (by decide) rfl (by decide) rfl _) rfl (mj_Ok.up (Nat.add_le_add_left (by decide) D) (jc_42 (D := D) ty hg oh2 kp0)) rfl rfl (fun v9 h10 qv9 oh10 => ?_)
      obtain rfl : v9 = none := qv9
      refine mj_T.eq (pc2 := 56) (st2 := []) ?_ rfl rfl rfl rfl
      exact jT.ret oh10 rfl rfl rfl rfl
    · have c10 := of_decide_eq_false c10
      refine mj_T.pl rfl rfl rfl rfl ?_
      refine jT.getR 13 104 4 ty oh2 rfl kp0 (by decide) rfl rfl rfl (fun k11 => ?_)
      refine mj_T.pl rfl rfl rfl rfl ?_
      refine jT.aald 4 18 ty oh2 rfl k11 (by decide) (by decide) rfl rx1 ⟨by omega, by omega⟩ (fun k12 => ?_)
      iterate 2 refine mj_T.pl rfl rfl rfl rfl ?_
      refine jT.alen 2 ty oh2 rfl kp1 (by decide) (by decide) (fun z13 ez13 (az13 : 13 ≤ z13) (bz13 : z13 ≤ 13) => ?_)
      have rz13 : -2147483648 ≤ z13 ∧ z13 ≤ 2147483647 := ⟨by omega, by omega⟩
      refine jT.icmp rfl rx1 rz13 (fun c24 => ?_) (fun c24 => ?_)
      · have c24 := of_decide_eq_true c24
        refine jT.lc 0 rfl rfl ?_
        refine jT.call rfl rfl (Nat.le_of_ble_eq_true rfl) (Nat.le_of_ble_eq_true rfl) (jrv_of oh2 k12 (by decide) rfl (by decide) rfl _) rfl (mj_Ok.up (Nat.add_le_add_left (by decide) D) (jc_86 (D := D) ty hg oh2 k12 ⟨by decide, by decide⟩)) rfl rfl (fun v14 h15 qv14 oh15 => ?_)
        obtain rfl : v14 = none := qv14
        refine mj_T.eq (pc2 := 46) (st2 := []) ?_ rfl rfl rfl rfl
        refine jT.iinc rfl rfl (fun z16 rz16 ez16 => ?_)
        replace ez16 := ez16 ⟨by omega, by omega⟩
        refine mj_T.eq (loc2 := [some (.ref p0), some (.ref p1), some (.long (jl p2)), none, some (.int (jn z16))]) ?_ rfl rfl rfl rfl
        refine mj_T.pl rfl rfl rfl rfl ?_
        exact ih5 ((2147483647 - z16 : Int).toNat) (by omega) z16 h15 rz16 oh15 (by omega) rfl
      · have c24 := of_decide_eq_false c24
        refine mj_T.pl rfl rfl rfl rfl ?_
        refine jT.lc 0 rfl rfl ?_
        refine mj_T.lif rfl rfl jp2 ⟨by decide, by decide⟩ (fun c29 => ?_) (fun c29 => ?_)
        · have c29 := of_decide_eq_true c29
          refine jT.lc 0 rfl rfl ?_
          refine jT.call rfl rfl (Nat.le_of_ble_eq_true rfl) (Nat.le_of_ble_eq_true rfl) (jrv_of oh2 k12 (by decide) rfl (by decide) rfl _) rfl (mj_Ok.up (Nat.add_le_add_left (by decide) D) (jc_86 (D := D) ty hg oh2 k12 ⟨by decide, by decide⟩)) rfl rfl (fun v17 h18 qv17 oh18 => ?_)
          obtain rfl : v17 = none := qv17
          refine mj_T.eq (pc2 := 46) (st2 := []) ?_ rfl rfl rfl rfl
          refine jT.iinc rfl rfl (fun z19 rz19 ez19 => ?_)
          replace ez19 := ez19 ⟨by omega, by omega⟩
          refine mj_T.eq (loc2 := [some (.ref p0), some (.ref p1), some (.long (jl p2)), none, some (.int (jn z19))]) ?_ rfl rfl rfl rfl
          refine mj_T.pl rfl rfl rfl rfl ?_
          exact ih5 ((2147483647 - z19 : Int).toNat) (by omega) z19 h18 rz19 oh18 (by omega) rfl
        · have c29 := of_decide_eq_false c29
          iterate 2 refine mj_T.pl rfl rfl rfl rfl ?_
          refine jT.lald oh2 rfl kp1 rx1 ⟨by omega, by omega⟩ (fun z20 jz20 => ?_)
          refine mj_T.pl rfl rfl rfl rfl ?_
          refine jT.ldiv rfl jp2 (by omega) (fun z21 jz21 => ?_)
          refine mj_T.pl rfl rfl rfl rfl ?_
          refine jT.call rfl rfl (Nat.le_of_ble_eq_true rfl) (Nat.le_of_ble_eq_true rfl) (jrv_of oh2 k12 (by decide) rfl (by decide) rfl _) rfl (mj_Ok.up (Nat.add_le_add_left (by decide) D) (jc_86 (D := D) ty hg oh2 k12 jz21)) rfl rfl (fun v22 h23 qv22 oh23 => ?_)
          obtain rfl : v22 = none := qv22
          refine mj_T.eq (pc2 := 46) (st2 := []) ?_ rfl rfl rfl rfl
          refine jT.iinc rfl rfl (fun z24 rz24 ez24 => ?_)
          replace ez24 := ez24 ⟨by omega, by omega⟩
          refine mj_T.eq (loc2 := [some (.ref p0), some (.ref p1), some (.long (jl p2)), none, some (.int (jn z24))]) ?_ rfl rfl rfl rfl
          refine mj_T.pl rfl rfl rfl rfl ?_
          exact ih5 ((2147483647 - z24 : Int).toNat) (by omega) z24 h23 rz24 oh23 (by omega) rfl
  exact t3_3 _ 0 h ⟨by decide, by decide⟩ o (by omega) rfl
-- PolyRegisters$Poly.set(LPolyRegisters$Poly;)V
theorem jc_41 {D n : Nat} {tm : Int} {h g : mj_H} {K L : Nat → Nat} {R : Nat → Nat → Nat} {p0 : Nat} {p1 : Nat} (ty : jTY K L R) (hg : g.length ≤ n) (o : jO K L R g n tm h) (kp0 : K p0 = 13) (kp1 : K p1 = 13) : mj_Ok (D + 2) 41 [.ref p0, .ref p1] h (jQ K L R g n tm [] jV0) := by
  refine mj_Ok.of (M := mj_m41) (loc := [some (.ref p0), some (.ref p1), none]) rfl rfl rfl ?_
  refine mj_T.pl rfl rfl rfl rfl ?_
  refine mj_T.pl (loc' := [some (.ref p0), some (.ref p1), some (.int (jn 0))]) rfl rfl rfl rfl ?_
  have t2_3 : ∀ (k4 : Nat) (x1 : Int) (h2 : mj_H), (-2147483648 ≤ x1 ∧ x1 ≤ 2147483647) → (jO K L R g n tm h2) → (0 ≤ x1) → (2147483647 - x1 : Int).toNat = k4 → mj_T (D + 1) mj_m41 2 [some (.ref p0), some (.ref p1), some (.int (jn x1))] [] h2 (jQ K L R g n tm [] jV0) := by
    refine jInd (fun k4 ih5 => ?_)
    intro x1 h2 rx1 oh2 ix1 hm6
    refine mj_T.pl rfl rfl rfl rfl ?_
    refine mj_T.pl rfl rfl rfl rfl ?_
    refine jT.getR 13 104 4 ty oh2 rfl kp0 (by decide) rfl rfl rfl (fun k7 => ?_)
    refine jT.alen 4 ty oh2 rfl k7 (by decide) (by decide) (fun z8 ez8 (az8 : 1 ≤ z8) (bz8 : z8 ≤ 25) => ?_)
    have rz8 : -2147483648 ≤ z8 ∧ z8 ≤ 2147483647 := ⟨by omega, by omega⟩
    refine jT.icmp rfl rx1 rz8 (fun c8 => ?_) (fun c8 => ?_)
    · have c8 := of_decide_eq_true c8
      refine mj_T.pl rfl rfl rfl rfl ?_
      refine jT.call rfl rfl (Nat.le_of_ble_eq_true rfl) (Nat.le_of_ble_eq_true rfl) (jrv_of oh2 kp0 (by decide) rfl (by decide) rfl _) rfl (mj_Ok.up (Nat.add_le_add_left (by decide) D) (jc_42 (D := D) ty hg oh2 kp0)) rfl rfl (fun v9 h10 qv9 oh10 => ?_)
      obtain rfl : v9 = none := qv9
      refine mj_T.eq (pc2 := 35) (st2 := []) ?_ rfl rfl rfl rfl
      exact jT.ret oh10 rfl rfl rfl rfl
    · have c8 := of_decide_eq_false c8
      refine mj_T.pl rfl rfl rfl rfl ?_
      refine jT.getR 13 104 4 ty oh2 rfl kp0 (by decide) rfl rfl rfl (fun k11 => ?_)
      refine mj_T.pl rfl rfl rfl rfl ?_
      refine jT.aald 4 18 ty oh2 rfl k11 (by decide) (by decide) rfl rx1 ⟨by omega, by omega⟩ (fun k12 => ?_)
      iterate 2 refine mj_T.pl rfl rfl rfl rfl ?_
      refine jT.callp rfl rfl (Nat.le_of_ble_eq_true rfl) (Nat.le_of_ble_eq_true rfl) (jrv_of oh2 kp1 (by decide) rfl (by decide) rfl _) rfl (mj_Ok.up (Nat.add_le_add_left (by decide) D) (jc_36 (D := D) ty hg oh2 kp1 rx1)) rfl rfl (fun v13 qv13 => ?_)
      obtain ⟨a14, ka14, rfl⟩ := qv13
      refine mj_T.eq (pc2 := 22) (st2 := [.ref a14, .ref (R (R p0 0) (x1 : Int).toNat)]) ?_ rfl rfl rfl rfl
      refine jT.call rfl rfl (Nat.le_of_ble_eq_true rfl) (Nat.le_of_ble_eq_true rfl) (jrv_of oh2 k12 (by decide) rfl (by decide) rfl _) rfl (mj_Ok.up (Nat.add_le_add_left (by decide) D) (jc_87 (D := D) ty hg oh2 k12 ka14)) rfl rfl (fun v15 h16 qv15 oh16 => ?_)
      obtain rfl : v15 = none := qv15
      refine mj_T.eq (pc2 := 25) (st2 := []) ?_ rfl rfl rfl rfl
      refine jT.iinc rfl rfl (fun z17 rz17 ez17 => ?_)
      replace ez17 := ez17 ⟨by omega, by omega⟩
      refine mj_T.eq (loc2 := [some (.ref p0), some (.ref p1), some (.int (jn z17))]) ?_ rfl rfl rfl rfl
      refine mj_T.pl rfl rfl rfl rfl ?_
      exact ih5 ((2147483647 - z17 : Int).toNat) (by omega) z17 h16 rz17 oh16 (by omega) rfl
  exact t2_3 _ 0 h ⟨by decide, by decide⟩ o (by omega) rfl
-- PolyRegisters$Poly.negate()V
theorem jc_43 {D n : Nat} {tm : Int} {h g : mj_H} {K L : Nat → Nat} {R : Nat → Nat → Nat} {p0 : Nat} (ty : jTY K L R) (hg : g.length ≤ n) (o : jO K L R g n tm h) (kp0 : K p0 = 13) : mj_Ok (D + 1) 43 [.ref p0] h (jQ K L R g n tm [] jV0) := by
  refine mj_Ok.of (M := mj_m43) (loc := [some (.ref p0), none]) rfl rfl rfl ?_
  refine mj_T.pl rfl rfl rfl rfl ?_
  refine mj_T.pl (loc' := [some (.ref p0), some (.int (jn 0))]) rfl rfl rfl rfl ?_
  have t2_3 : ∀ (k4 : Nat) (x1 : Int) (h2 : mj_H), (-2147483648 ≤ x1 ∧ x1 ≤ 2147483647) → (jO K L R g n tm h2) → (0 ≤ x1) → (2147483647 - x1 : Int).toNat = k4 → mj_T (D + 0) mj_m43 2 [some (.ref p0), some (.int (jn x1))] [] h2 (jQ K L R g n tm [] jV0) := by
    refine jInd (fun k4 ih5 => ?_)
    intro x1 h2 rx1 oh2 ix1 hm6
    refine mj_T.pl rfl rfl rfl rfl ?_
    refine mj_T.pl rfl rfl rfl rfl ?_
    refine jT.getR 13 104 4 ty oh2 rfl kp0 (by decide) rfl rfl rfl (fun k7 => ?_)
    refine jT.alen 4 ty oh2 rfl k7 (by decide) (by decide) (fun z8 ez8 (az8 : 1 ≤ z8) (bz8 : z8 ≤ 25) => ?_)
    have rz8 : -2147483648 ≤ z8 ∧ z8 ≤ 2147483647 := ⟨by omega, by omega⟩
    refine jT.icmp rfl rx1 rz8 (fun c8 => ?_) (fun c8 => ?_)
    · have c8 := of_decide_eq_true c8
      exact jT.ret oh2 rfl rfl rfl rfl
    · have c8 := of_decide_eq_false c8
      refine mj_T.pl rfl rfl rfl rfl ?_
      refine jT.getR 13 104 4 ty oh2 rfl kp0 (by decide) rfl rfl rfl (fun k9 => ?_)
      refine mj_T.pl rfl rfl rfl rfl ?_
      refine jT.aald 4 18 ty oh2 rfl k9 (by decide) (by decide) rfl rx1 ⟨by omega, by omega⟩ (fun k10 => ?_)
      refine mj_T.pl rfl rfl rfl rfl ?_
      refine jT.getR 13 104 4 ty oh2 rfl kp0 (by decide) rfl rfl rfl (fun k11 => ?_)
      refine mj_T.pl rfl rfl rfl rfl ?_
      refine jT.aald 4 18 ty oh2 rfl k11 (by decide) (by decide) rfl rx1 ⟨by omega, by omega⟩ (fun k12 => ?_)
      refine jT.getI 18 0 oh2 rfl k12 (by decide) rfl rfl rfl (fun z13 (az13 : (-2147483648) ≤ z13) (bz13 : z13 ≤ 2147483647) fz13 => ?_)
      have rz13 : -2147483648 ≤ z13 ∧ z13 ≤ 2147483647 := ⟨by omega, by omega⟩
      refine jT.ineg rfl (fun z14 rz14 _ => ?_)
      refine jT.putI 18 0 oh2 rfl k10 (by decide) rfl rfl rfl (Or.inl rfl) (by show (-2147483648) ≤ z14; omega) (by show z14 ≤ 2147483647; omega) (fun h15 oh15 wh15 uh15 => ?_)
      refine jT.iinc rfl rfl (fun z16 rz16 ez16 => ?_)
      replace ez16 := ez16 ⟨by omega, by omega⟩
      refine mj_T.eq (loc2 := [some (.ref p0), some (.int (jn z16))]) ?_ rfl rfl rfl rfl
      refine mj_T.pl rfl rfl rfl rfl ?_
      exact ih5 ((2147483647 - z16 : Int).toNat) (by omega) z16 h15 rz16 oh15 (by omega) rfl
  exact t2_3 _ 0 h ⟨by decide, by decide⟩ o (by omega) rfl
-- PolyRegisters$Poly.store([J)Z
theorem jc_44 {D n : Nat} {tm : Int} {h g : mj_H} {K L : Nat → Nat} {R : Nat → Nat → Nat} {p0 : Nat} {p1 : Nat} (ty : jTY K L R) (hg : g.length ≤ n) (o : jO K L R g n tm h) (kp0 : K p0 = 13) (kp1 : K p1 = 2) : mj_Ok (D + 2) 44 [.ref p0, .ref p1] h (jQ K L R g n tm [] (jVi 0 1)) := by
  refine mj_Ok.of (M := mj_m44) (loc := [some (.ref p0), some (.ref p1), none]) rfl rfl rfl ?_
  refine mj_T.pl rfl rfl rfl rfl ?_
  refine mj_T.pl (loc' := [some (.ref p0), some (.ref p1), some (.int (jn 0))]) rfl rfl rfl rfl ?_
  have t2_2 : ∀ (k3 : Nat) (x1 : Int), (-2147483648 ≤ x1 ∧ x1 ≤ 2147483647) → (0 ≤ x1) → (2147483647 - x1 : Int).toNat = k3 → mj_T (D + 1) mj_m44 2 [some (.ref p0), some (.ref p1), some (.int (jn x1))] [] h (jQ K L R g n tm [] (jVi 0 1)) := by
    refine jInd (fun k3 ih4 => ?_)
    intro x1 rx1 ix1 hm5
    refine mj_T.pl rfl rfl rfl rfl ?_
    refine mj_T.pl rfl rfl rfl rfl ?_
    refine jT.getR 13 104 4 ty o rfl kp0 (by decide) rfl rfl rfl (fun k6 => ?_)
    refine jT.alen 4 ty o rfl k6 (by decide) (by decide) (fun z7 ez7 (az7 : 1 ≤ z7) (bz7 : z7 ≤ 25) => ?_)
    have rz7 : -2147483648 ≤ z7 ∧ z7 ≤ 2147483647 := ⟨by omega, by omega⟩
    refine jT.icmp rfl rx1 rz7 (fun c8 => ?_) (fun c8 => ?_)
    · have c8 := of_decide_eq_true c8
      refine mj_T.pl rfl rfl rfl rfl ?_
      refine mj_T.pl (loc' := [some (.ref p0), some (.ref p1), some (.int (jn 0))]) rfl rfl rfl rfl ?_
      have t44_10 : ∀ (k11 : Nat) (x8 : Int) (h9 : mj_H), (-2147483648 ≤ x8 ∧ x8 ≤ 2147483647) → (jO K L R g n tm h9) → (0 ≤ x8) → (2147483647 - x8 : Int).toNat = k11 → mj_T (D + 1) mj_m44 44 [some (.ref p0), some (.ref p1), some (.int (jn x8))] [] h9 (jQ K L R g n tm [] (jVi 0 1)) := by
        refine jInd (fun k11 ih12 => ?_)
        intro x8 h9 rx8 oh9 ix8 hm13
        refine mj_T.pl rfl rfl rfl rfl ?_
        refine mj_T.pl rfl rfl rfl rfl ?_
        refine jT.alen 2 ty oh9 rfl kp1 (by decide) (by decide) (fun z14 ez14 (az14 : 13 ≤ z14) (bz14 : z14 ≤ 13) => ?_)
        have rz14 : -2147483648 ≤ z14 ∧ z14 ≤ 2147483647 := ⟨by omega, by omega⟩
        refine jT.icmp rfl rx8 rz14 (fun c47 => ?_) (fun c47 => ?_)
        · have c47 := of_decide_eq_true c47
          refine mj_T.pl rfl rfl rfl rfl ?_
          exact jT.retb oh9 rfl rfl (by omega) (by omega)
        · have c47 := of_decide_eq_false c47
          iterate 4 refine mj_T.pl rfl rfl rfl rfl ?_
          refine jT.callp rfl rfl (Nat.le_of_ble_eq_true rfl) (Nat.le_of_ble_eq_true rfl) (jrv_of oh9 kp0 (by decide) rfl (by decide) rfl _) rfl (mj_Ok.up (Nat.add_le_add_left (by decide) D) (jc_36 (D := D) ty hg oh9 kp0 rx8)) rfl rfl (fun v15 qv15 => ?_)
          obtain ⟨a16, ka16, rfl⟩ := qv15
          refine mj_T.eq (pc2 := 57) (st2 := [.ref a16, .int (jn x8), .ref p1]) ?_ rfl rfl rfl rfl
          refine jT.callp rfl rfl (Nat.le_of_ble_eq_true rfl) (Nat.le_of_ble_eq_true rfl) (jrv_of oh9 ka16 (by decide) rfl (by decide) rfl _) rfl (mj_Ok.up (Nat.add_le_add_left (by decide) D) (jc_100 (D := D) ty hg oh9 ka16)) rfl rfl (fun v17 qv17 => ?_)
          obtain ⟨z18, jz18, rfl⟩ := qv17
          refine mj_T.eq (pc2 := 60) (st2 := [.long (jl z18), .int (jn x8), .ref p1]) ?_ rfl rfl rfl rfl
          refine jT.last oh9 rfl kp1 rx8 ⟨by omega, by omega⟩ jz18 (fun h19 oh19 uh19 => ?_)
          refine jT.iinc rfl rfl (fun z20 rz20 ez20 => ?_)
          replace ez20 := ez20 ⟨by omega, by omega⟩
          refine mj_T.eq (loc2 := [some (.ref p0), some (.ref p1), some (.int (jn z20))]) ?_ rfl rfl rfl rfl
          refine mj_T.pl rfl rfl rfl rfl ?_
          exact ih12 ((2147483647 - z20 : Int).toNat) (by omega) z20 h19 rz20 oh19 (by omega) rfl
      exact t44_10 _ 0 h ⟨by decide, by decide⟩ o (by omega) rfl
    · have c8 := of_decide_eq_false c8
      refine mj_T.pl rfl rfl rfl rfl ?_
      refine jT.getR 13 104 4 ty o rfl kp0 (by decide) rfl rfl rfl (fun k21 => ?_)
      refine mj_T.pl rfl rfl rfl rfl ?_
      refine jT.aald 4 18 ty o rfl k21 (by decide) (by decide) rfl rx1 ⟨by omega, by omega⟩ (fun k22 => ?_)
      refine jT.getI 18 10 o rfl k22 (by decide) rfl rfl rfl (fun z23 (az23 : 0 ≤ z23) (bz23 : z23 ≤ 1000) fz23 => ?_)
      have rz23 : -2147483648 ≤ z23 ∧ z23 ≤ 2147483647 := ⟨by omega, by omega⟩
      iterate 2 refine mj_T.pl rfl rfl rfl rfl ?_
      have t31_25 : ∀ (x24 : Int), (-2147483648 ≤ x24 ∧ x24 ≤ 2147483647) → mj_T (D + 1) mj_m44 31 [some (.ref p0), some (.ref p1), some (.int (jn x1))] [.int (jn x24), .int (jn z23)] h (jQ K L R g n tm [] (jVi 0 1)) := by
        intro x24 rx24
        refine jT.icmp rfl rz23 rx24 (fun c31 => ?_) (fun c31 => ?_)
        · have c31 := of_decide_eq_true c31
          refine jT.iinc rfl rfl (fun z26 rz26 ez26 => ?_)
          replace ez26 := ez26 ⟨by omega, by omega⟩
          refine mj_T.eq (loc2 := [some (.ref p0), some (.ref p1), some (.int (jn z26))]) ?_ rfl rfl rfl rfl
          refine mj_T.pl rfl rfl rfl rfl ?_
          exact ih4 ((2147483647 - z26 : Int).toNat) (by omega) z26 rz26 (by omega) rfl
        · have c31 := of_decide_eq_false c31
          refine mj_T.pl rfl rfl rfl rfl ?_
          exact jT.retb o rfl rfl (by omega) (by omega)
      refine jT.icmp rfl rx1 ⟨by decide, by decide⟩ (fun c23 => ?_) (fun c23 => ?_)
      · have c23 := of_decide_eq_true c23
        refine mj_T.pl rfl rfl rfl rfl ?_
        exact t31_25 0 ⟨by decide, by decide⟩
      · have c23 := of_decide_eq_false c23
        iterate 2 refine mj_T.pl rfl rfl rfl rfl ?_
        exact t31_25 2 ⟨by decide, by decide⟩
  exact t2_2 _ 0 ⟨by decide, by decide⟩ (by omega) rfl
