/-! The class by kinds: what others call. -/
-- PolyRegisters.rowOf(I)[J
theorem jc_149 {D n : Nat} {tm : Int} {h g : mj_H} {K L : Nat → Nat} {R : Nat → Nat → Nat} {p0 : Nat} {p1 : Int} (ty : jTY K L R) (hg : g.length ≤ n) (o : jO K L R g n tm h) (kp0 : K p0 = 19) (rp1 : -2147483648 ≤ p1 ∧ p1 ≤ 2147483647) : mj_Ok (D + 1) 149 [.ref p0, .int (jn p1)] h (jQp K L R g n tm h [0] (jVr K 2)) := by
  refine mj_Ok.of (M := mj_m149) (loc := [some (.ref p0), some (.int (jn p1))]) rfl rfl rfl ?_
  refine mj_T.pl rfl rfl rfl rfl ?_
  refine jT.if0 rfl rp1 (fun c1 => ?_) (fun c1 => ?_)
  · have c1 := of_decide_eq_true c1
    exact jT.thrp o hg rfl rfl rfl (Nat.le_of_ble_eq_true rfl) rfl
  · have c1 := of_decide_eq_false c1
    iterate 2 refine mj_T.pl rfl rfl rfl rfl ?_
    refine jT.getR 19 110 10 ty o rfl kp0 (by decide) rfl rfl rfl (fun k1 => ?_)
    refine jT.getR 10 106 6 ty o rfl k1 (by decide) rfl rfl rfl (fun k2 => ?_)
    refine jT.alen 6 ty o rfl k2 (by decide) (by decide) (fun z3 ez3 (az3 : 6 ≤ z3) (bz3 : z3 ≤ 9) => ?_)
    have rz3 : -2147483648 ≤ z3 ∧ z3 ≤ 2147483647 := ⟨by omega, by omega⟩
    refine jT.icmp rfl rp1 rz3 (fun c13 => ?_) (fun c13 => ?_)
    · have c13 := of_decide_eq_true c13
      refine mj_T.pl rfl rfl rfl rfl ?_
      refine jT.getR 19 110 10 ty o rfl kp0 (by decide) rfl rfl rfl (fun k4 => ?_)
      refine jT.getR 10 106 6 ty o rfl k4 (by decide) rfl rfl rfl (fun k5 => ?_)
      refine mj_T.pl rfl rfl rfl rfl ?_
      refine jT.aald 6 2 ty o rfl k5 (by decide) (by decide) rfl rp1 ⟨by omega, by omega⟩ (fun k6 => ?_)
      exact jT.retp rfl rfl rfl ⟨(R (R (R p0 0) 0) (p1 : Int).toNat), k6, rfl⟩
    · have c13 := of_decide_eq_false c13
      exact jT.thrp o hg rfl rfl rfl (Nat.le_of_ble_eq_true rfl) rfl
-- PolyRegisters.checkExponent(I)V
theorem jc_150 {D n : Nat} {tm : Int} {h g : mj_H} {K L : Nat → Nat} {R : Nat → Nat → Nat} {p0 : Int} (ty : jTY K L R) (hg : g.length ≤ n) (o : jO K L R g n tm h) (rp0 : -2147483648 ≤ p0 ∧ p0 ≤ 2147483647) : mj_Ok (D + 1) 150 [.int (jn p0)] h (jQp K L R g n tm h [2] (jVp (0 ≤ p0 ∧ p0 ≤ 12))) := by
  refine mj_Ok.of (M := mj_m150) (loc := [some (.int (jn p0))]) rfl rfl rfl ?_
  refine mj_T.pl rfl rfl rfl rfl ?_
  refine jT.if0 rfl rp0 (fun c1 => ?_) (fun c1 => ?_)
  · have c1 := of_decide_eq_true c1
    exact jT.thrp o hg rfl rfl rfl (Nat.le_of_ble_eq_true rfl) rfl
  · have c1 := of_decide_eq_false c1
    iterate 2 refine mj_T.pl rfl rfl rfl rfl ?_
    refine jT.icmp rfl rp0 ⟨by decide, by decide⟩ (fun c7 => ?_) (fun c7 => ?_)
    · have c7 := of_decide_eq_true c7
      exact jT.retp rfl rfl rfl ⟨rfl, by omega⟩
    · have c7 := of_decide_eq_false c7
      exact jT.thrp o hg rfl rfl rfl (Nat.le_of_ble_eq_true rfl) rfl
-- PolyRegisters.checkFraction(II)V
theorem jc_151 {D n : Nat} {tm : Int} {h g : mj_H} {K L : Nat → Nat} {R : Nat → Nat → Nat} {p0 : Int} {p1 : Int} (ty : jTY K L R) (hg : g.length ≤ n) (o : jO K L R g n tm h) (rp0 : -2147483648 ≤ p0 ∧ p0 ≤ 2147483647) (rp1 : -2147483648 ≤ p1 ∧ p1 ≤ 2147483647) : mj_Ok (D + 1) 151 [.int (jn p0), .int (jn p1)] h (jQp K L R g n tm h [2] jV0) := by
  refine mj_Ok.of (M := mj_m151) (loc := [some (.int (jn p0)), some (.int (jn p1))]) rfl rfl rfl ?_
  iterate 2 refine mj_T.pl rfl rfl rfl rfl ?_
  refine jT.icmp rfl rp0 ⟨by decide, by decide⟩ (fun c4 => ?_) (fun c4 => ?_)
  · have c4 := of_decide_eq_true c4
    exact jT.thrp o hg rfl rfl rfl (Nat.le_of_ble_eq_true rfl) rfl
  · have c4 := of_decide_eq_false c4
    iterate 2 refine mj_T.pl rfl rfl rfl rfl ?_
    refine jT.icmp rfl rp0 ⟨by decide, by decide⟩ (fun c11 => ?_) (fun c11 => ?_)
    · have c11 := of_decide_eq_true c11
      exact jT.thrp o hg rfl rfl rfl (Nat.le_of_ble_eq_true rfl) rfl
    · have c11 := of_decide_eq_false c11
      iterate 2 refine mj_T.pl rfl rfl rfl rfl ?_
      refine jT.icmp rfl rp1 ⟨by decide, by decide⟩ (fun c16 => ?_) (fun c16 => ?_)
      · have c16 := of_decide_eq_true c16
        exact jT.thrp o hg rfl rfl rfl (Nat.le_of_ble_eq_true rfl) rfl
      · have c16 := of_decide_eq_false c16
        iterate 2 refine mj_T.pl rfl rfl rfl rfl ?_
        refine jT.icmp rfl rp1 ⟨by decide, by decide⟩ (fun c23 => ?_) (fun c23 => ?_)
        · have c23 := of_decide_eq_true c23
          exact jT.retp rfl rfl rfl rfl
        · have c23 := of_decide_eq_false c23
          exact jT.thrp o hg rfl rfl rfl (Nat.le_of_ble_eq_true rfl) rfl
-- PolyRegisters.checkPrime(I)V
theorem jc_152 {D n : Nat} {tm : Int} {h g : mj_H} {K L : Nat → Nat} {R : Nat → Nat → Nat} {p0 : Int} (ty : jTY K L R) (hg : g.length ≤ n) (o : jO K L R g n tm h) (rp0 : -2147483648 ≤ p0 ∧ p0 ≤ 2147483647) : mj_Ok (D + 1) 152 [.int (jn p0)] h (jQp K L R g n tm h [2] jV0) := by
  refine mj_Ok.of (M := mj_m152) (loc := [some (.int (jn p0)), none, none]) rfl rfl rfl ?_
  iterate 2 refine mj_T.pl rfl rfl rfl rfl ?_
  refine jT.icmp rfl rp0 ⟨by decide, by decide⟩ (fun c2 => ?_) (fun c2 => ?_)
  · have c2 := of_decide_eq_true c2
    refine mj_T.pl rfl rfl rfl rfl ?_
    refine mj_T.pl (loc' := [some (.int (jn p0)), some (.int (jn 0)), none]) rfl rfl rfl rfl ?_
    refine mj_T.pl rfl rfl rfl rfl ?_
    refine mj_T.pl (loc' := [some (.int (jn p0)), some (.int (jn 0)), some (.int (jn 2))]) rfl rfl rfl rfl ?_
    have t19_3 : ∀ (k4 : Nat) (x1 : Int) (x2 : Int), (0 ≤ x1 ∧ x1 ≤ 1) → (-2147483648 ≤ x2 ∧ x2 ≤ 2147483647) → (2 ≤ x2) → (2 ≤ x2 ∧ x2 ≤ 10) → (2147483647 - x2 : Int).toNat = k4 → mj_T (D + 0) mj_m152 19 [some (.int (jn p0)), some (.int (jn x1)), some (.int (jn x2))] [] h (jQp K L R g n tm h [2] jV0) := by
      refine jInd (fun k4 ih5 => ?_)
      intro x1 x2 ax1 rx2 ix2 ivx2 hm6
      have rx1 : -2147483648 ≤ x1 ∧ x1 ≤ 2147483647 := ⟨by omega, by omega⟩
      refine mj_T.pl rfl rfl rfl rfl ?_
      refine mj_T.pl rfl rfl rfl rfl ?_
      refine jT.imul rfl (fun z7 rz7 ez7 => ?_)
      replace ez7 := jsq ivx2 ez7
      refine mj_T.pl rfl rfl rfl rfl ?_
      refine jT.icmp rfl rz7 ⟨by decide, by decide⟩ (fun c24 => ?_) (fun c24 => ?_)
      · have c24 := of_decide_eq_true c24
        refine mj_T.pl rfl rfl rfl rfl ?_
        refine jT.if0 rfl rx1 (fun c55 => ?_) (fun c55 => ?_)
        · have c55 := jne1 c55
          exact jT.retp rfl rfl rfl rfl
        · have c55 := jne2 c55
          exact jT.thrp o hg rfl rfl rfl (Nat.le_of_ble_eq_true rfl) rfl
      · have c24 := of_decide_eq_false c24
        refine mj_T.pl rfl rfl rfl rfl ?_
        refine jT.if0 rfl rx1 (fun c28 => ?_) (fun c28 => ?_)
        · have c28 := of_decide_eq_true c28
          refine mj_T.pl rfl rfl rfl rfl ?_
          refine mj_T.pl (loc' := [some (.int (jn p0)), some (.int (jn 0)), some (.int (jn x2))]) rfl rfl rfl rfl ?_
          refine jT.iinc rfl rfl (fun z8 rz8 ez8 => ?_)
          replace ez8 := ez8 ⟨by omega, by omega⟩
          refine mj_T.eq (loc2 := [some (.int (jn p0)), some (.int (jn 0)), some (.int (jn z8))]) ?_ rfl rfl rfl rfl
          refine mj_T.pl rfl rfl rfl rfl ?_
          exact ih5 ((2147483647 - z8 : Int).toNat) (by omega) 0 z8 ⟨by omega, by omega⟩ rz8 (by omega) (by omega) rfl
        · have c28 := of_decide_eq_false c28
          iterate 2 refine mj_T.pl rfl rfl rfl rfl ?_
          refine jT.icmp rfl rp0 rx2 (fun c33 => ?_) (fun c33 => ?_)
          · have c33 := of_decide_eq_true c33
            iterate 2 refine mj_T.pl rfl rfl rfl rfl ?_
            refine mj_T.pl (loc' := [some (.int (jn p0)), some (.int (jn 1)), some (.int (jn x2))]) rfl rfl rfl rfl ?_
            refine jT.iinc rfl rfl (fun z9 rz9 ez9 => ?_)
            replace ez9 := ez9 ⟨by omega, by omega⟩
            refine mj_T.eq (loc2 := [some (.int (jn p0)), some (.int (jn 1)), some (.int (jn z9))]) ?_ rfl rfl rfl rfl
            refine mj_T.pl rfl rfl rfl rfl ?_
            exact ih5 ((2147483647 - z9 : Int).toNat) (by omega) 1 z9 ⟨by omega, by omega⟩ rz9 (by omega) (by omega) rfl
          · have c33 := of_decide_eq_false c33
            iterate 2 refine mj_T.pl rfl rfl rfl rfl ?_
            refine jT.irem rfl rx2 (by omega) (fun z10 rz10 => ?_)
            refine jT.if0 rfl rz10 (fun c39 => ?_) (fun c39 => ?_)
            · have c39 := of_decide_eq_true c39
              refine mj_T.pl rfl rfl rfl rfl ?_
              refine mj_T.pl (loc' := [some (.int (jn p0)), some (.int (jn 0)), some (.int (jn x2))]) rfl rfl rfl rfl ?_
              refine jT.iinc rfl rfl (fun z11 rz11 ez11 => ?_)
              replace ez11 := ez11 ⟨by omega, by omega⟩
              refine mj_T.eq (loc2 := [some (.int (jn p0)), some (.int (jn 0)), some (.int (jn z11))]) ?_ rfl rfl rfl rfl
              refine mj_T.pl rfl rfl rfl rfl ?_
              exact ih5 ((2147483647 - z11 : Int).toNat) (by omega) 0 z11 ⟨by omega, by omega⟩ rz11 (by omega) (by omega) rfl
            · have c39 := of_decide_eq_false c39
              iterate 2 refine mj_T.pl rfl rfl rfl rfl ?_
              refine mj_T.pl (loc' := [some (.int (jn p0)), some (.int (jn 1)), some (.int (jn x2))]) rfl rfl rfl rfl ?_
              refine jT.iinc rfl rfl (fun z12 rz12 ez12 => ?_)
              replace ez12 := ez12 ⟨by omega, by omega⟩
              refine mj_T.eq (loc2 := [some (.int (jn p0)), some (.int (jn 1)), some (.int (jn z12))]) ?_ rfl rfl rfl rfl
              refine mj_T.pl rfl rfl rfl rfl ?_
              exact ih5 ((2147483647 - z12 : Int).toNat) (by omega) 1 z12 ⟨by omega, by omega⟩ rz12 (by omega) (by omega) rfl
    exact t19_3 _ 0 2 ⟨by omega, by omega⟩ ⟨by decide, by decide⟩ (by omega) (by omega) rfl
  · have c2 := of_decide_eq_false c2
    iterate 2 refine mj_T.pl rfl rfl rfl rfl ?_
    refine jT.icmp rfl rp0 ⟨by decide, by decide⟩ (fun c8 => ?_) (fun c8 => ?_)
    · have c8 := of_decide_eq_true c8
      refine mj_T.pl rfl rfl rfl rfl ?_
      refine mj_T.pl (loc' := [some (.int (jn p0)), some (.int (jn 0)), none]) rfl rfl rfl rfl ?_
      refine mj_T.pl rfl rfl rfl rfl ?_
      refine mj_T.pl (loc' := [some (.int (jn p0)), some (.int (jn 0)), some (.int (jn 2))]) rfl rfl rfl rfl ?_
      have t19_15 : ∀ (k16 : Nat) (x13 : Int) (x14 : Int), (0 ≤ x13 ∧ x13 ≤ 1) → (-2147483648 ≤ x14 ∧ x14 ≤ 2147483647) → (2 ≤ x14) → (2 ≤ x14 ∧ x14 ≤ 10) → (2147483647 - x14 : Int).toNat = k16 → mj_T (D + 0) mj_m152 19 [some (.int (jn p0)), some (.int (jn x13)), some (.int (jn x14))] [] h (jQp K L R g n tm h [2] jV0) := by
        refine jInd (fun k16 ih17 => ?_)
        intro x13 x14 ax13 rx14 ix14 ivx14 hm18
        have rx13 : -2147483648 ≤ x13 ∧ x13 ≤ 2147483647 := ⟨by omega, by omega⟩
        refine mj_T.pl rfl rfl rfl rfl ?_
        refine mj_T.pl rfl rfl rfl rfl ?_
        refine jT.imul rfl (fun z19 rz19 ez19 => ?_)
        replace ez19 := jsq ivx14 ez19
        refine mj_T.pl rfl rfl rfl rfl ?_
        refine jT.icmp rfl rz19 ⟨by decide, by decide⟩ (fun c24 => ?_) (fun c24 => ?_)
        · have c24 := of_decide_eq_true c24
          refine mj_T.pl rfl rfl rfl rfl ?_
          refine jT.if0 rfl rx13 (fun c55 => ?_) (fun c55 => ?_)
          · have c55 := jne1 c55
            exact jT.retp rfl rfl rfl rfl
          · have c55 := jne2 c55
            exact jT.thrp o hg rfl rfl rfl (Nat.le_of_ble_eq_true rfl) rfl
        · have c24 := of_decide_eq_false c24
          refine mj_T.pl rfl rfl rfl rfl ?_
          refine jT.if0 rfl rx13 (fun c28 => ?_) (fun c28 => ?_)
          · have c28 := of_decide_eq_true c28
            refine mj_T.pl rfl rfl rfl rfl ?_
            refine mj_T.pl (loc' := [some (.int (jn p0)), some (.int (jn 0)), some (.int (jn x14))]) rfl rfl rfl rfl ?_
            refine jT.iinc rfl rfl (fun z20 rz20 ez20 => ?_)
            replace ez20 := ez20 ⟨by omega, by omega⟩
            refine mj_T.eq (loc2 := [some (.int (jn p0)), some (.int (jn 0)), some (.int (jn z20))]) ?_ rfl rfl rfl rfl
            refine mj_T.pl rfl rfl rfl rfl ?_
            exact ih17 ((2147483647 - z20 : Int).toNat) (by omega) 0 z20 ⟨by omega, by omega⟩ rz20 (by omega) (by omega) rfl
          · have c28 := of_decide_eq_false c28
            iterate 2 refine mj_T.pl rfl rfl rfl rfl ?_
            refine jT.icmp rfl rp0 rx14 (fun c33 => ?_) (fun c33 => ?_)
            · have c33 := of_decide_eq_true c33
              iterate 2 refine mj_T.pl rfl rfl rfl rfl ?_
              refine mj_T.pl (loc' := [some (.int (jn p0)), some (.int (jn 1)), some (.int (jn x14))]) rfl rfl rfl rfl ?_
              refine jT.iinc rfl rfl (fun z21 rz21 ez21 => ?_)
              replace ez21 := ez21 ⟨by omega, by omega⟩
              refine mj_T.eq (loc2 := [some (.int (jn p0)), some (.int (jn 1)), some (.int (jn z21))]) ?_ rfl rfl rfl rfl
              refine mj_T.pl rfl rfl rfl rfl ?_
              exact ih17 ((2147483647 - z21 : Int).toNat) (by omega) 1 z21 ⟨by omega, by omega⟩ rz21 (by omega) (by omega) rfl
            · have c33 := of_decide_eq_false c33
              iterate 2 refine mj_T.pl rfl rfl rfl rfl ?_
              refine jT.irem rfl rx14 (by omega) (fun z22 rz22 => ?_)
              refine jT.if0 rfl rz22 (fun c39 => ?_) (fun c39 => ?_)
              · have c39 := of_decide_eq_true c39
                refine mj_T.pl rfl rfl rfl rfl ?_
                refine mj_T.pl (loc' := [some (.int (jn p0)), some (.int (jn 0)), some (.int (jn x14))]) rfl rfl rfl rfl ?_
                refine jT.iinc rfl rfl (fun z23 rz23 ez23 => ?_)
                replace ez23 := ez23 ⟨by omega, by omega⟩
                refine mj_T.eq (loc2 := [some (.int (jn p0)), some (.int (jn 0)), some (.int (jn z23))]) ?_ rfl rfl rfl rfl
                refine mj_T.pl rfl rfl rfl rfl ?_
                exact ih17 ((2147483647 - z23 : Int).toNat) (by omega) 0 z23 ⟨by omega, by omega⟩ rz23 (by omega) (by omega) rfl
              · have c39 := of_decide_eq_false c39
                iterate 2 refine mj_T.pl rfl rfl rfl rfl ?_
                refine mj_T.pl (loc' := [some (.int (jn p0)), some (.int (jn 1)), some (.int (jn x14))]) rfl rfl rfl rfl ?_
                refine jT.iinc rfl rfl (fun z24 rz24 ez24 => ?_)
                replace ez24 := ez24 ⟨by omega, by omega⟩
                refine mj_T.eq (loc2 := [some (.int (jn p0)), some (.int (jn 1)), some (.int (jn z24))]) ?_ rfl rfl rfl rfl
                refine mj_T.pl rfl rfl rfl rfl ?_
                exact ih17 ((2147483647 - z24 : Int).toNat) (by omega) 1 z24 ⟨by omega, by omega⟩ rz24 (by omega) (by omega) rfl
      exact t19_15 _ 0 2 ⟨by omega, by omega⟩ ⟨by decide, by decide⟩ (by omega) (by omega) rfl
    · have c8 := of_decide_eq_false c8
      iterate 2 refine mj_T.pl rfl rfl rfl rfl ?_
      refine mj_T.pl (loc' := [some (.int (jn p0)), some (.int (jn 1)), none]) rfl rfl rfl rfl ?_
      refine mj_T.pl rfl rfl rfl rfl ?_
      refine mj_T.pl (loc' := [some (.int (jn p0)), some (.int (jn 1)), some (.int (jn 2))]) rfl rfl rfl rfl ?_
      have t19_27 : ∀ (k28 : Nat) (x25 : Int) (x26 : Int), (0 ≤ x25 ∧ x25 ≤ 1) → (-2147483648 ≤ x26 ∧ x26 ≤ 2147483647) → (2 ≤ x26) → (2 ≤ x26 ∧ x26 ≤ 10) → (2147483647 - x26 : Int).toNat = k28 → mj_T (D + 0) mj_m152 19 [some (.int (jn p0)), some (.int (jn x25)), some (.int (jn x26))] [] h (jQp K L R g n tm h [2] jV0) := by
        refine jInd (fun k28 ih29 => ?_)
        intro x25 x26 ax25 rx26 ix26 ivx26 hm30
        have rx25 : -2147483648 ≤ x25 ∧ x25 ≤ 2147483647 := ⟨by omega, by omega⟩
        refine mj_T.pl rfl rfl rfl rfl ?_
        refine mj_T.pl rfl rfl rfl rfl ?_
        refine jT.imul rfl (fun z31 rz31 ez31 => ?_)
        replace ez31 := jsq ivx26 ez31
        refine mj_T.pl rfl rfl rfl rfl ?_
        refine jT.icmp rfl rz31 ⟨by decide, by decide⟩ (fun c24 => ?_) (fun c24 => ?_)
        · have c24 := of_decide_eq_true c24
          refine mj_T.pl rfl rfl rfl rfl ?_
          refine jT.if0 rfl rx25 (fun c55 => ?_) (fun c55 => ?_)
          · have c55 := jne1 c55
            exact jT.retp rfl rfl rfl rfl
          · have c55 := jne2 c55
            exact jT.thrp o hg rfl rfl rfl (Nat.le_of_ble_eq_true rfl) rfl
        · have c24 := of_decide_eq_false c24
          refine mj_T.pl rfl rfl rfl rfl ?_
          refine jT.if0 rfl rx25 (fun c28 => ?_) (fun c28 => ?_)
          · have c28 := of_decide_eq_true c28
            refine mj_T.pl rfl rfl rfl rfl ?_
            refine mj_T.pl (loc' := [some (.int (jn p0)), some (.int (jn 0)), some (.int (jn x26))]) rfl rfl rfl rfl ?_
            refine jT.iinc rfl rfl (fun z32 rz32 ez32 => ?_)
            replace ez32 := ez32 ⟨by omega, by omega⟩
            refine mj_T.eq (loc2 := [some (.int (jn p0)), some (.int (jn 0)), some (.int (jn z32))]) ?_ rfl rfl rfl rfl
            refine mj_T.pl rfl rfl rfl rfl ?_
            exact ih29 ((2147483647 - z32 : Int).toNat) (by omega) 0 z32 ⟨by omega, by omega⟩ rz32 (by omega) (by omega) rfl
          · have c28 := of_decide_eq_false c28
            iterate 2 refine mj_T.pl rfl rfl rfl rfl ?_
            refine jT.icmp rfl rp0 rx26 (fun c33 => ?_) (fun c33 => ?_)
            · have c33 := of_decide_eq_true c33
              iterate 2 refine mj_T.pl rfl rfl rfl rfl ?_
              refine mj_T.pl (loc' := [some (.int (jn p0)), some (.int (jn 1)), some (.int (jn x26))]) rfl rfl rfl rfl ?_
              refine jT.iinc rfl rfl (fun z33 rz33 ez33 => ?_)
              replace ez33 := ez33 ⟨by omega, by omega⟩
              refine mj_T.eq (loc2 := [some (.int (jn p0)), some (.int (jn 1)), some (.int (jn z33))]) ?_ rfl rfl rfl rfl
              refine mj_T.pl rfl rfl rfl rfl ?_
              exact ih29 ((2147483647 - z33 : Int).toNat) (by omega) 1 z33 ⟨by omega, by omega⟩ rz33 (by omega) (by omega) rfl
            · have c33 := of_decide_eq_false c33
              iterate 2 refine mj_T.pl rfl rfl rfl rfl ?_
              refine jT.irem rfl rx26 (by omega) (fun z34 rz34 => ?_)
              refine jT.if0 rfl rz34 (fun c39 => ?_) (fun c39 => ?_)
              · have c39 := of_decide_eq_true c39
                refine mj_T.pl rfl rfl rfl rfl ?_
                refine mj_T.pl (loc' := [some (.int (jn p0)), some (.int (jn 0)), some (.int (jn x26))]) rfl rfl rfl rfl ?_
                refine jT.iinc rfl rfl (fun z35 rz35 ez35 => ?_)
                replace ez35 := ez35 ⟨by omega, by omega⟩
                refine mj_T.eq (loc2 := [some (.int (jn p0)), some (.int (jn 0)), some (.int (jn z35))]) ?_ rfl rfl rfl rfl
                refine mj_T.pl rfl rfl rfl rfl ?_
                exact ih29 ((2147483647 - z35 : Int).toNat) (by omega) 0 z35 ⟨by omega, by omega⟩ rz35 (by omega) (by omega) rfl
              · have c39 := of_decide_eq_false c39
                iterate 2 refine mj_T.pl rfl rfl rfl rfl ?_
                refine mj_T.pl (loc' := [some (.int (jn p0)), some (.int (jn 1)), some (.int (jn x26))]) rfl rfl rfl rfl ?_
                refine jT.iinc rfl rfl (fun z36 rz36 ez36 => ?_)
                replace ez36 := ez36 ⟨by omega, by omega⟩
                refine mj_T.eq (loc2 := [some (.int (jn p0)), some (.int (jn 1)), some (.int (jn z36))]) ?_ rfl rfl rfl rfl
                refine mj_T.pl rfl rfl rfl rfl ?_
                exact ih29 ((2147483647 - z36 : Int).toNat) (by omega) 1 z36 ⟨by omega, by omega⟩ rz36 (by omega) (by omega) rfl
      exact t19_27 _ 1 2 ⟨by omega, by omega⟩ ⟨by decide, by decide⟩ (by omega) (by omega) rfl
-- PolyRegisters.checkNotZero([J)V
theorem jc_153 {D n : Nat} {tm : Int} {h g : mj_H} {K L : Nat → Nat} {R : Nat → Nat → Nat} {p0 : Nat} (ty : jTY K L R) (hg : g.length ≤ n) (o : jO K L R g n tm h) (kp0 : K p0 = 2) : mj_Ok (D + 2) 153 [.ref p0] h (jQp K L R g n tm h [3] jV0) := by
  refine mj_Ok.of (M := mj_m153) (loc := [some (.ref p0)]) rfl rfl rfl ?_
  refine mj_T.pl rfl rfl rfl rfl ?_
  refine jT.callpp rfl rfl (Nat.le_of_ble_eq_true rfl) (Nat.le_of_ble_eq_true rfl) rfl rfl (mj_Ok.up (Nat.add_le_add_left (by decide) D) (jc_162 (D := D) ty hg o kp0)) rfl rfl (fun v1 qv1 => ?_)
  obtain ⟨z2, az2, bz2, rfl⟩ := qv1
  have rz2 : -2147483648 ≤ z2 ∧ z2 ≤ 2147483647 := ⟨by omega, by omega⟩
  refine mj_T.eq (pc2 := 4) (st2 := [.int (jn z2)]) ?_ rfl rfl rfl rfl
  refine jT.if0 rfl rz2 (fun c4 => ?_) (fun c4 => ?_)
  · have c4 := of_decide_eq_true c4
    exact jT.retp rfl rfl rfl rfl
  · have c4 := of_decide_eq_false c4
    exact jT.thrp o hg rfl rfl rfl (Nat.le_of_ble_eq_true rfl) rfl
-- PolyRegisters.earlierBench()LPolyRegisters$Bench;
theorem jc_155 {D n : Nat} {tm : Int} {h g : mj_H} {K L : Nat → Nat} {R : Nat → Nat → Nat} {p0 : Nat} (ty : jTY K L R) (hg : g.length ≤ n) (o : jO K L R g n tm h) (kp0 : K p0 = 19) : mj_Ok (D + 1) 155 [.ref p0] h (jQp K L R g n tm h [] (jVr K 10)) := by
  refine mj_Ok.of (M := mj_m155) (loc := [some (.ref p0)]) rfl rfl rfl ?_
  refine mj_T.pl rfl rfl rfl rfl ?_
  refine jT.getR 19 107 7 ty o rfl kp0 (by decide) rfl rfl rfl (fun k1 => ?_)
  refine mj_T.pl rfl rfl rfl rfl ?_
  refine jT.getI 19 0 o rfl kp0 (by decide) rfl rfl rfl (fun z2 (az2 : (-2147483648) ≤ z2) (bz2 : z2 ≤ 2147483647) fz2 => ?_)
  have rz2 : -2147483648 ≤ z2 ∧ z2 ≤ 2147483647 := ⟨by omega, by omega⟩
  refine jT.if0 rfl rz2 (fun c8 => ?_) (fun c8 => ?_)
  · have c8 := of_decide_eq_true c8
    refine mj_T.pl rfl rfl rfl rfl ?_
    have l3 : 8 ≤ (L (R p0 1) : Int) ∧ (L (R p0 1) : Int) ≤ 8 := jlen 7 ty k1 (by decide) (by decide)
    refine jT.aald 7 10 ty o rfl k1 (by decide) (by decide) rfl ⟨by decide, by decide⟩ ⟨by omega, by omega⟩ (fun k4 => ?_)
    exact jT.retp rfl rfl rfl ⟨(R (R p0 1) (0 : Int).toNat), k4, rfl⟩
  · have c8 := of_decide_eq_false c8
    refine mj_T.pl rfl rfl rfl rfl ?_
    refine jT.getK 19 0 o rfl kp0 (by decide) rfl rfl rfl fz2.symm ?_
    refine mj_T.pl rfl rfl rfl rfl ?_
    refine jT.getR 19 107 7 ty o rfl kp0 (by decide) rfl rfl rfl (fun k5 => ?_)
    refine jT.alen 7 ty o rfl k5 (by decide) (by decide) (fun z6 ez6 (az6 : 8 ≤ z6) (bz6 : z6 ≤ 8) => ?_)
    have rz6 : -2147483648 ≤ z6 ∧ z6 ≤ 2147483647 := ⟨by omega, by omega⟩
    refine jT.icmp rfl rz2 rz6 (fun c20 => ?_) (fun c20 => ?_)
    · have c20 := of_decide_eq_true c20
      refine mj_T.pl rfl rfl rfl rfl ?_
      refine jT.aald 7 10 ty o rfl k1 (by decide) (by decide) rfl ⟨by decide, by decide⟩ ⟨by omega, by omega⟩ (fun k7 => ?_)
      exact jT.retp rfl rfl rfl ⟨(R (R p0 1) (0 : Int).toNat), k7, rfl⟩
    · have c20 := of_decide_eq_false c20
      refine mj_T.pl rfl rfl rfl rfl ?_
      refine jT.getK 19 0 o rfl kp0 (by decide) rfl rfl rfl fz2.symm ?_
      refine mj_T.pl rfl rfl rfl rfl ?_
      refine jT.aald 7 10 ty o rfl k1 (by decide) (by decide) rfl rz2 ⟨by omega, by omega⟩ (fun k8 => ?_)
      exact jT.retp rfl rfl rfl ⟨(R (R p0 1) (z2 : Int).toNat), k8, rfl⟩
-- PolyRegisters.keepEarlier()V
theorem jc_156 {D n : Nat} {tm : Int} {h g : mj_H} {K L : Nat → Nat} {R : Nat → Nat → Nat} {p0 : Nat} (ty : jTY K L R) (hg : g.length ≤ n) (o : jO K L R g n tm h) (kp0 : K p0 = 19) : mj_Ok (D + 3) 156 [.ref p0] h (jQ K L R g n tm [] jV0) := by
  refine mj_Ok.of (M := mj_m156) (loc := [some (.ref p0)]) rfl rfl rfl ?_
  refine mj_T.pl rfl rfl rfl rfl ?_
  refine jT.callp rfl rfl (Nat.le_of_ble_eq_true rfl) (Nat.le_of_ble_eq_true rfl) (jrv_of o kp0 (by decide) rfl (by decide) rfl _) rfl (mj_Ok.up (Nat.add_le_add_left (by decide) D) (jc_155 (D := D) ty hg o kp0)) rfl rfl (fun v1 qv1 => ?_)
  obtain ⟨a2, ka2, rfl⟩ := qv1
  refine mj_T.eq (pc2 := 4) (st2 := [.ref a2]) ?_ rfl rfl rfl rfl
  refine mj_T.pl rfl rfl rfl rfl ?_
  refine jT.getR 19 110 10 ty o rfl kp0 (by decide) rfl rfl rfl (fun k3 => ?_)
  refine jT.call rfl rfl (Nat.le_of_ble_eq_true rfl) (Nat.le_of_ble_eq_true rfl) (jrv_of o ka2 (by decide) rfl (by decide) rfl _) rfl (mj_Ok.up (Nat.add_le_add_left (by decide) D) (jc_2 (D := D) ty hg o ka2 k3)) rfl rfl (fun v4 h5 qv4 oh5 => ?_)
  obtain rfl : v4 = none := qv4
  refine mj_T.eq (pc2 := 11) (st2 := []) ?_ rfl rfl rfl rfl
  iterate 2 refine mj_T.pl rfl rfl rfl rfl ?_
  refine jT.getI 19 0 oh5 rfl kp0 (by decide) rfl rfl rfl (fun z6 (az6 : (-2147483648) ≤ z6) (bz6 : z6 ≤ 2147483647) fz6 => ?_)
  have rz6 : -2147483648 ≤ z6 ∧ z6 ≤ 2147483647 := ⟨by omega, by omega⟩
  refine mj_T.pl rfl rfl rfl rfl ?_
  refine jT.iadd rfl (fun z7 rz7 ez7 => ?_)
  clear ez7
  refine mj_T.pl rfl rfl rfl rfl ?_
  refine jT.irem rfl ⟨by decide, by decide⟩ (by decide) (fun z8 rz8 => ?_)
  refine jT.putI 19 0 oh5 rfl kp0 (by decide) rfl rfl rfl (Or.inl rfl) (by show (-2147483648) ≤ z8; omega) (by show z8 ≤ 2147483647; omega) (fun h9 oh9 wh9 uh9 => ?_)
  iterate 2 refine mj_T.pl rfl rfl rfl rfl ?_
  refine jT.getI 19 0 oh9 rfl kp0 (by decide) rfl rfl rfl (fun z10 (az10 : (-2147483648) ≤ z10) (bz10 : z10 ≤ 2147483647) fz10 => ?_)
  have rz10 : -2147483648 ≤ z10 ∧ z10 ≤ 2147483647 := ⟨by omega, by omega⟩
  refine mj_T.pl rfl rfl rfl rfl ?_
  refine jT.iadd rfl (fun z11 rz11 ez11 => ?_)
  clear ez11
  refine mj_T.pl rfl rfl rfl rfl ?_
  refine jT.imin rfl rfl (Nat.le_of_ble_eq_true rfl) rz11 ⟨by decide, by decide⟩ (fun z12 ez12 => ?_)
  have rz12 : -2147483648 ≤ z12 ∧ z12 ≤ 2147483647 := ⟨by omega, by omega⟩
  refine jT.putI 19 0 oh9 rfl kp0 (by decide) rfl rfl rfl (Or.inl rfl) (by show (-2147483648) ≤ z12; omega) (by show z12 ≤ 2147483647; omega) (fun h13 oh13 wh13 uh13 => ?_)
  exact jT.ret oh13 rfl rfl rfl rfl
-- PolyRegisters.keep(I)I
theorem jc_154 {D n : Nat} {tm : Int} {h g : mj_H} {K L : Nat → Nat} {R : Nat → Nat → Nat} {p0 : Nat} {p1 : Int} (ty : jTY K L R) (hg : g.length ≤ n) (o : jO K L R g n tm h) (kp0 : K p0 = 19) (rp1 : -2147483648 ≤ p1 ∧ p1 ≤ 2147483647) : mj_Ok (D + 4) 154 [.ref p0, .int (jn p1)] h (jQ K L R g n tm [0] (jVi (-2147483648) 2147483647)) := by
  refine mj_Ok.of (M := mj_m154) (loc := [some (.ref p0), some (.int (jn p1))]) rfl rfl rfl ?_
  refine mj_T.pl rfl rfl rfl rfl ?_
  refine jT.call rfl rfl (Nat.le_of_ble_eq_true rfl) (Nat.le_of_ble_eq_true rfl) (jrv_of o kp0 (by decide) rfl (by decide) rfl _) rfl (mj_Ok.up (Nat.add_le_add_left (by decide) D) (jc_156 (D := D) ty hg o kp0)) rfl rfl (fun v1 h2 qv1 oh2 => ?_)
  obtain rfl : v1 = none := qv1
  refine mj_T.eq (pc2 := 4) (st2 := []) ?_ rfl rfl rfl rfl
  refine mj_T.pl rfl rfl rfl rfl ?_
  refine jT.getR 19 102 2 ty oh2 rfl kp0 (by decide) rfl rfl rfl (fun k3 => ?_)
  iterate 2 refine mj_T.pl rfl rfl rfl rfl ?_
  refine jT.callp rfl rfl (Nat.le_of_ble_eq_true rfl) (Nat.le_of_ble_eq_true rfl) (jrv_of oh2 kp0 (by decide) rfl (by decide) rfl _) rfl (mj_Ok.up (Nat.add_le_add_left (by decide) D) (jc_149 (D := D) ty hg oh2 kp0 rp1)) rfl rfl (fun v4 qv4 => ?_)
  obtain ⟨a5, ka5, rfl⟩ := qv4
  refine mj_T.eq (pc2 := 13) (st2 := [.ref a5, .ref (R p0 13)]) ?_ rfl rfl rfl rfl
  refine jT.call rfl rfl (Nat.le_of_ble_eq_true rfl) (Nat.le_of_ble_eq_true rfl) rfl rfl (mj_Ok.up (Nat.add_le_add_left (by decide) D) (jc_164 (D := D) ty hg oh2 k3 ka5)) rfl rfl (fun v6 h7 qv6 oh7 => ?_)
  obtain rfl : v6 = none := qv6
  refine mj_T.eq (pc2 := 16) (st2 := []) ?_ rfl rfl rfl rfl
  refine mj_T.pl rfl rfl rfl rfl ?_
  refine jT.getR 19 102 2 ty oh7 rfl kp0 (by decide) rfl rfl rfl (fun k8 => ?_)
  refine jT.callp rfl rfl (Nat.le_of_ble_eq_true rfl) (Nat.le_of_ble_eq_true rfl) rfl rfl (mj_Ok.up (Nat.add_le_add_left (by decide) D) (jc_162 (D := D) ty hg oh7 k8)) rfl rfl (fun v9 qv9 => ?_)
  obtain ⟨z10, az10, bz10, rfl⟩ := qv9
  have rz10 : -2147483648 ≤ z10 ∧ z10 ≤ 2147483647 := ⟨by omega, by omega⟩
  refine mj_T.eq (pc2 := 23) (st2 := [.int (jn z10)]) ?_ rfl rfl rfl rfl
  exact jT.ret oh7 rfl rfl rfl ⟨z10, by omega, by omega, rfl⟩
-- PolyRegisters.told(Z)LPolyRegisters$Wide;
theorem jc_157 {D n : Nat} {tm : Int} {h g : mj_H} {K L : Nat → Nat} {R : Nat → Nat → Nat} {p0 : Nat} {p1 : Int} (ty : jTY K L R) (hg : g.length ≤ n) (o : jO K L R g n tm h) (kp0 : K p0 = 19) (ap1 : 0 ≤ p1 ∧ p1 ≤ 1) : mj_Ok (D + 1) 157 [.ref p0, .int (jn p1)] h (jQp K L R g n tm h [] (jVr K 18)) := by
  have rp1 : -2147483648 ≤ p1 ∧ p1 ≤ 2147483647 := ⟨by omega, by omega⟩
  refine mj_Ok.of (M := mj_m157) (loc := [some (.ref p0), some (.int (jn p1))]) rfl rfl rfl ?_
  refine mj_T.pl rfl rfl rfl rfl ?_
  refine jT.if0 rfl rp1 (fun c1 => ?_) (fun c1 => ?_)
  · have c1 := of_decide_eq_true c1
    refine mj_T.pl rfl rfl rfl rfl ?_
    refine jT.getR 19 118 18 ty o rfl kp0 (by decide) rfl rfl rfl (fun k1 => ?_)
    exact jT.retp rfl rfl rfl ⟨(R p0 11), k1, rfl⟩
  · have c1 := of_decide_eq_false c1
    refine mj_T.pl rfl rfl rfl rfl ?_
    refine jT.getR 19 118 18 ty o rfl kp0 (by decide) rfl rfl rfl (fun k2 => ?_)
    refine mj_T.pl rfl rfl rfl rfl ?_
    exact jT.retp rfl rfl rfl ⟨(R p0 12), k2, rfl⟩
-- PolyRegisters.tellLong(J)I
theorem jc_158 {D n : Nat} {tm : Int} {h g : mj_H} {K L : Nat → Nat} {R : Nat → Nat → Nat} {p0 : Nat} {p1 : Int} (ty : jTY K L R) (hg : g.length ≤ n) (o : jO K L R g n tm h) (kp0 : K p0 = 19) (jp1 : jR p1) : mj_Ok (D + 2) 158 [.ref p0, .long (jl p1)] h (jQ K L R g n tm [] (jVi (-2147483648) 2147483647)) := by
  refine mj_Ok.of (M := mj_m158) (loc := [some (.ref p0), some (.long (jl p1)), none]) rfl rfl rfl ?_
  refine mj_T.pl rfl rfl rfl rfl ?_
  refine jT.getR 19 118 18 ty o rfl kp0 (by decide) rfl rfl rfl (fun k1 => ?_)
  refine mj_T.pl rfl rfl rfl rfl ?_
  refine jT.call rfl rfl (Nat.le_of_ble_eq_true rfl) (Nat.le_of_ble_eq_true rfl) (jrv_of o k1 (by decide) rfl (by decide) rfl _) rfl (mj_Ok.up (Nat.add_le_add_left (by decide) D) (jc_86 (D := D) ty hg o k1 jp1)) rfl rfl (fun v2 h3 qv2 oh3 => ?_)
  obtain rfl : v2 = none := qv2
  refine mj_T.eq (pc2 := 8) (st2 := []) ?_ rfl rfl rfl rfl
  refine mj_T.pl rfl rfl rfl rfl ?_
  refine jT.getR 19 118 18 ty oh3 rfl kp0 (by decide) rfl rfl rfl (fun k4 => ?_)
  refine jT.lc 1 rfl rfl ?_
  refine jT.call rfl rfl (Nat.le_of_ble_eq_true rfl) (Nat.le_of_ble_eq_true rfl) (jrv_of oh3 k4 (by decide) rfl (by decide) rfl _) rfl (mj_Ok.up (Nat.add_le_add_left (by decide) D) (jc_86 (D := D) ty hg oh3 k4 ⟨by decide, by decide⟩)) rfl rfl (fun v5 h6 qv5 oh6 => ?_)
  obtain rfl : v5 = none := qv5
  refine mj_T.eq (pc2 := 16) (st2 := []) ?_ rfl rfl rfl rfl
  refine mj_T.pl rfl rfl rfl rfl ?_
  refine jT.getR 19 118 18 ty oh6 rfl kp0 (by decide) rfl rfl rfl (fun k7 => ?_)
  refine jT.getI 18 0 oh6 rfl k7 (by decide) rfl rfl rfl (fun z8 (az8 : (-2147483648) ≤ z8) (bz8 : z8 ≤ 2147483647) fz8 => ?_)
  have rz8 : -2147483648 ≤ z8 ∧ z8 ≤ 2147483647 := ⟨by omega, by omega⟩
  exact jT.ret oh6 rfl rfl rfl ⟨z8, by omega, by omega, rfl⟩
-- PolyRegisters.tellQuotient(LPolyRegisters$Wide;JI)I
theorem jc_159 {D n : Nat} {tm : Int} {h g : mj_H} {K L : Nat → Nat} {R : Nat → Nat → Nat} {p0 : Nat} {p1 : Nat} {p2 : Int} {p3 : Int} (ty : jTY K L R) (hg : g.length ≤ n) (o : jO K L R g n tm h) (kp0 : K p0 = 19) (kp1 : K p1 = 18) (jp2 : jR p2) (rp3 : -2147483648 ≤ p3 ∧ p3 ≤ 2147483647) : mj_Ok (D + 4) 159 [.ref p0, .ref p1, .long (jl p2), .int (jn p3)] h (jQ K L R g n tm [] (jVi (-2147483648) 2147483647)) := by
  refine mj_Ok.of (M := mj_m159) (loc := [some (.ref p0), some (.ref p1), some (.long (jl p2)), none, some (.int (jn p3)), none, none, none]) rfl rfl rfl ?_
  refine mj_T.pl rfl rfl rfl rfl ?_
  refine jT.getR 19 118 18 ty o rfl kp0 (by decide) rfl rfl rfl (fun k1 => ?_)
  refine mj_T.pl rfl rfl rfl rfl ?_
  refine jT.call rfl rfl (Nat.le_of_ble_eq_true rfl) (Nat.le_of_ble_eq_true rfl) (jrv_of o k1 (by decide) rfl (by decide) rfl _) rfl (mj_Ok.up (Nat.add_le_add_left (by decide) D) (jc_87 (D := D) ty hg o k1 kp1)) rfl rfl (fun v2 h3 qv2 oh3 => ?_)
  obtain rfl : v2 = none := qv2
  refine mj_T.eq (pc2 := 8) (st2 := []) ?_ rfl rfl rfl rfl
  refine mj_T.pl rfl rfl rfl rfl ?_
  refine jT.getR 19 118 18 ty oh3 rfl kp0 (by decide) rfl rfl rfl (fun k4 => ?_)
  refine jT.lc 1 rfl rfl ?_
  refine jT.call rfl rfl (Nat.le_of_ble_eq_true rfl) (Nat.le_of_ble_eq_true rfl) (jrv_of oh3 k4 (by decide) rfl (by decide) rfl _) rfl (mj_Ok.up (Nat.add_le_add_left (by decide) D) (jc_86 (D := D) ty hg oh3 k4 ⟨by decide, by decide⟩)) rfl rfl (fun v5 h6 qv5 oh6 => ?_)
  obtain rfl : v5 = none := qv5
  refine mj_T.eq (pc2 := 16) (st2 := []) ?_ rfl rfl rfl rfl
  refine mj_T.pl rfl rfl rfl rfl ?_
  refine mj_T.pl (loc' := [some (.ref p0), some (.ref p1), some (.long (jl p2)), none, some (.int (jn p3)), some (.int (jn 0)), none, none]) rfl rfl rfl rfl ?_
  have t19_10 : ∀ (k11 : Nat) (x7 : Int) (w8 : Option Value) (h9 : mj_H), (-2147483648 ≤ x7 ∧ x7 ≤ 2147483647) → (jO K L R g n tm h9) → (0 ≤ x7) → (2147483647 - x7 : Int).toNat = k11 → mj_T (D + 3) mj_m159 19 [some (.ref p0), some (.ref p1), some (.long (jl p2)), none, some (.int (jn p3)), some (.int (jn x7)), w8, none] [] h9 (jQ K L R g n tm [] (jVi (-2147483648) 2147483647)) := by
    refine jInd (fun k11 ih12 => ?_)
    intro x7 w8 h9 rx7 oh9 ix7 hm13
    refine mj_T.pl rfl rfl rfl rfl ?_
    refine mj_T.pl rfl rfl rfl rfl ?_
    refine jT.icmp rfl rx7 rp3 (fun c23 => ?_) (fun c23 => ?_)
    · have c23 := of_decide_eq_true c23
      refine mj_T.pl rfl rfl rfl rfl ?_
      refine jT.getR 19 118 18 ty oh9 rfl kp0 (by decide) rfl rfl rfl (fun k14 => ?_)
      refine jT.getI 18 0 oh9 rfl k14 (by decide) rfl rfl rfl (fun z15 (az15 : (-2147483648) ≤ z15) (bz15 : z15 ≤ 2147483647) fz15 => ?_)
      have rz15 : -2147483648 ≤ z15 ∧ z15 ≤ 2147483647 := ⟨by omega, by omega⟩
      exact jT.ret oh9 rfl rfl rfl ⟨z15, by omega, by omega, rfl⟩
    · have c23 := of_decide_eq_false c23
      refine mj_T.pl rfl rfl rfl rfl ?_
      refine jT.getR 19 111 11 ty oh9 rfl kp0 (by decide) rfl rfl rfl (fun k16 => ?_)
      refine mj_T.pl rfl rfl rfl rfl ?_
      refine jT.getR 19 118 18 ty oh9 rfl kp0 (by decide) rfl rfl rfl (fun k17 => ?_)
      refine mj_T.pl rfl rfl rfl rfl ?_
      refine jT.call rfl rfl (Nat.le_of_ble_eq_true rfl) (Nat.le_of_ble_eq_true rfl) (jrv_of oh9 k16 (by decide) rfl (by decide) rfl _) rfl (mj_Ok.up (Nat.add_le_add_left (by decide) D) (jc_23 (D := D) ty hg oh9 k16 k17 jp2)) rfl rfl (fun v18 h19 qv18 oh19 => ?_)
      obtain ⟨z20, jz20, rfl⟩ := qv18
      refine mj_T.eq (pc2 := 38) (st2 := [.long (jl z20)]) ?_ rfl rfl rfl rfl
      refine mj_T.pl (loc' := [some (.ref p0), some (.ref p1), some (.long (jl p2)), none, some (.int (jn p3)), some (.int (jn x7)), some (.long (jl z20)), none]) rfl rfl rfl rfl ?_
      refine mj_T.pl rfl rfl rfl rfl ?_
      refine jT.getR 19 111 11 ty oh19 rfl kp0 (by decide) rfl rfl rfl (fun k21 => ?_)
      refine mj_T.pl rfl rfl rfl rfl ?_
      refine jT.getR 19 118 18 ty oh19 rfl kp0 (by decide) rfl rfl rfl (fun k22 => ?_)
      refine mj_T.pl rfl rfl rfl rfl ?_
      refine jT.call rfl rfl (Nat.le_of_ble_eq_true rfl) (Nat.le_of_ble_eq_true rfl) (jrv_of oh19 k21 (by decide) rfl (by decide) rfl _) rfl (mj_Ok.up (Nat.add_le_add_left (by decide) D) (jc_25 (D := D) ty hg oh19 k21 k22 jz20)) rfl rfl (fun v23 h24 qv23 oh24 => ?_)
      obtain rfl : v23 = none := qv23
      refine mj_T.eq (pc2 := 53) (st2 := []) ?_ rfl rfl rfl rfl
      refine mj_T.pl rfl rfl rfl rfl ?_
      refine jT.getR 19 111 11 ty oh24 rfl kp0 (by decide) rfl rfl rfl (fun k25 => ?_)
      refine mj_T.pl rfl rfl rfl rfl ?_
      refine jT.getR 19 118 18 ty oh24 rfl kp0 (by decide) rfl rfl rfl (fun k26 => ?_)
      refine mj_T.pl rfl rfl rfl rfl ?_
      refine jT.lc 0 rfl rfl ?_
      refine mj_T.lif rfl rfl jz20 ⟨by decide, by decide⟩ (fun c64 => ?_) (fun c64 => ?_)
      · have c64 := jne1 c64
        iterate 2 refine mj_T.pl rfl rfl rfl rfl ?_
        refine jT.ldiv rfl jz20 (by omega) (fun z27 jz27 => ?_)
        refine jT.call rfl rfl (Nat.le_of_ble_eq_true rfl) (Nat.le_of_ble_eq_true rfl) (jrv_of oh24 k25 (by decide) rfl (by decide) rfl _) rfl (mj_Ok.up (Nat.add_le_add_left (by decide) D) (jc_24 (D := D) ty hg oh24 k25 k26 jz27)) rfl rfl (fun v28 h29 qv28 oh29 => ?_)
        obtain rfl : v28 = none := qv28
        refine mj_T.eq (pc2 := 79) (st2 := []) ?_ rfl rfl rfl rfl
        refine jT.iinc rfl rfl (fun z30 rz30 ez30 => ?_)
        replace ez30 := ez30 ⟨by omega, by omega⟩
        refine mj_T.eq (loc2 := [some (.ref p0), some (.ref p1), some (.long (jl p2)), none, some (.int (jn p3)), some (.int (jn z30)), some (.long (jl z20)), none]) ?_ rfl rfl rfl rfl
        refine mj_T.pl rfl rfl rfl rfl ?_
        exact ih12 ((2147483647 - z30 : Int).toNat) (by omega) z30 (some (.long (jl z20))) h29 rz30 oh29 (by omega) rfl
      · have c64 := jne2 c64
        iterate 2 refine mj_T.pl rfl rfl rfl rfl ?_
        refine jT.call rfl rfl (Nat.le_of_ble_eq_true rfl) (Nat.le_of_ble_eq_true rfl) (jrv_of oh24 k25 (by decide) rfl (by decide) rfl _) rfl (mj_Ok.up (Nat.add_le_add_left (by decide) D) (jc_24 (D := D) ty hg oh24 k25 k26 jp2)) rfl rfl (fun v31 h32 qv31 oh32 => ?_)
        obtain rfl : v31 = none := qv31
        refine mj_T.eq (pc2 := 79) (st2 := []) ?_ rfl rfl rfl rfl
        refine jT.iinc rfl rfl (fun z33 rz33 ez33 => ?_)
        replace ez33 := ez33 ⟨by omega, by omega⟩
        refine mj_T.eq (loc2 := [some (.ref p0), some (.ref p1), some (.long (jl p2)), none, some (.int (jn p3)), some (.int (jn z33)), some (.long (jl z20)), none]) ?_ rfl rfl rfl rfl
        refine mj_T.pl rfl rfl rfl rfl ?_
        exact ih12 ((2147483647 - z33 : Int).toNat) (by omega) z33 (some (.long (jl z20))) h32 rz33 oh32 (by omega) rfl
  exact t19_10 _ 0 none h6 ⟨by decide, by decide⟩ oh6 (by omega) rfl
-- PolyRegisters.bytesIn(I)I
theorem jc_160 {D n : Nat} {tm : Int} {h g : mj_H} {K L : Nat → Nat} {R : Nat → Nat → Nat} {p0 : Int} (ty : jTY K L R) (hg : g.length ≤ n) (o : jO K L R g n tm h) (rp0 : -2147483648 ≤ p0 ∧ p0 ≤ 2147483647) : mj_Ok (D + 1) 160 [.int (jn p0)] h (jQp K L R g n tm h [] (jVi (-2147483648) 2147483647)) := by
  refine mj_Ok.of (M := mj_m160) (loc := [some (.int (jn p0)), none, none]) rfl rfl rfl ?_
  refine mj_T.pl rfl rfl rfl rfl ?_
  refine mj_T.pl (loc' := [some (.int (jn p0)), some (.int (jn 0)), none]) rfl rfl rfl rfl ?_
  refine mj_T.pl rfl rfl rfl rfl ?_
  refine mj_T.pl (loc' := [some (.int (jn p0)), some (.int (jn 0)), some (.int (jn 24))]) rfl rfl rfl rfl ?_
  have t5_3 : ∀ (k4 : Nat) (x1 : Int) (x2 : Int), (-2147483648 ≤ x1 ∧ x1 ≤ 2147483647) → (-2147483648 ≤ x2 ∧ x2 ≤ 2147483647) → (x2 ≤ 24) → (x2 + 1 : Int).toNat = k4 → mj_T (D + 0) mj_m160 5 [some (.int (jn p0)), some (.int (jn x1)), some (.int (jn x2))] [] h (jQp K L R g n tm h [] (jVi (-2147483648) 2147483647)) := by
    refine jInd (fun k4 ih5 => ?_)
    intro x1 x2 rx1 rx2 ix2 hm6
    refine mj_T.pl rfl rfl rfl rfl ?_
    refine jT.if0 rfl rx2 (fun c6 => ?_) (fun c6 => ?_)
    · have c6 := of_decide_eq_true c6
      refine mj_T.pl rfl rfl rfl rfl ?_
      exact jT.retp rfl rfl rfl ⟨x1, by omega, by omega, rfl⟩
    · have c6 := of_decide_eq_false c6
      iterate 2 refine mj_T.pl rfl rfl rfl rfl ?_
      refine mj_T.pl rfl rfl rfl rfl ?_
      refine jT.anyI (fun z7 rz7 => ?_)
      refine mj_T.pl rfl rfl rfl rfl ?_
      refine mj_T.pl rfl rfl rfl rfl ?_
      refine jT.anyI (fun z8 rz8 => ?_)
      refine jT.if0 rfl rz8 (fun c16 => ?_) (fun c16 => ?_)
      · have c16 := of_decide_eq_true c16
        refine jT.iinc rfl rfl (fun z9 rz9 ez9 => ?_)
        replace ez9 := ez9 ⟨by omega, by omega⟩
        refine mj_T.eq (loc2 := [some (.int (jn p0)), some (.int (jn x1)), some (.int (jn z9))]) ?_ rfl rfl rfl rfl
        refine mj_T.pl rfl rfl rfl rfl ?_
        exact ih5 ((z9 + 1 : Int).toNat) (by omega) x1 z9 rx1 rz9 (by omega) rfl
      · have c16 := of_decide_eq_false c16
        refine jT.iinc rfl rfl (fun z10 rz10 ez10 => ?_)
        clear ez10
        refine mj_T.eq (loc2 := [some (.int (jn p0)), some (.int (jn z10)), some (.int (jn x2))]) ?_ rfl rfl rfl rfl
        refine jT.iinc rfl rfl (fun z11 rz11 ez11 => ?_)
        replace ez11 := ez11 ⟨by omega, by omega⟩
        refine mj_T.eq (loc2 := [some (.int (jn p0)), some (.int (jn z10)), some (.int (jn z11))]) ?_ rfl rfl rfl rfl
        refine mj_T.pl rfl rfl rfl rfl ?_
        exact ih5 ((z11 + 1 : Int).toNat) (by omega) z10 z11 rz10 rz11 (by omega) rfl
  exact t5_3 _ 0 24 ⟨by decide, by decide⟩ ⟨by decide, by decide⟩ (by omega) rfl
