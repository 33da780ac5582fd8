/-! The class by kinds: its methods. -/
-- PolyRegisters.isShort(J)Z
theorem jc_161 {D n : Nat} {tm : Int} {h g : mj_H} {K L : Nat → Nat} {R : Nat → Nat → Nat} {p0 : Int} (ty : jTY K L R) (hg : g.length ≤ n) (o : jO K L R g n tm h) (jp0 : jR p0) : mj_Ok (D + 1) 161 [.long (jl p0)] h (jQp K L R g n tm h [] (jVi 0 1)) := by
  refine mj_Ok.of (M := mj_m161) (loc := [some (.long (jl p0)), none]) rfl rfl rfl ?_
  refine mj_T.pl rfl rfl rfl rfl ?_
  refine mj_T.pl rfl rfl rfl rfl ?_
  refine jT.anyL (fun z1 jz1 => ?_)
  refine mj_T.lif rfl rfl jp0 jz1 (fun c4 => ?_) (fun c4 => ?_)
  · have c4 := of_decide_eq_true c4
    refine mj_T.pl rfl rfl rfl rfl ?_
    exact jT.retbp rfl rfl (by omega) (by omega)
  · have c4 := of_decide_eq_false c4
    refine mj_T.pl rfl rfl rfl rfl ?_
    refine jT.ldcL rfl ?_
    refine mj_T.lif rfl rfl jp0 ⟨by decide, by decide⟩ (fun c12 => ?_) (fun c12 => ?_)
    · have c12 := of_decide_eq_true c12
      refine mj_T.pl rfl rfl rfl rfl ?_
      exact jT.retbp rfl rfl (by omega) (by omega)
    · have c12 := of_decide_eq_false c12
      iterate 2 refine mj_T.pl rfl rfl rfl rfl ?_
      exact jT.retbp rfl rfl (by omega) (by omega)
-- PolyRegisters.degreeOf([J)I
theorem jc_162 {D n : Nat} {tm : Int} {h g : mj_H} {K L : Nat → Nat} {R : Nat → Nat → Nat} {p0 : Nat} (ty : jTY K L R) (hg : g.length ≤ n) (o : jO K L R g n tm h) (kp0 : K p0 = 2) : mj_Ok (D + 1) 162 [.ref p0] h (jQp K L R g n tm h [] (jVi (-1) 12)) := by
  refine mj_Ok.of (M := mj_m162) (loc := [some (.ref p0), none]) rfl rfl rfl ?_
  refine mj_T.pl rfl rfl rfl rfl ?_
  refine jT.alen 2 ty o rfl kp0 (by decide) (by decide) (fun z1 ez1 (az1 : 13 ≤ z1) (bz1 : z1 ≤ 13) => ?_)
  have rz1 : -2147483648 ≤ z1 ∧ z1 ≤ 2147483647 := ⟨by omega, by omega⟩
  refine mj_T.pl rfl rfl rfl rfl ?_
  refine jT.isub rfl (fun z2 rz2 ez2 => ?_)
  replace ez2 := ez2 ⟨by omega, by omega⟩
  refine mj_T.pl (loc' := [some (.ref p0), some (.int (jn z2))]) rfl rfl rfl rfl ?_
  have t5_4 : ∀ (k5 : Nat) (x3 : Int), (-2147483648 ≤ x3 ∧ x3 ≤ 2147483647) → (x3 ≤ z2) → (x3 + 1 : Int).toNat = k5 → mj_T (D + 0) mj_m162 5 [some (.ref p0), some (.int (jn x3))] [] h (jQp K L R g n tm h [] (jVi (-1) 12)) := by
    refine jInd (fun k5 ih6 => ?_)
    intro x3 rx3 ix3 hm7
    refine mj_T.pl rfl rfl rfl rfl ?_
    refine jT.if0 rfl rx3 (fun c6 => ?_) (fun c6 => ?_)
    · have c6 := of_decide_eq_true c6
      refine mj_T.pl rfl rfl rfl rfl ?_
      exact jT.retp rfl rfl rfl ⟨(-1), by omega, by omega, rfl⟩
    · have c6 := of_decide_eq_false c6
      iterate 2 refine mj_T.pl rfl rfl rfl rfl ?_
      refine jT.lald o rfl kp0 rx3 ⟨by omega, by omega⟩ (fun z8 jz8 => ?_)
      refine jT.lc 0 rfl rfl ?_
      refine mj_T.lif rfl rfl jz8 ⟨by decide, by decide⟩ (fun c13 => ?_) (fun c13 => ?_)
      · have c13 := of_decide_eq_true c13
        refine jT.iinc rfl rfl (fun z9 rz9 ez9 => ?_)
        replace ez9 := ez9 ⟨by omega, by omega⟩
        refine mj_T.eq (loc2 := [some (.ref p0), some (.int (jn z9))]) ?_ rfl rfl rfl rfl
        refine mj_T.pl rfl rfl rfl rfl ?_
        exact ih6 ((z9 + 1 : Int).toNat) (by omega) z9 rz9 (by omega) rfl
      · have c13 := of_decide_eq_false c13
        refine mj_T.pl rfl rfl rfl rfl ?_
        exact jT.retp rfl rfl rfl ⟨x3, by omega, by omega, rfl⟩
  exact t5_4 _ z2 rz2 (by omega) rfl
-- PolyRegisters.termsOf([J)I
theorem jc_163 {D n : Nat} {tm : Int} {h g : mj_H} {K L : Nat → Nat} {R : Nat → Nat → Nat} {p0 : Nat} (ty : jTY K L R) (hg : g.length ≤ n) (o : jO K L R g n tm h) (kp0 : K p0 = 2) : mj_Ok (D + 1) 163 [.ref p0] h (jQp K L R g n tm h [] (jVi 0 13)) := by
  refine mj_Ok.of (M := mj_m163) (loc := [some (.ref p0), none, none]) rfl rfl rfl ?_
  refine mj_T.pl rfl rfl rfl rfl ?_
  refine mj_T.pl (loc' := [some (.ref p0), some (.int (jn 0)), none]) rfl rfl rfl rfl ?_
  refine mj_T.pl rfl rfl rfl rfl ?_
  refine mj_T.pl (loc' := [some (.ref p0), some (.int (jn 0)), some (.int (jn 0))]) rfl rfl rfl rfl ?_
  have t4_3 : ∀ (k4 : Nat) (x1 : Int) (x2 : Int), (-2147483648 ≤ x1 ∧ x1 ≤ 2147483647) → (-2147483648 ≤ x2 ∧ x2 ≤ 2147483647) → (0 ≤ x2) → (0 ≤ x1 ∧ x1 ≤ x2 ∧ x2 ≤ 13) → (2147483647 - x2 : Int).toNat = k4 → mj_T (D + 0) mj_m163 4 [some (.ref p0), some (.int (jn x1)), some (.int (jn x2))] [] h (jQp K L R g n tm h [] (jVi 0 13)) := by
    refine jInd (fun k4 ih5 => ?_)
    intro x1 x2 rx1 rx2 ix2 ivx2 hm6
    refine mj_T.pl rfl rfl rfl rfl ?_
    refine mj_T.pl rfl rfl rfl rfl ?_
    refine jT.alen 2 ty o rfl kp0 (by decide) (by decide) (fun z7 ez7 (az7 : 13 ≤ z7) (bz7 : z7 ≤ 13) => ?_)
    have rz7 : -2147483648 ≤ z7 ∧ z7 ≤ 2147483647 := ⟨by omega, by omega⟩
    refine jT.icmp rfl rx2 rz7 (fun c7 => ?_) (fun c7 => ?_)
    · have c7 := of_decide_eq_true c7
      refine mj_T.pl rfl rfl rfl rfl ?_
      exact jT.retp rfl rfl rfl ⟨x1, by omega, by omega, rfl⟩
    · have c7 := of_decide_eq_false c7
      iterate 2 refine mj_T.pl rfl rfl rfl rfl ?_
      refine jT.lald o rfl kp0 rx2 ⟨by omega, by omega⟩ (fun z8 jz8 => ?_)
      refine jT.lc 0 rfl rfl ?_
      refine mj_T.lif rfl rfl jz8 ⟨by decide, by decide⟩ (fun c14 => ?_) (fun c14 => ?_)
      · have c14 := of_decide_eq_true c14
        refine jT.iinc rfl rfl (fun z9 rz9 ez9 => ?_)
        replace ez9 := ez9 ⟨by omega, by omega⟩
        refine mj_T.eq (loc2 := [some (.ref p0), some (.int (jn x1)), some (.int (jn z9))]) ?_ rfl rfl rfl rfl
        refine mj_T.pl rfl rfl rfl rfl ?_
        exact ih5 ((2147483647 - z9 : Int).toNat) (by omega) x1 z9 rx1 rz9 (by omega) (by omega) rfl
      · have c14 := of_decide_eq_false c14
        refine jT.iinc rfl rfl (fun z10 rz10 ez10 => ?_)
        replace ez10 := ez10 ⟨by omega, by omega⟩
        refine mj_T.eq (loc2 := [some (.ref p0), some (.int (jn z10)), some (.int (jn x2))]) ?_ rfl rfl rfl rfl
        refine jT.iinc rfl rfl (fun z11 rz11 ez11 => ?_)
        replace ez11 := ez11 ⟨by omega, by omega⟩
        refine mj_T.eq (loc2 := [some (.ref p0), some (.int (jn z10)), some (.int (jn z11))]) ?_ rfl rfl rfl rfl
        refine mj_T.pl rfl rfl rfl rfl ?_
        exact ih5 ((2147483647 - z11 : Int).toNat) (by omega) z10 z11 rz10 rz11 (by omega) (by omega) rfl
  exact t4_3 _ 0 0 ⟨by decide, by decide⟩ ⟨by decide, by decide⟩ (by omega) (by omega) rfl
-- PolyRegisters.copyRow([J[J)V
theorem jc_164 {D n : Nat} {tm : Int} {h g : mj_H} {K L : Nat → Nat} {R : Nat → Nat → Nat} {p0 : Nat} {p1 : Nat} (ty : jTY K L R) (hg : g.length ≤ n) (o : jO K L R g n tm h) (kp0 : K p0 = 2) (kp1 : K p1 = 2) : mj_Ok (D + 1) 164 [.ref p0, .ref p1] h (jQ K L R g n tm [] jV0) := by
  refine mj_Ok.of (M := mj_m164) (loc := [some (.ref p0), some (.ref p1), none]) rfl rfl rfl ?_
  refine mj_T.pl rfl rfl rfl rfl ?_
  refine mj_T.pl (loc' := [some (.ref p0), some (.ref p1), some (.int (jn 0))]) rfl rfl rfl rfl ?_
  have t2_3 : ∀ (k4 : Nat) (x1 : Int) (h2 : mj_H), (-2147483648 ≤ x1 ∧ x1 ≤ 2147483647) → (jO K L R g n tm h2) → (0 ≤ x1) → (2147483647 - x1 : Int).toNat = k4 → mj_T (D + 0) mj_m164 2 [some (.ref p0), some (.ref p1), some (.int (jn x1))] [] h2 (jQ K L R g n tm [] jV0) := by
    refine jInd (fun k4 ih5 => ?_)
    intro x1 h2 rx1 oh2 ix1 hm6
    refine mj_T.pl rfl rfl rfl rfl ?_
    refine mj_T.pl rfl rfl rfl rfl ?_
    refine jT.alen 2 ty oh2 rfl kp1 (by decide) (by decide) (fun z7 ez7 (az7 : 13 ≤ z7) (bz7 : z7 ≤ 13) => ?_)
    have rz7 : -2147483648 ≤ z7 ∧ z7 ≤ 2147483647 := ⟨by omega, by omega⟩
    refine jT.icmp rfl rx1 rz7 (fun c5 => ?_) (fun c5 => ?_)
    · have c5 := of_decide_eq_true c5
      exact jT.ret oh2 rfl rfl rfl rfl
    · have c5 := of_decide_eq_false c5
      iterate 4 refine mj_T.pl rfl rfl rfl rfl ?_
      refine jT.alen 2 ty oh2 rfl kp0 (by decide) (by decide) (fun z8 ez8 (az8 : 13 ≤ z8) (bz8 : z8 ≤ 13) => ?_)
      have rz8 : -2147483648 ≤ z8 ∧ z8 ≤ 2147483647 := ⟨by omega, by omega⟩
      refine jT.icmp rfl rx1 rz8 (fun c13 => ?_) (fun c13 => ?_)
      · have c13 := of_decide_eq_true c13
        refine jT.lc 0 rfl rfl ?_
        refine jT.last oh2 rfl kp1 rx1 ⟨by omega, by omega⟩ ⟨by decide, by decide⟩ (fun h9 oh9 uh9 => ?_)
        refine jT.iinc rfl rfl (fun z10 rz10 ez10 => ?_)
        replace ez10 := ez10 ⟨by omega, by omega⟩
        refine mj_T.eq (loc2 := [some (.ref p0), some (.ref p1), some (.int (jn z10))]) ?_ rfl rfl rfl rfl
        refine mj_T.pl rfl rfl rfl rfl ?_
        exact ih5 ((2147483647 - z10 : Int).toNat) (by omega) z10 h9 rz10 oh9 (by omega) rfl
      · have c13 := of_decide_eq_false c13
        iterate 2 refine mj_T.pl rfl rfl rfl rfl ?_
        refine jT.lald oh2 rfl kp0 rx1 ⟨by omega, by omega⟩ (fun z11 jz11 => ?_)
        refine mj_T.pl rfl rfl rfl rfl ?_
        refine jT.last oh2 rfl kp1 rx1 ⟨by omega, by omega⟩ jz11 (fun h12 oh12 uh12 => ?_)
        refine jT.iinc rfl rfl (fun z13 rz13 ez13 => ?_)
        replace ez13 := ez13 ⟨by omega, by omega⟩
        refine mj_T.eq (loc2 := [some (.ref p0), some (.ref p1), some (.int (jn z13))]) ?_ rfl rfl rfl rfl
        refine mj_T.pl rfl rfl rfl rfl ?_
        exact ih5 ((2147483647 - z13 : Int).toNat) (by omega) z13 h12 rz13 oh12 (by omega) rfl
  exact t2_3 _ 0 h ⟨by decide, by decide⟩ o (by omega) rfl
-- PolyRegisters.clearRow([J)V
theorem jc_165 {D n : Nat} {tm : Int} {h g : mj_H} {K L : Nat → Nat} {R : Nat → Nat → Nat} {p0 : Nat} (ty : jTY K L R) (hg : g.length ≤ n) (o : jO K L R g n tm h) (kp0 : K p0 = 2) : mj_Ok (D + 1) 165 [.ref p0] h (jQ K L R g n tm [] jV0) := by
  refine mj_Ok.of (M := mj_m165) (loc := [some (.ref p0), none]) rfl rfl rfl ?_
  refine mj_T.pl rfl rfl rfl rfl ?_
  refine mj_T.pl (loc' := [some (.ref p0), some (.int (jn 0))]) rfl rfl rfl rfl ?_
  have t2_3 : ∀ (k4 : Nat) (x1 : Int) (h2 : mj_H), (-2147483648 ≤ x1 ∧ x1 ≤ 2147483647) → (jO K L R g n tm h2) → (0 ≤ x1) → (2147483647 - x1 : Int).toNat = k4 → mj_T (D + 0) mj_m165 2 [some (.ref p0), some (.int (jn x1))] [] h2 (jQ K L R g n tm [] jV0) := by
    refine jInd (fun k4 ih5 => ?_)
    intro x1 h2 rx1 oh2 ix1 hm6
    refine mj_T.pl rfl rfl rfl rfl ?_
    refine mj_T.pl rfl rfl rfl rfl ?_
    refine jT.alen 2 ty oh2 rfl kp0 (by decide) (by decide) (fun z7 ez7 (az7 : 13 ≤ z7) (bz7 : z7 ≤ 13) => ?_)
    have rz7 : -2147483648 ≤ z7 ∧ z7 ≤ 2147483647 := ⟨by omega, by omega⟩
    refine jT.icmp rfl rx1 rz7 (fun c5 => ?_) (fun c5 => ?_)
    · have c5 := of_decide_eq_true c5
      exact jT.ret oh2 rfl rfl rfl rfl
    · have c5 := of_decide_eq_false c5
      iterate 2 refine mj_T.pl rfl rfl rfl rfl ?_
      refine jT.lc 0 rfl rfl ?_
      refine jT.last oh2 rfl kp0 rx1 ⟨by omega, by omega⟩ ⟨by decide, by decide⟩ (fun h8 oh8 uh8 => ?_)
      refine jT.iinc rfl rfl (fun z9 rz9 ez9 => ?_)
      replace ez9 := ez9 ⟨by omega, by omega⟩
      refine mj_T.eq (loc2 := [some (.ref p0), some (.int (jn z9))]) ?_ rfl rfl rfl rfl
      refine mj_T.pl rfl rfl rfl rfl ?_
      exact ih5 ((2147483647 - z9 : Int).toNat) (by omega) z9 h8 rz9 oh8 (by omega) rfl
  exact t2_3 _ 0 h ⟨by decide, by decide⟩ o (by omega) rfl
/-! The class by kinds: its methods. -/
-- PolyRegisters$Bench.placeAt(I)I
theorem jc_5 {D n : Nat} {tm : Int} {h g : mj_H} {K L : Nat → Nat} {R : Nat → Nat → Nat} {p0 : Nat} {p1 : Int} (ty : jTY K L R) (hg : g.length ≤ n) (o : jO K L R g n tm h) (kp0 : K p0 = 10) (rp1 : -2147483648 ≤ p1 ∧ p1 ≤ 2147483647) : mj_Ok (D + 1) 5 [.ref p0, .int (jn p1)] h (jQp K L R g n tm h [] (jVi (-2147483648) 2147483647)) := by
  refine mj_Ok.of (M := mj_m5) (loc := [some (.ref p0), some (.int (jn p1))]) rfl rfl rfl ?_
  refine mj_T.pl rfl rfl rfl rfl ?_
  refine jT.if0 rfl rp1 (fun c1 => ?_) (fun c1 => ?_)
  · have c1 := of_decide_eq_true c1
    refine mj_T.pl rfl rfl rfl rfl ?_
    exact jT.retp rfl rfl rfl ⟨0, by omega, by omega, rfl⟩
  · have c1 := of_decide_eq_false c1
    iterate 2 refine mj_T.pl rfl rfl rfl rfl ?_
    refine jT.getR 10 101 1 ty o rfl kp0 (by decide) rfl rfl rfl (fun k1 => ?_)
    refine jT.alen 1 ty o rfl k1 (by decide) (by decide) (fun z2 ez2 (az2 : 0 ≤ z2) (bz2 : z2 ≤ 1000) => ?_)
    have rz2 : -2147483648 ≤ z2 ∧ z2 ≤ 2147483647 := ⟨by omega, by omega⟩
    refine jT.icmp rfl rp1 rz2 (fun c10 => ?_) (fun c10 => ?_)
    · have c10 := of_decide_eq_true c10
      refine mj_T.pl rfl rfl rfl rfl ?_
      exact jT.retp rfl rfl rfl ⟨0, by omega, by omega, rfl⟩
    · have c10 := of_decide_eq_false c10
      refine mj_T.pl rfl rfl rfl rfl ?_
      refine jT.getR 10 101 1 ty o rfl kp0 (by decide) rfl rfl rfl (fun k3 => ?_)
      refine mj_T.pl rfl rfl rfl rfl ?_
      refine jT.iald o rfl k3 rp1 ⟨by omega, by omega⟩ (fun z4 rz4 fz4 => ?_)
      refine mj_T.pl rfl rfl rfl rfl ?_
      exact jT.retp rfl rfl rfl ⟨z4, by omega, by omega, rfl⟩
-- PolyRegisters$Bench.heightAt(I)I
theorem jc_6 {D n : Nat} {tm : Int} {h g : mj_H} {K L : Nat → Nat} {R : Nat → Nat → Nat} {p0 : Nat} {p1 : Int} (ty : jTY K L R) (hg : g.length ≤ n) (o : jO K L R g n tm h) (kp0 : K p0 = 10) (rp1 : -2147483648 ≤ p1 ∧ p1 ≤ 2147483647) : mj_Ok (D + 1) 6 [.ref p0, .int (jn p1)] h (jQp K L R g n tm h [] (jVi (-2147483648) 2147483647)) := by
  refine mj_Ok.of (M := mj_m6) (loc := [some (.ref p0), some (.int (jn p1))]) rfl rfl rfl ?_
  refine mj_T.pl rfl rfl rfl rfl ?_
  refine jT.if0 rfl rp1 (fun c1 => ?_) (fun c1 => ?_)
  · have c1 := of_decide_eq_true c1
    refine mj_T.pl rfl rfl rfl rfl ?_
    exact jT.retp rfl rfl rfl ⟨0, by omega, by omega, rfl⟩
  · have c1 := of_decide_eq_false c1
    iterate 2 refine mj_T.pl rfl rfl rfl rfl ?_
    refine jT.getR 10 101 1 ty o rfl kp0 (by decide) rfl rfl rfl (fun k1 => ?_)
    refine jT.alen 1 ty o rfl k1 (by decide) (by decide) (fun z2 ez2 (az2 : 0 ≤ z2) (bz2 : z2 ≤ 1000) => ?_)
    have rz2 : -2147483648 ≤ z2 ∧ z2 ≤ 2147483647 := ⟨by omega, by omega⟩
    refine jT.icmp rfl rp1 rz2 (fun c10 => ?_) (fun c10 => ?_)
    · have c10 := of_decide_eq_true c10
      refine mj_T.pl rfl rfl rfl rfl ?_
      exact jT.retp rfl rfl rfl ⟨0, by omega, by omega, rfl⟩
    · have c10 := of_decide_eq_false c10
      refine mj_T.pl rfl rfl rfl rfl ?_
      refine jT.getR 10 101 1 ty o rfl kp0 (by decide) rfl rfl rfl (fun k3 => ?_)
      refine mj_T.pl rfl rfl rfl rfl ?_
      refine jT.iald o rfl k3 rp1 ⟨by omega, by omega⟩ (fun z4 rz4 fz4 => ?_)
      refine mj_T.pl rfl rfl rfl rfl ?_
      exact jT.retp rfl rfl rfl ⟨z4, by omega, by omega, rfl⟩
-- PolyRegisters$Bench.putPoint(II)V
theorem jc_3 {D n : Nat} {tm : Int} {h g : mj_H} {K L : Nat → Nat} {R : Nat → Nat → Nat} {p0 : Nat} {p1 : Int} {p2 : Int} (ty : jTY K L R) (hg : g.length ≤ n) (o : jO K L R g n tm h) (kp0 : K p0 = 10) (rp1 : -2147483648 ≤ p1 ∧ p1 ≤ 2147483647) (rp2 : -2147483648 ≤ p2 ∧ p2 ≤ 2147483647) : mj_Ok (D + 1) 3 [.ref p0, .int (jn p1), .int (jn p2)] h (jQ K L R g n tm [] jV0) := by
  refine mj_Ok.of (M := mj_m3) (loc := [some (.ref p0), some (.int (jn p1)), some (.int (jn p2))]) rfl rfl rfl ?_
  refine mj_T.pl rfl rfl rfl rfl ?_
  refine jT.getI 10 9 o rfl kp0 (by decide) rfl rfl rfl (fun z1 (az1 : 0 ≤ z1) (bz1 : z1 ≤ 2147483647) fz1 => ?_)
  have rz1 : -2147483648 ≤ z1 ∧ z1 ≤ 2147483647 := ⟨by omega, by omega⟩
  refine mj_T.pl rfl rfl rfl rfl ?_
  refine jT.getR 10 101 1 ty o rfl kp0 (by decide) rfl rfl rfl (fun k2 => ?_)
  refine jT.alen 1 ty o rfl k2 (by decide) (by decide) (fun z3 ez3 (az3 : 0 ≤ z3) (bz3 : z3 ≤ 1000) => ?_)
  have rz3 : -2147483648 ≤ z3 ∧ z3 ≤ 2147483647 := ⟨by omega, by omega⟩
  refine jT.icmp rfl rz1 rz3 (fun c9 => ?_) (fun c9 => ?_)
  · have c9 := of_decide_eq_true c9
    exact jT.ret o rfl rfl rfl rfl
  · have c9 := of_decide_eq_false c9
    refine mj_T.pl rfl rfl rfl rfl ?_
    refine jT.getK 10 9 o rfl kp0 (by decide) rfl rfl rfl fz1.symm ?_
    refine mj_T.pl rfl rfl rfl rfl ?_
    refine jT.getR 10 101 1 ty o rfl kp0 (by decide) rfl rfl rfl (fun k4 => ?_)
    refine jT.alen 1 ty o rfl k4 (by decide) (by decide) (fun z5 ez5 (az5 : 0 ≤ z5) (bz5 : z5 ≤ 1000) => ?_)
    have rz5 : -2147483648 ≤ z5 ∧ z5 ≤ 2147483647 := ⟨by omega, by omega⟩
    refine jT.icmp rfl rz1 rz5 (fun c21 => ?_) (fun c21 => ?_)
    · have c21 := of_decide_eq_true c21
      exact jT.ret o rfl rfl rfl rfl
    · have c21 := of_decide_eq_false c21
      refine mj_T.pl rfl rfl rfl rfl ?_
      refine jT.getR 10 101 1 ty o rfl kp0 (by decide) rfl rfl rfl (fun k6 => ?_)
      refine mj_T.pl rfl rfl rfl rfl ?_
      refine jT.getK 10 9 o rfl kp0 (by decide) rfl rfl rfl fz1.symm ?_
      refine mj_T.pl rfl rfl rfl rfl ?_
      refine jT.iast o rfl k6 rz1 ⟨by omega, by omega⟩ rp1 (fun h7 oh7 uh7 => ?_)
      refine mj_T.pl rfl rfl rfl rfl ?_
      refine jT.getR 10 101 1 ty oh7 rfl kp0 (by decide) rfl rfl rfl (fun k8 => ?_)
      refine mj_T.pl rfl rfl rfl rfl ?_
      refine jT.getK 10 9 oh7 rfl kp0 (by decide) rfl rfl rfl ((uh7 p0 3).trans fz1.symm) ?_
      refine mj_T.pl rfl rfl rfl rfl ?_
      refine jT.iast oh7 rfl k8 rz1 ⟨by omega, by omega⟩ rp2 (fun h9 oh9 uh9 => ?_)
      iterate 2 refine mj_T.pl rfl rfl rfl rfl ?_
      refine jT.getK 10 9 oh9 rfl kp0 (by decide) rfl rfl rfl ((uh9 p0 3).trans ((uh7 p0 3).trans fz1.symm)) ?_
      refine mj_T.pl rfl rfl rfl rfl ?_
      refine jT.iadd rfl (fun z10 rz10 ez10 => ?_)
      replace ez10 := ez10 ⟨by omega, by omega⟩
      refine jT.putI 10 9 oh9 rfl kp0 (by decide) rfl rfl rfl (Or.inl rfl) (by show 0 ≤ z10; omega) (by show z10 ≤ 2147483647; omega) (fun h11 oh11 wh11 uh11 => ?_)
      exact jT.ret oh11 rfl rfl rfl rfl
-- PolyRegisters$Bench.copy(LPolyRegisters$Bench;)V
theorem jc_2 {D n : Nat} {tm : Int} {h g : mj_H} {K L : Nat → Nat} {R : Nat → Nat → Nat} {p0 : Nat} {p1 : Nat} (ty : jTY K L R) (hg : g.length ≤ n) (o : jO K L R g n tm h) (kp0 : K p0 = 10) (kp1 : K p1 = 10) : mj_Ok (D + 2) 2 [.ref p0, .ref p1] h (jQ K L R g n tm [] jV0) := by
  refine mj_Ok.of (M := mj_m2) (loc := [some (.ref p0), some (.ref p1), none]) rfl rfl rfl ?_
  refine mj_T.pl rfl rfl rfl rfl ?_
  refine mj_T.pl (loc' := [some (.ref p0), some (.ref p1), some (.int (jn 0))]) rfl rfl rfl rfl ?_
  have t2_3 : ∀ (k4 : Nat) (x1 : Int) (h2 : mj_H), (-2147483648 ≤ x1 ∧ x1 ≤ 2147483647) → (jO K L R g n tm h2) → (0 ≤ x1) → (2147483647 - x1 : Int).toNat = k4 → mj_T (D + 1) mj_m2 2 [some (.ref p0), some (.ref p1), some (.int (jn x1))] [] h2 (jQ K L R g n tm [] jV0) := by
    refine jInd (fun k4 ih5 => ?_)
    intro x1 h2 rx1 oh2 ix1 hm6
    refine mj_T.pl rfl rfl rfl rfl ?_
    refine mj_T.pl rfl rfl rfl rfl ?_
    refine jT.getR 10 106 6 ty oh2 rfl kp0 (by decide) rfl rfl rfl (fun k7 => ?_)
    refine jT.alen 6 ty oh2 rfl k7 (by decide) (by decide) (fun z8 ez8 (az8 : 6 ≤ z8) (bz8 : z8 ≤ 9) => ?_)
    have rz8 : -2147483648 ≤ z8 ∧ z8 ≤ 2147483647 := ⟨by omega, by omega⟩
    refine jT.icmp rfl rx1 rz8 (fun c8 => ?_) (fun c8 => ?_)
    · have c8 := of_decide_eq_true c8
      iterate 2 refine mj_T.pl rfl rfl rfl rfl ?_
      refine jT.putI 10 9 oh2 rfl kp0 (by decide) rfl rfl rfl (Or.inl rfl) (by show 0 ≤ 0; omega) (by show 0 ≤ 2147483647; omega) (fun h9 oh9 wh9 uh9 => ?_)
      refine mj_T.pl rfl rfl rfl rfl ?_
      refine mj_T.pl (loc' := [some (.ref p0), some (.ref p1), some (.int (jn 0))]) rfl rfl rfl rfl ?_
      have t48_12 : ∀ (k13 : Nat) (x10 : Int) (h11 : mj_H), (-2147483648 ≤ x10 ∧ x10 ≤ 2147483647) → (jO K L R g n tm h11) → (0 ≤ x10) → (2147483647 - x10 : Int).toNat = k13 → mj_T (D + 1) mj_m2 48 [some (.ref p0), some (.ref p1), some (.int (jn x10))] [] h11 (jQ K L R g n tm [] jV0) := by
        refine jInd (fun k13 ih14 => ?_)
        intro x10 h11 rx10 oh11 ix10 hm15
        refine mj_T.pl rfl rfl rfl rfl ?_
        refine mj_T.pl rfl rfl rfl rfl ?_
        refine jT.getI 10 9 oh11 rfl kp1 (by decide) rfl rfl rfl (fun z16 (az16 : 0 ≤ z16) (bz16 : z16 ≤ 2147483647) fz16 => ?_)
        have rz16 : -2147483648 ≤ z16 ∧ z16 ≤ 2147483647 := ⟨by omega, by omega⟩
        refine jT.icmp rfl rx10 rz16 (fun c53 => ?_) (fun c53 => ?_)
        · have c53 := of_decide_eq_true c53
          exact jT.ret oh11 rfl rfl rfl rfl
        · have c53 := of_decide_eq_false c53
          iterate 3 refine mj_T.pl rfl rfl rfl rfl ?_
          refine jT.callp rfl rfl (Nat.le_of_ble_eq_true rfl) (Nat.le_of_ble_eq_true rfl) (jrv_of oh11 kp1 (by decide) rfl (by decide) rfl _) rfl (mj_Ok.up (Nat.add_le_add_left (by decide) D) (jc_5 (D := D) ty hg oh11 kp1 rx10)) rfl rfl (fun v17 qv17 => ?_)
          obtain ⟨z18, az18, bz18, rfl⟩ := qv17
          have rz18 : -2147483648 ≤ z18 ∧ z18 ≤ 2147483647 := ⟨by omega, by omega⟩
          refine mj_T.eq (pc2 := 62) (st2 := [.int (jn z18), .ref p0]) ?_ rfl rfl rfl rfl
          iterate 2 refine mj_T.pl rfl rfl rfl rfl ?_
          refine jT.callp rfl rfl (Nat.le_of_ble_eq_true rfl) (Nat.le_of_ble_eq_true rfl) (jrv_of oh11 kp1 (by decide) rfl (by decide) rfl _) rfl (mj_Ok.up (Nat.add_le_add_left (by decide) D) (jc_6 (D := D) ty hg oh11 kp1 rx10)) rfl rfl (fun v19 qv19 => ?_)
          obtain ⟨z20, az20, bz20, rfl⟩ := qv19
          have rz20 : -2147483648 ≤ z20 ∧ z20 ≤ 2147483647 := ⟨by omega, by omega⟩
          refine mj_T.eq (pc2 := 67) (st2 := [.int (jn z20), .int (jn z18), .ref p0]) ?_ rfl rfl rfl rfl
          refine jT.call rfl rfl (Nat.le_of_ble_eq_true rfl) (Nat.le_of_ble_eq_true rfl) (jrv_of oh11 kp0 (by decide) rfl (by decide) rfl _) rfl (mj_Ok.up (Nat.add_le_add_left (by decide) D) (jc_3 (D := D) ty hg oh11 kp0 rz18 rz20)) rfl rfl (fun v21 h22 qv21 oh22 => ?_)
          obtain rfl : v21 = none := qv21
          refine mj_T.eq (pc2 := 70) (st2 := []) ?_ rfl rfl rfl rfl
          refine jT.iinc rfl rfl (fun z23 rz23 ez23 => ?_)
          replace ez23 := ez23 ⟨by omega, by omega⟩
          refine mj_T.eq (loc2 := [some (.ref p0), some (.ref p1), some (.int (jn z23))]) ?_ rfl rfl rfl rfl
          refine mj_T.pl rfl rfl rfl rfl ?_
          exact ih14 ((2147483647 - z23 : Int).toNat) (by omega) z23 h22 rz23 oh22 (by omega) rfl
      exact t48_12 _ 0 h9 ⟨by decide, by decide⟩ oh9 (by omega) rfl
    · have c8 := of_decide_eq_false c8
      iterate 2 refine mj_T.pl rfl rfl rfl rfl ?_
      refine jT.getR 10 106 6 ty oh2 rfl kp1 (by decide) rfl rfl rfl (fun k24 => ?_)
      refine jT.alen 6 ty oh2 rfl k24 (by decide) (by decide) (fun z25 ez25 (az25 : 6 ≤ z25) (bz25 : z25 ≤ 9) => ?_)
      have rz25 : -2147483648 ≤ z25 ∧ z25 ≤ 2147483647 := ⟨by omega, by omega⟩
      refine jT.icmp rfl rx1 rz25 (fun c17 => ?_) (fun c17 => ?_)
      · have c17 := of_decide_eq_true c17
        iterate 2 refine mj_T.pl rfl rfl rfl rfl ?_
        refine jT.putI 10 9 oh2 rfl kp0 (by decide) rfl rfl rfl (Or.inl rfl) (by show 0 ≤ 0; omega) (by show 0 ≤ 2147483647; omega) (fun h26 oh26 wh26 uh26 => ?_)
        refine mj_T.pl rfl rfl rfl rfl ?_
        refine mj_T.pl (loc' := [some (.ref p0), some (.ref p1), some (.int (jn 0))]) rfl rfl rfl rfl ?_
        have t48_29 : ∀ (k30 : Nat) (x27 : Int) (h28 : mj_H), (-2147483648 ≤ x27 ∧ x27 ≤ 2147483647) → (jO K L R g n tm h28) → (0 ≤ x27) → (2147483647 - x27 : Int).toNat = k30 → mj_T (D + 1) mj_m2 48 [some (.ref p0), some (.ref p1), some (.int (jn x27))] [] h28 (jQ K L R g n tm [] jV0) := by
          refine jInd (fun k30 ih31 => ?_)
          intro x27 h28 rx27 oh28 ix27 hm32
          refine mj_T.pl rfl rfl rfl rfl ?_
          refine mj_T.pl rfl rfl rfl rfl ?_
          refine jT.getI 10 9 oh28 rfl kp1 (by decide) rfl rfl rfl (fun z33 (az33 : 0 ≤ z33) (bz33 : z33 ≤ 2147483647) fz33 => ?_)
          have rz33 : -2147483648 ≤ z33 ∧ z33 ≤ 2147483647 := ⟨by omega, by omega⟩
          refine jT.icmp rfl rx27 rz33 (fun c53 => ?_) (fun c53 => ?_)
          · have c53 := of_decide_eq_true c53
            exact jT.ret oh28 rfl rfl rfl rfl
          · have c53 := of_decide_eq_false c53
            iterate 3 refine mj_T.pl rfl rfl rfl rfl ?_
            refine jT.callp rfl rfl (Nat.le_of_ble_eq_true rfl) (Nat.le_of_ble_eq_true rfl) (jrv_of oh28 kp1 (by decide) rfl (by decide) rfl _) rfl (mj_Ok.up (Nat.add_le_add_left (by decide) D) (jc_5 (D := D) ty hg oh28 kp1 rx27)) rfl rfl (fun v34 qv34 => ?_)
            obtain ⟨z35, az35, bz35, rfl⟩ := qv34
            have rz35 : -2147483648 ≤ z35 ∧ z35 ≤ 2147483647 := ⟨by omega, by omega⟩
            refine mj_T.eq (pc2 := 62) (st2 := [.int (jn z35), .ref p0]) ?_ rfl rfl rfl rfl
            iterate 2 refine mj_T.pl rfl rfl rfl rfl ?_
            refine jT.callp rfl rfl (Nat.le_of_ble_eq_true rfl) (Nat.le_of_ble_eq_true rfl) (jrv_of oh28 kp1 (by decide) rfl (by decide) rfl _) rfl (mj_Ok.up (Nat.add_le_add_left (by decide) D) (jc_6 (D := D) ty hg oh28 kp1 rx27)) rfl rfl (fun v36 qv36 => ?_)
            obtain ⟨z37, az37, bz37, rfl⟩ := qv36
            have rz37 : -2147483648 ≤ z37 ∧ z37 ≤ 2147483647 := ⟨by omega, by omega⟩
            refine mj_T.eq (pc2 := 67) (st2 := [.int (jn z37), .int (jn z35), .ref p0]) ?_ rfl rfl rfl rfl
            refine jT.call rfl rfl (Nat.le_of_ble_eq_true rfl) (Nat.le_of_ble_eq_true rfl) (jrv_of oh28 kp0 (by decide) rfl (by decide) rfl _) rfl (mj_Ok.up (Nat.add_le_add_left (by decide) D) (jc_3 (D := D) ty hg oh28 kp0 rz35 rz37)) rfl rfl (fun v38 h39 qv38 oh39 => ?_)
            obtain rfl : v38 = none := qv38
            refine mj_T.eq (pc2 := 70) (st2 := []) ?_ rfl rfl rfl rfl
            refine jT.iinc rfl rfl (fun z40 rz40 ez40 => ?_)
            replace ez40 := ez40 ⟨by omega, by omega⟩
            refine mj_T.eq (loc2 := [some (.ref p0), some (.ref p1), some (.int (jn z40))]) ?_ rfl rfl rfl rfl
            refine mj_T.pl rfl rfl rfl rfl ?_
            exact ih31 ((2147483647 - z40 : Int).toNat) (by omega) z40 h39 rz40 oh39 (by omega) rfl
        exact t48_29 _ 0 h26 ⟨by decide, by decide⟩ oh26 (by omega) rfl
      · have c17 := of_decide_eq_false c17
        refine mj_T.pl rfl rfl rfl rfl ?_
        refine jT.getR 10 106 6 ty oh2 rfl kp1 (by decide) rfl rfl rfl (fun k41 => ?_)
        refine mj_T.pl rfl rfl rfl rfl ?_
        refine jT.aald 6 2 ty oh2 rfl k41 (by decide) (by decide) rfl rx1 ⟨by omega, by omega⟩ (fun k42 => ?_)
        refine mj_T.pl rfl rfl rfl rfl ?_
        refine jT.getR 10 106 6 ty oh2 rfl kp0 (by decide) rfl rfl rfl (fun k43 => ?_)
        refine mj_T.pl rfl rfl rfl rfl ?_
        refine jT.aald 6 2 ty oh2 rfl k43 (by decide) (by decide) rfl rx1 ⟨by omega, by omega⟩ (fun k44 => ?_)
        refine jT.call rfl rfl (Nat.le_of_ble_eq_true rfl) (Nat.le_of_ble_eq_true rfl) rfl rfl (mj_Ok.up (Nat.add_le_add_left (by decide) D) (jc_164 (D := D) ty hg oh2 k42 k44)) rfl rfl (fun v45 h46 qv45 oh46 => ?_)
        obtain rfl : v45 = none := qv45
        refine mj_T.eq (pc2 := 35) (st2 := []) ?_ rfl rfl rfl rfl
        refine jT.iinc rfl rfl (fun z47 rz47 ez47 => ?_)
        replace ez47 := ez47 ⟨by omega, by omega⟩
        refine mj_T.eq (loc2 := [some (.ref p0), some (.ref p1), some (.int (jn z47))]) ?_ rfl rfl rfl rfl
        refine mj_T.pl rfl rfl rfl rfl ?_
        exact ih5 ((2147483647 - z47 : Int).toNat) (by omega) z47 h46 rz47 oh46 (by omega) rfl
  exact t2_3 _ 0 h ⟨by decide, by decide⟩ o (by omega) rfl
-- PolyRegisters$Bench.hasPlace(I)Z
theorem jc_4 {D n : Nat} {tm : Int} {h g : mj_H} {K L : Nat → Nat} {R : Nat → Nat → Nat} {p0 : Nat} {p1 : Int} (ty : jTY K L R) (hg : g.length ≤ n) (o : jO K L R g n tm h) (kp0 : K p0 = 10) (rp1 : -2147483648 ≤ p1 ∧ p1 ≤ 2147483647) : mj_Ok (D + 2) 4 [.ref p0, .int (jn p1)] h (jQp K L R g n tm h [] (jVi 0 1)) := by
  refine mj_Ok.of (M := mj_m4) (loc := [some (.ref p0), some (.int (jn p1)), none]) rfl rfl rfl ?_
  refine mj_T.pl rfl rfl rfl rfl ?_
  refine mj_T.pl (loc' := [some (.ref p0), some (.int (jn p1)), some (.int (jn 0))]) rfl rfl rfl rfl ?_
  have t2_2 : ∀ (k3 : Nat) (x1 : Int), (-2147483648 ≤ x1 ∧ x1 ≤ 2147483647) → (0 ≤ x1) → (2147483647 - x1 : Int).toNat = k3 → mj_T (D + 1) mj_m4 2 [some (.ref p0), some (.int (jn p1)), some (.int (jn x1))] [] h (jQp K L R g n tm h [] (jVi 0 1)) := by
    refine jInd (fun k3 ih4 => ?_)
    intro x1 rx1 ix1 hm5
    refine mj_T.pl rfl rfl rfl rfl ?_
    refine mj_T.pl rfl rfl rfl rfl ?_
    refine jT.getI 10 9 o rfl kp0 (by decide) rfl rfl rfl (fun z6 (az6 : 0 ≤ z6) (bz6 : z6 ≤ 2147483647) fz6 => ?_)
    have rz6 : -2147483648 ≤ z6 ∧ z6 ≤ 2147483647 := ⟨by omega, by omega⟩
    refine jT.icmp rfl rx1 rz6 (fun c7 => ?_) (fun c7 => ?_)
    · have c7 := of_decide_eq_true c7
      refine mj_T.pl rfl rfl rfl rfl ?_
      exact jT.retbp rfl rfl (by omega) (by omega)
    · have c7 := of_decide_eq_false c7
      iterate 2 refine mj_T.pl rfl rfl rfl rfl ?_
      refine jT.callpp rfl rfl (Nat.le_of_ble_eq_true rfl) (Nat.le_of_ble_eq_true rfl) (jrv_of o kp0 (by decide) rfl (by decide) rfl _) rfl (mj_Ok.up (Nat.add_le_add_left (by decide) D) (jc_5 (D := D) ty hg o kp0 rx1)) rfl rfl (fun v7 qv7 => ?_)
      obtain ⟨z8, az8, bz8, rfl⟩ := qv7
      have rz8 : -2147483648 ≤ z8 ∧ z8 ≤ 2147483647 := ⟨by omega, by omega⟩
      refine mj_T.eq (pc2 := 15) (st2 := [.int (jn z8)]) ?_ rfl rfl rfl rfl
      refine mj_T.pl rfl rfl rfl rfl ?_
      refine jT.icmp rfl rz8 rp1 (fun c16 => ?_) (fun c16 => ?_)
      · have c16 := jne1 c16
        refine jT.iinc rfl rfl (fun z9 rz9 ez9 => ?_)
        replace ez9 := ez9 ⟨by omega, by omega⟩
        refine mj_T.eq (loc2 := [some (.ref p0), some (.int (jn p1)), some (.int (jn z9))]) ?_ rfl rfl rfl rfl
        refine mj_T.pl rfl rfl rfl rfl ?_
        exact ih4 ((2147483647 - z9 : Int).toNat) (by omega) z9 rz9 (by omega) rfl
      · have c16 := jne2 c16
        refine mj_T.pl rfl rfl rfl rfl ?_
        exact jT.retbp rfl rfl (by omega) (by omega)
  exact t2_2 _ 0 ⟨by decide, by decide⟩ (by omega) rfl
-- PolyRegisters$Bench.weight(I)J
theorem jc_7 {D n : Nat} {tm : Int} {h g : mj_H} {K L : Nat → Nat} {R : Nat → Nat → Nat} {p0 : Nat} {p1 : Int} (ty : jTY K L R) (hg : g.length ≤ n) (o : jO K L R g n tm h) (kp0 : K p0 = 10) (rp1 : -2147483648 ≤ p1 ∧ p1 ≤ 2147483647) : mj_Ok (D + 2) 7 [.ref p0, .int (jn p1)] h (jQp K L R g n tm h [] jVl) := by
  refine mj_Ok.of (M := mj_m7) (loc := [some (.ref p0), some (.int (jn p1)), none, none, none]) rfl rfl rfl ?_
  refine jT.lc 1 rfl rfl ?_
  refine mj_T.pl (loc' := [some (.ref p0), some (.int (jn p1)), some (.long (jl ((1 : Nat) : Int))), none, none]) rfl rfl rfl rfl ?_
  refine mj_T.pl rfl rfl rfl rfl ?_
  refine mj_T.pl (loc' := [some (.ref p0), some (.int (jn p1)), some (.long (jl ((1 : Nat) : Int))), none, some (.int (jn 0))]) rfl rfl rfl rfl ?_
  have t5_3 : ∀ (k4 : Nat) (y1 : Int) (x2 : Int), (jR y1) → (-2147483648 ≤ x2 ∧ x2 ≤ 2147483647) → (0 ≤ x2) → (2147483647 - x2 : Int).toNat = k4 → mj_T (D + 1) mj_m7 5 [some (.ref p0), some (.int (jn p1)), some (.long (jl y1)), none, some (.int (jn x2))] [] h (jQp K L R g n tm h [] jVl) := by
    refine jInd (fun k4 ih5 => ?_)
    intro y1 x2 jy1 rx2 ix2 hm6
    refine mj_T.pl rfl rfl rfl rfl ?_
    refine mj_T.pl rfl rfl rfl rfl ?_
    refine jT.getI 10 9 o rfl kp0 (by decide) rfl rfl rfl (fun z7 (az7 : 0 ≤ z7) (bz7 : z7 ≤ 2147483647) fz7 => ?_)
    have rz7 : -2147483648 ≤ z7 ∧ z7 ≤ 2147483647 := ⟨by omega, by omega⟩
    refine jT.icmp rfl rx2 rz7 (fun c11 => ?_) (fun c11 => ?_)
    · have c11 := of_decide_eq_true c11
      refine mj_T.pl rfl rfl rfl rfl ?_
      exact jT.retp rfl rfl rfl ⟨y1, jy1, rfl⟩
    · have c11 := of_decide_eq_false c11
      iterate 2 refine mj_T.pl rfl rfl rfl rfl ?_
      refine jT.icmp rfl rx2 rp1 (fun c17 => ?_) (fun c17 => ?_)
      · have c17 := of_decide_eq_true c17
        refine jT.iinc rfl rfl (fun z8 rz8 ez8 => ?_)
        replace ez8 := ez8 ⟨by omega, by omega⟩
        refine mj_T.eq (loc2 := [some (.ref p0), some (.int (jn p1)), some (.long (jl y1)), none, some (.int (jn z8))]) ?_ rfl rfl rfl rfl
        refine mj_T.pl rfl rfl rfl rfl ?_
        exact ih5 ((2147483647 - z8 : Int).toNat) (by omega) y1 z8 jy1 rz8 (by omega) rfl
      · have c17 := of_decide_eq_false c17
        iterate 3 refine mj_T.pl rfl rfl rfl rfl ?_
        refine jT.callpp rfl rfl (Nat.le_of_ble_eq_true rfl) (Nat.le_of_ble_eq_true rfl) (jrv_of o kp0 (by decide) rfl (by decide) rfl _) rfl (mj_Ok.up (Nat.add_le_add_left (by decide) D) (jc_5 (D := D) ty hg o kp0 rp1)) rfl rfl (fun v9 qv9 => ?_)
        obtain ⟨z10, az10, bz10, rfl⟩ := qv9
        have rz10 : -2147483648 ≤ z10 ∧ z10 ≤ 2147483647 := ⟨by omega, by omega⟩
        refine mj_T.eq (pc2 := 26) (st2 := [.int (jn z10), .long (jl y1)]) ?_ rfl rfl rfl rfl
        iterate 2 refine mj_T.pl rfl rfl rfl rfl ?_
        refine jT.callpp rfl rfl (Nat.le_of_ble_eq_true rfl) (Nat.le_of_ble_eq_true rfl) (jrv_of o kp0 (by decide) rfl (by decide) rfl _) rfl (mj_Ok.up (Nat.add_le_add_left (by decide) D) (jc_5 (D := D) ty hg o kp0 rx2)) rfl rfl (fun v11 qv11 => ?_)
        obtain ⟨z12, az12, bz12, rfl⟩ := qv11
        have rz12 : -2147483648 ≤ z12 ∧ z12 ≤ 2147483647 := ⟨by omega, by omega⟩
        refine mj_T.eq (pc2 := 32) (st2 := [.int (jn z12), .int (jn z10), .long (jl y1)]) ?_ rfl rfl rfl rfl
        refine jT.isub rfl (fun z13 rz13 ez13 => ?_)
        clear ez13
        refine jT.i2l rfl rz13 ?_
        have j14 : jR z13 := ⟨by omega, by omega⟩
        refine jT.lmul rfl (fun z15 jz15 _ => ?_)
        refine mj_T.pl (loc' := [some (.ref p0), some (.int (jn p1)), some (.long (jl z15)), none, some (.int (jn x2))]) rfl rfl rfl rfl ?_
        refine jT.iinc rfl rfl (fun z16 rz16 ez16 => ?_)
        replace ez16 := ez16 ⟨by omega, by omega⟩
        refine mj_T.eq (loc2 := [some (.ref p0), some (.int (jn p1)), some (.long (jl z15)), none, some (.int (jn z16))]) ?_ rfl rfl rfl rfl
        refine mj_T.pl rfl rfl rfl rfl ?_
        exact ih5 ((2147483647 - z16 : Int).toNat) (by omega) z15 z16 jz15 rz16 (by omega) rfl
  exact t5_3 _ ((1 : Nat) : Int) 0 ⟨by decide, by decide⟩ ⟨by decide, by decide⟩ (by omega) rfl
-- PolyRegisters.commonOfLongs(JJ)J
theorem jc_171 {D n : Nat} {tm : Int} {h g : mj_H} {K L : Nat → Nat} {R : Nat → Nat → Nat} {p0 : Int} {p1 : Int} (ty : jTY K L R) (hg : g.length ≤ n) (o : jO K L R g n tm h) (jp0 : jR p0) (jp1 : jR p1) : mj_Ok (D + 1) 171 [.long (jl p0), .long (jl p1)] h (jQp K L R g n tm h [] jVl) := by
  refine mj_Ok.of (M := mj_m171) (loc := [some (.long (jl p0)), none, some (.long (jl p1)), none, none, none, none, none, none, none, none]) rfl rfl rfl ?_
  refine mj_T.pl rfl rfl rfl rfl ?_
  refine jT.lc 0 rfl rfl ?_
  have t12_2 : ∀ (y1 : Int), (jR y1) → mj_T (D + 0) mj_m171 12 [some (.long (jl p0)), none, some (.long (jl p1)), none, none, none, none, none, none, none, none] [.long (jl y1)] h (jQp K L R g n tm h [] jVl) := by
    intro y1 jy1
    refine mj_T.pl (loc' := [some (.long (jl p0)), none, some (.long (jl p1)), none, some (.long (jl y1)), none, none, none, none, none, none]) rfl rfl rfl rfl ?_
    refine mj_T.pl rfl rfl rfl rfl ?_
    refine jT.lc 0 rfl rfl ?_
    refine mj_T.lif rfl rfl jp1 ⟨by decide, by decide⟩ (fun c16 => ?_) (fun c16 => ?_)
    · have c16 := of_decide_eq_true c16
      refine mj_T.pl rfl rfl rfl rfl ?_
      refine mj_T.pl (loc' := [some (.long (jl p0)), none, some (.long (jl p1)), none, some (.long (jl y1)), none, some (.long (jl p1)), none, none, none, none]) rfl rfl rfl rfl ?_
      refine mj_T.pl rfl rfl rfl rfl ?_
      refine mj_T.pl (loc' := [some (.long (jl p0)), none, some (.long (jl p1)), none, some (.long (jl y1)), none, some (.long (jl p1)), none, some (.int (jn 0)), none, none]) rfl rfl rfl rfl ?_
      have t31_7 : ∀ (k8 : Nat) (y3 : Int) (y4 : Int) (x5 : Int) (w6 : Option Value), (jR y3) → (jR y4) → (-2147483648 ≤ x5 ∧ x5 ≤ 2147483647) → (0 ≤ x5) → (2147483647 - x5 : Int).toNat = k8 → mj_T (D + 0) mj_m171 31 [some (.long (jl p0)), none, some (.long (jl p1)), none, some (.long (jl y3)), none, some (.long (jl y4)), none, some (.int (jn x5)), w6, none] [] h (jQp K L R g n tm h [] jVl) := by
        refine jInd (fun k8 ih9 => ?_)
        intro y3 y4 x5 w6 jy3 jy4 rx5 ix5 hm10
        refine mj_T.pl rfl rfl rfl rfl ?_
        refine mj_T.pl rfl rfl rfl rfl ?_
        refine jT.icmp rfl rx5 ⟨by decide, by decide⟩ (fun c36 => ?_) (fun c36 => ?_)
        · have c36 := of_decide_eq_true c36
          refine mj_T.pl rfl rfl rfl rfl ?_
          exact jT.retp rfl rfl rfl ⟨y3, jy3, rfl⟩
        · have c36 := of_decide_eq_false c36
          refine mj_T.pl rfl rfl rfl rfl ?_
          refine jT.lc 0 rfl rfl ?_
          refine mj_T.lif rfl rfl jy4 ⟨by decide, by decide⟩ (fun c42 => ?_) (fun c42 => ?_)
          · have c42 := of_decide_eq_true c42
            refine mj_T.pl rfl rfl rfl rfl ?_
            exact jT.retp rfl rfl rfl ⟨y3, jy3, rfl⟩
          · have c42 := of_decide_eq_false c42
            iterate 2 refine mj_T.pl rfl rfl rfl rfl ?_
            refine jT.lrem rfl jy4 (by omega) (fun z11 jz11 => ?_)
            refine mj_T.pl (loc' := [some (.long (jl p0)), none, some (.long (jl p1)), none, some (.long (jl y3)), none, some (.long (jl y4)), none, some (.int (jn x5)), some (.long (jl z11)), none]) rfl rfl rfl rfl ?_
            refine mj_T.pl rfl rfl rfl rfl ?_
            refine mj_T.pl (loc' := [some (.long (jl p0)), none, some (.long (jl p1)), none, some (.long (jl y4)), none, some (.long (jl y4)), none, some (.int (jn x5)), some (.long (jl z11)), none]) rfl rfl rfl rfl ?_
            refine mj_T.pl rfl rfl rfl rfl ?_
            refine mj_T.pl (loc' := [some (.long (jl p0)), none, some (.long (jl p1)), none, some (.long (jl y4)), none, some (.long (jl z11)), none, some (.int (jn x5)), some (.long (jl z11)), none]) rfl rfl rfl rfl ?_
            refine jT.iinc rfl rfl (fun z12 rz12 ez12 => ?_)
            replace ez12 := ez12 ⟨by omega, by omega⟩
            refine mj_T.eq (loc2 := [some (.long (jl p0)), none, some (.long (jl p1)), none, some (.long (jl y4)), none, some (.long (jl z11)), none, some (.int (jn z12)), some (.long (jl z11)), none]) ?_ rfl rfl rfl rfl
            refine mj_T.pl rfl rfl rfl rfl ?_
            exact ih9 ((2147483647 - z12 : Int).toNat) (by omega) y4 z11 z12 (some (.long (jl z11))) jy4 jz11 rz12 (by omega) rfl
      exact t31_7 _ y1 p1 0 none jy1 jp1 ⟨by decide, by decide⟩ (by omega) rfl
    · have c16 := of_decide_eq_false c16
      refine mj_T.pl rfl rfl rfl rfl ?_
      refine jT.lneg rfl (fun z13 jz13 _ => ?_)
      refine mj_T.pl rfl rfl rfl rfl ?_
      refine mj_T.pl (loc' := [some (.long (jl p0)), none, some (.long (jl p1)), none, some (.long (jl y1)), none, some (.long (jl z13)), none, none, none, none]) rfl rfl rfl rfl ?_
      refine mj_T.pl rfl rfl rfl rfl ?_
      refine mj_T.pl (loc' := [some (.long (jl p0)), none, some (.long (jl p1)), none, some (.long (jl y1)), none, some (.long (jl z13)), none, some (.int (jn 0)), none, none]) rfl rfl rfl rfl ?_
      have t31_18 : ∀ (k19 : Nat) (y14 : Int) (y15 : Int) (x16 : Int) (w17 : Option Value), (jR y14) → (jR y15) → (-2147483648 ≤ x16 ∧ x16 ≤ 2147483647) → (0 ≤ x16) → (2147483647 - x16 : Int).toNat = k19 → mj_T (D + 0) mj_m171 31 [some (.long (jl p0)), none, some (.long (jl p1)), none, some (.long (jl y14)), none, some (.long (jl y15)), none, some (.int (jn x16)), w17, none] [] h (jQp K L R g n tm h [] jVl) := by
        refine jInd (fun k19 ih20 => ?_)
        intro y14 y15 x16 w17 jy14 jy15 rx16 ix16 hm21
        refine mj_T.pl rfl rfl rfl rfl ?_
        refine mj_T.pl rfl rfl rfl rfl ?_
        refine jT.icmp rfl rx16 ⟨by decide, by decide⟩ (fun c36 => ?_) (fun c36 => ?_)
        · have c36 := of_decide_eq_true c36
          refine mj_T.pl rfl rfl rfl rfl ?_
          exact jT.retp rfl rfl rfl ⟨y14, jy14, rfl⟩
        · have c36 := of_decide_eq_false c36
          refine mj_T.pl rfl rfl rfl rfl ?_
          refine jT.lc 0 rfl rfl ?_
          refine mj_T.lif rfl rfl jy15 ⟨by decide, by decide⟩ (fun c42 => ?_) (fun c42 => ?_)
          · have c42 := of_decide_eq_true c42
            refine mj_T.pl rfl rfl rfl rfl ?_
            exact jT.retp rfl rfl rfl ⟨y14, jy14, rfl⟩
          · have c42 := of_decide_eq_false c42
            iterate 2 refine mj_T.pl rfl rfl rfl rfl ?_
            refine jT.lrem rfl jy15 (by omega) (fun z22 jz22 => ?_)
            refine mj_T.pl (loc' := [some (.long (jl p0)), none, some (.long (jl p1)), none, some (.long (jl y14)), none, some (.long (jl y15)), none, some (.int (jn x16)), some (.long (jl z22)), none]) rfl rfl rfl rfl ?_
            refine mj_T.pl rfl rfl rfl rfl ?_
            refine mj_T.pl (loc' := [some (.long (jl p0)), none, some (.long (jl p1)), none, some (.long (jl y15)), none, some (.long (jl y15)), none, some (.int (jn x16)), some (.long (jl z22)), none]) rfl rfl rfl rfl ?_
            refine mj_T.pl rfl rfl rfl rfl ?_
            refine mj_T.pl (loc' := [some (.long (jl p0)), none, some (.long (jl p1)), none, some (.long (jl y15)), none, some (.long (jl z22)), none, some (.int (jn x16)), some (.long (jl z22)), none]) rfl rfl rfl rfl ?_
            refine jT.iinc rfl rfl (fun z23 rz23 ez23 => ?_)
            replace ez23 := ez23 ⟨by omega, by omega⟩
            refine mj_T.eq (loc2 := [some (.long (jl p0)), none, some (.long (jl p1)), none, some (.long (jl y15)), none, some (.long (jl z22)), none, some (.int (jn z23)), some (.long (jl z22)), none]) ?_ rfl rfl rfl rfl
            refine mj_T.pl rfl rfl rfl rfl ?_
            exact ih20 ((2147483647 - z23 : Int).toNat) (by omega) y15 z22 z23 (some (.long (jl z22))) jy15 jz22 rz23 (by omega) rfl
      exact t31_18 _ y1 z13 0 none jy1 jz13 ⟨by decide, by decide⟩ (by omega) rfl
  refine mj_T.lif rfl rfl jp0 ⟨by decide, by decide⟩ (fun c2 => ?_) (fun c2 => ?_)
  · have c2 := of_decide_eq_true c2
    refine mj_T.pl rfl rfl rfl rfl ?_
    exact t12_2 p0 jp0
  · have c2 := of_decide_eq_false c2
    refine mj_T.pl rfl rfl rfl rfl ?_
    refine jT.lneg rfl (fun z24 jz24 _ => ?_)
    refine mj_T.pl rfl rfl rfl rfl ?_
    exact t12_2 z24 jz24
-- PolyRegisters$Bench.commonWeight()J
theorem jc_8 {D n : Nat} {tm : Int} {h g : mj_H} {K L : Nat → Nat} {R : Nat → Nat → Nat} {p0 : Nat} (ty : jTY K L R) (hg : g.length ≤ n) (o : jO K L R g n tm h) (kp0 : K p0 = 10) : mj_Ok (D + 3) 8 [.ref p0] h (jQp K L R g n tm h [] jVl) := by
  refine mj_Ok.of (M := mj_m8) (loc := [some (.ref p0), none, none, none, none, none, none, none]) rfl rfl rfl ?_
  refine jT.lc 1 rfl rfl ?_
  refine mj_T.pl (loc' := [some (.ref p0), some (.long (jl ((1 : Nat) : Int))), none, none, none, none, none, none]) rfl rfl rfl rfl ?_
  refine mj_T.pl rfl rfl rfl rfl ?_
  refine mj_T.pl (loc' := [some (.ref p0), some (.long (jl ((1 : Nat) : Int))), none, some (.int (jn 0)), none, none, none, none]) rfl rfl rfl rfl ?_
  have t4_5 : ∀ (k6 : Nat) (y1 : Int) (x2 : Int) (w3 : Option Value) (w4 : Option Value), (jR y1) → (-2147483648 ≤ x2 ∧ x2 ≤ 2147483647) → (0 ≤ x2) → (2147483647 - x2 : Int).toNat = k6 → mj_T (D + 2) mj_m8 4 [some (.ref p0), some (.long (jl y1)), none, some (.int (jn x2)), w3, none, w4, none] [] h (jQp K L R g n tm h [] jVl) := by
    refine jInd (fun k6 ih7 => ?_)
    intro y1 x2 w3 w4 jy1 rx2 ix2 hm8
    refine mj_T.pl rfl rfl rfl rfl ?_
    refine mj_T.pl rfl rfl rfl rfl ?_
    refine jT.getI 10 9 o rfl kp0 (by decide) rfl rfl rfl (fun z9 (az9 : 0 ≤ z9) (bz9 : z9 ≤ 2147483647) fz9 => ?_)
    have rz9 : -2147483648 ≤ z9 ∧ z9 ≤ 2147483647 := ⟨by omega, by omega⟩
    refine jT.icmp rfl rx2 rz9 (fun c9 => ?_) (fun c9 => ?_)
    · have c9 := of_decide_eq_true c9
      refine mj_T.pl rfl rfl rfl rfl ?_
      refine jT.lc 0 rfl rfl ?_
      refine mj_T.lif rfl rfl jy1 ⟨by decide, by decide⟩ (fun c54 => ?_) (fun c54 => ?_)
      · have c54 := of_decide_eq_true c54
        refine mj_T.pl rfl rfl rfl rfl ?_
        exact jT.retp rfl rfl rfl ⟨y1, jy1, rfl⟩
      · have c54 := of_decide_eq_false c54
        refine mj_T.pl rfl rfl rfl rfl ?_
        refine jT.lneg rfl (fun z10 jz10 _ => ?_)
        refine mj_T.pl rfl rfl rfl rfl ?_
        exact jT.retp rfl rfl rfl ⟨z10, jz10, rfl⟩
    · have c9 := of_decide_eq_false c9
      iterate 2 refine mj_T.pl rfl rfl rfl rfl ?_
      refine jT.callpp rfl rfl (Nat.le_of_ble_eq_true rfl) (Nat.le_of_ble_eq_true rfl) (jrv_of o kp0 (by decide) rfl (by decide) rfl _) rfl (mj_Ok.up (Nat.add_le_add_left (by decide) D) (jc_7 (D := D) ty hg o kp0 rx2)) rfl rfl (fun v11 qv11 => ?_)
      obtain ⟨z12, jz12, rfl⟩ := qv11
      refine mj_T.eq (pc2 := 17) (st2 := [.long (jl z12)]) ?_ rfl rfl rfl rfl
      refine mj_T.pl (loc' := [some (.ref p0), some (.long (jl y1)), none, some (.int (jn x2)), some (.long (jl z12)), none, w4, none]) rfl rfl rfl rfl ?_
      iterate 2 refine mj_T.pl rfl rfl rfl rfl ?_
      refine jT.callpp rfl rfl (Nat.le_of_ble_eq_true rfl) (Nat.le_of_ble_eq_true rfl) rfl rfl (mj_Ok.up (Nat.add_le_add_left (by decide) D) (jc_171 (D := D) ty hg o jy1 jz12)) rfl rfl (fun v13 qv13 => ?_)
      obtain ⟨z14, jz14, rfl⟩ := qv13
      refine mj_T.eq (pc2 := 25) (st2 := [.long (jl z14)]) ?_ rfl rfl rfl rfl
      refine mj_T.pl (loc' := [some (.ref p0), some (.long (jl y1)), none, some (.int (jn x2)), some (.long (jl z12)), none, some (.long (jl z14)), none]) rfl rfl rfl rfl ?_
      iterate 2 refine mj_T.pl rfl rfl rfl rfl ?_
      refine jT.lc 0 rfl rfl ?_
      refine mj_T.lif rfl rfl jz14 ⟨by decide, by decide⟩ (fun c31 => ?_) (fun c31 => ?_)
      · have c31 := jne1 c31
        iterate 2 refine mj_T.pl rfl rfl rfl rfl ?_
        refine jT.ldiv rfl jz14 (by omega) (fun z15 jz15 => ?_)
        refine jT.lmul rfl (fun z16 jz16 _ => ?_)
        refine mj_T.pl (loc' := [some (.ref p0), some (.long (jl z16)), none, some (.int (jn x2)), some (.long (jl z12)), none, some (.long (jl z14)), none]) rfl rfl rfl rfl ?_
        refine jT.iinc rfl rfl (fun z17 rz17 ez17 => ?_)
        replace ez17 := ez17 ⟨by omega, by omega⟩
        refine mj_T.eq (loc2 := [some (.ref p0), some (.long (jl z16)), none, some (.int (jn z17)), some (.long (jl z12)), none, some (.long (jl z14)), none]) ?_ rfl rfl rfl rfl
        refine mj_T.pl rfl rfl rfl rfl ?_
        exact ih7 ((2147483647 - z17 : Int).toNat) (by omega) z16 z17 (some (.long (jl z12))) (some (.long (jl z14))) jz16 rz17 (by omega) rfl
      · have c31 := jne2 c31
        refine jT.lc 1 rfl rfl ?_
        refine mj_T.pl rfl rfl rfl rfl ?_
        refine jT.lmul rfl (fun z18 jz18 _ => ?_)
        refine mj_T.pl (loc' := [some (.ref p0), some (.long (jl z18)), none, some (.int (jn x2)), some (.long (jl z12)), none, some (.long (jl z14)), none]) rfl rfl rfl rfl ?_
        refine jT.iinc rfl rfl (fun z19 rz19 ez19 => ?_)
        replace ez19 := ez19 ⟨by omega, by omega⟩
        refine mj_T.eq (loc2 := [some (.ref p0), some (.long (jl z18)), none, some (.int (jn z19)), some (.long (jl z12)), none, some (.long (jl z14)), none]) ?_ rfl rfl rfl rfl
        refine mj_T.pl rfl rfl rfl rfl ?_
        exact ih7 ((2147483647 - z19 : Int).toNat) (by omega) z18 z19 (some (.long (jl z12))) (some (.long (jl z14))) jz18 rz19 (by omega) rfl
  exact t4_5 _ ((1 : Nat) : Int) 0 none none ⟨by decide, by decide⟩ ⟨by decide, by decide⟩ (by omega) rfl
-- PolyRegisters$Bench.putBasis(I[J)V
theorem jc_9 {D n : Nat} {tm : Int} {h g : mj_H} {K L : Nat → Nat} {R : Nat → Nat → Nat} {p0 : Nat} {p1 : Int} {p2 : Nat} (ty : jTY K L R) (hg : g.length ≤ n) (o : jO K L R g n tm h) (kp0 : K p0 = 10) (rp1 : -2147483648 ≤ p1 ∧ p1 ≤ 2147483647) (kp2 : K p2 = 2) : mj_Ok (D + 2) 9 [.ref p0, .int (jn p1), .ref p2] h (jQ K L R g n tm [] jV0) := by
  refine mj_Ok.of (M := mj_m9) (loc := [some (.ref p0), some (.int (jn p1)), some (.ref p2), none, none]) rfl rfl rfl ?_
  refine mj_T.pl rfl rfl rfl rfl ?_
  refine jT.call rfl rfl (Nat.le_of_ble_eq_true rfl) (Nat.le_of_ble_eq_true rfl) rfl rfl (mj_Ok.up (Nat.add_le_add_left (by decide) D) (jc_165 (D := D) ty hg o kp2)) rfl rfl (fun v1 h2 qv1 oh2 => ?_)
  obtain rfl : v1 = none := qv1
  refine mj_T.eq (pc2 := 4) (st2 := []) ?_ rfl rfl rfl rfl
  iterate 2 refine mj_T.pl rfl rfl rfl rfl ?_
  refine jT.lc 1 rfl rfl ?_
  have l3 : 13 ≤ (L p2 : Int) ∧ (L p2 : Int) ≤ 13 := jlen 2 ty kp2 (by decide) (by decide)
  refine jT.last oh2 rfl kp2 ⟨by decide, by decide⟩ ⟨by omega, by omega⟩ ⟨by decide, by decide⟩ (fun h4 oh4 uh4 => ?_)
  refine mj_T.pl rfl rfl rfl rfl ?_
  refine mj_T.pl (loc' := [some (.ref p0), some (.int (jn p1)), some (.ref p2), some (.int (jn 0)), none]) rfl rfl rfl rfl ?_
  have t10_8 : ∀ (k9 : Nat) (x5 : Int) (w6 : Option Value) (h7 : mj_H), (-2147483648 ≤ x5 ∧ x5 ≤ 2147483647) → (jO K L R g n tm h7) → (0 ≤ x5) → (2147483647 - x5 : Int).toNat = k9 → mj_T (D + 1) mj_m9 10 [some (.ref p0), some (.int (jn p1)), some (.ref p2), some (.int (jn x5)), w6] [] h7 (jQ K L R g n tm [] jV0) := by
    refine jInd (fun k9 ih10 => ?_)
    intro x5 w6 h7 rx5 oh7 ix5 hm11
    refine mj_T.pl rfl rfl rfl rfl ?_
    refine mj_T.pl rfl rfl rfl rfl ?_
    refine jT.getI 10 9 oh7 rfl kp0 (by decide) rfl rfl rfl (fun z12 (az12 : 0 ≤ z12) (bz12 : z12 ≤ 2147483647) fz12 => ?_)
    have rz12 : -2147483648 ≤ z12 ∧ z12 ≤ 2147483647 := ⟨by omega, by omega⟩
    refine jT.icmp rfl rx5 rz12 (fun c15 => ?_) (fun c15 => ?_)
    · have c15 := of_decide_eq_true c15
      exact jT.ret oh7 rfl rfl rfl rfl
    · have c15 := of_decide_eq_false c15
      iterate 2 refine mj_T.pl rfl rfl rfl rfl ?_
      refine jT.icmp rfl rx5 rp1 (fun c20 => ?_) (fun c20 => ?_)
      · have c20 := of_decide_eq_true c20
        refine jT.iinc rfl rfl (fun z13 rz13 ez13 => ?_)
        replace ez13 := ez13 ⟨by omega, by omega⟩
        refine mj_T.eq (loc2 := [some (.ref p0), some (.int (jn p1)), some (.ref p2), some (.int (jn z13)), w6]) ?_ rfl rfl rfl rfl
        refine mj_T.pl rfl rfl rfl rfl ?_
        exact ih10 ((2147483647 - z13 : Int).toNat) (by omega) z13 w6 h7 rz13 oh7 (by omega) rfl
      · have c20 := of_decide_eq_false c20
        refine mj_T.pl rfl rfl rfl rfl ?_
        refine jT.alen 2 ty oh7 rfl kp2 (by decide) (by decide) (fun z14 ez14 (az14 : 13 ≤ z14) (bz14 : z14 ≤ 13) => ?_)
        have rz14 : -2147483648 ≤ z14 ∧ z14 ≤ 2147483647 := ⟨by omega, by omega⟩
        refine mj_T.pl rfl rfl rfl rfl ?_
        refine jT.isub rfl (fun z15 rz15 ez15 => ?_)
        replace ez15 := ez15 ⟨by omega, by omega⟩
        refine mj_T.pl (loc' := [some (.ref p0), some (.int (jn p1)), some (.ref p2), some (.int (jn x5)), some (.int (jn z15))]) rfl rfl rfl rfl ?_
        have t29_19 : ∀ (k20 : Nat) (x16 : Int) (h17 : mj_H), (-2147483648 ≤ x16 ∧ x16 ≤ 2147483647) → (jO K L R g n tm h17) → (jfI h17 p0 3 = z12) → (x16 ≤ z15) → (x16 + 1 : Int).toNat = k20 → mj_T (D + 1) mj_m9 29 [some (.ref p0), some (.int (jn p1)), some (.ref p2), some (.int (jn x5)), some (.int (jn x16))] [] h17 (jQ K L R g n tm [] jV0) := by
          refine jInd (fun k20 ih21 => ?_)
          intro x16 h17 rx16 oh17 f18 ix16 hm22
          refine mj_T.pl rfl rfl rfl rfl ?_
          refine jT.if0 rfl rx16 (fun c31 => ?_) (fun c31 => ?_)
          · have c31 := of_decide_eq_true c31
            refine jT.iinc rfl rfl (fun z23 rz23 ez23 => ?_)
            replace ez23 := ez23 ⟨by omega, by omega⟩
            refine mj_T.eq (loc2 := [some (.ref p0), some (.int (jn p1)), some (.ref p2), some (.int (jn z23)), some (.int (jn x16))]) ?_ rfl rfl rfl rfl
            refine mj_T.pl rfl rfl rfl rfl ?_
            exact ih10 ((2147483647 - z23 : Int).toNat) (by omega) z23 (some (.int (jn x16))) h17 rz23 oh17 (by omega) rfl
          · have c31 := of_decide_eq_false c31
            iterate 3 refine mj_T.pl rfl rfl rfl rfl ?_
            have t52_25 : ∀ (y24 : Int), (jR y24) → mj_T (D + 1) mj_m9 52 [some (.ref p0), some (.int (jn p1)), some (.ref p2), some (.int (jn x5)), some (.int (jn x16))] [.long (jl y24), .int (jn x16), .ref p2] h17 (jQ K L R g n tm [] jV0) := by
              intro y24 jy24
              iterate 2 refine mj_T.pl rfl rfl rfl rfl ?_
              refine jT.callp rfl rfl (Nat.le_of_ble_eq_true rfl) (Nat.le_of_ble_eq_true rfl) (jrv_of oh17 kp0 (by decide) rfl (by decide) rfl _) rfl (mj_Ok.up (Nat.add_le_add_left (by decide) D) (jc_5 (D := D) ty hg oh17 kp0 rx5)) rfl rfl (fun v26 qv26 => ?_)
              obtain ⟨z27, az27, bz27, rfl⟩ := qv26
              have rz27 : -2147483648 ≤ z27 ∧ z27 ≤ 2147483647 := ⟨by omega, by omega⟩
              refine mj_T.eq (pc2 := 57) (st2 := [.int (jn z27), .long (jl y24), .int (jn x16), .ref p2]) ?_ rfl rfl rfl rfl
              refine jT.i2l rfl rz27 ?_
              have j28 : jR z27 := ⟨by omega, by omega⟩
              iterate 2 refine mj_T.pl rfl rfl rfl rfl ?_
              refine jT.lald oh17 rfl kp2 rx16 ⟨by omega, by omega⟩ (fun z29 jz29 => ?_)
              refine jT.lmul rfl (fun z30 jz30 _ => ?_)
              refine jT.lsub rfl (fun z31 jz31 _ => ?_)
              refine jT.last oh17 rfl kp2 rx16 ⟨by omega, by omega⟩ jz31 (fun h32 oh32 uh32 => ?_)
              refine jT.iinc rfl rfl (fun z33 rz33 ez33 => ?_)
              replace ez33 := ez33 ⟨by omega, by omega⟩
              refine mj_T.eq (loc2 := [some (.ref p0), some (.int (jn p1)), some (.ref p2), some (.int (jn x5)), some (.int (jn z33))]) ?_ rfl rfl rfl rfl
              refine mj_T.pl rfl rfl rfl rfl ?_
              exact ih21 ((z33 + 1 : Int).toNat) (by omega) z33 h32 rz33 oh32 ((uh32 p0 3).trans f18) (by omega) rfl
            refine jT.if0 rfl rx16 (fun c39 => ?_) (fun c39 => ?_)
            · have c39 := of_decide_eq_true c39
              refine jT.lc 0 rfl rfl ?_
              exact t52_25 ((0 : Nat) : Int) ⟨by decide, by decide⟩
            · have c39 := of_decide_eq_false c39
              iterate 3 refine mj_T.pl rfl rfl rfl rfl ?_
              refine jT.isub rfl (fun z34 rz34 ez34 => ?_)
              replace ez34 := ez34 ⟨by omega, by omega⟩
              refine jT.lald oh17 rfl kp2 rz34 ⟨by omega, by omega⟩ (fun z35 jz35 => ?_)
              refine mj_T.pl rfl rfl rfl rfl ?_
              exact t52_25 z35 jz35
        exact t29_19 _ z15 h7 rz15 oh7 fz12.symm (by omega) rfl
  exact t10_8 _ 0 none h4 ⟨by decide, by decide⟩ oh4 (by omega) rfl
/-! The class by kinds: its methods. -/
-- PolyRegisters$Wide.setLong(J)V
theorem jc_86 {D n : Nat} {tm : Int} {h g : mj_H} {K L : Nat → Nat} {R : Nat → Nat → Nat} {p0 : Nat} {p1 : Int} (ty : jTY K L R) (hg : g.length ≤ n) (o : jO K L R g n tm h) (kp0 : K p0 = 18) (jp1 : jR p1) : mj_Ok (D + 1) 86 [.ref p0, .long (jl p1)] h (jQ K L R g n tm [] jV0) := by
  refine mj_Ok.of (M := mj_m86) (loc := [some (.ref p0), some (.long (jl p1)), none, none, none, none, none]) rfl rfl rfl ?_
  refine mj_T.pl rfl rfl rfl rfl ?_
  refine mj_T.pl (loc' := [some (.ref p0), some (.long (jl p1)), none, some (.long (jl p1)), none, none, none]) rfl rfl rfl rfl ?_
  iterate 2 refine mj_T.pl rfl rfl rfl rfl ?_
  refine jT.putI 18 10 o rfl kp0 (by decide) rfl rfl rfl (Or.inl rfl) (by show 0 ≤ 0; omega) (by show 0 ≤ 1000; omega) (fun h1 oh1 wh1 uh1 => ?_)
  refine mj_T.pl rfl rfl rfl rfl ?_
  refine mj_T.pl (loc' := [some (.ref p0), some (.long (jl p1)), none, some (.long (jl p1)), none, some (.int (jn 0)), none]) rfl rfl rfl rfl ?_
  have t10_6 : ∀ (k7 : Nat) (y2 : Int) (x3 : Int) (w4 : Option Value) (h5 : mj_H), (jR y2) → (-2147483648 ≤ x3 ∧ x3 ≤ 2147483647) → (jO K L R g n tm h5) → (0 ≤ x3) → (2147483647 - x3 : Int).toNat = k7 → mj_T (D + 0) mj_m86 10 [some (.ref p0), some (.long (jl p1)), none, some (.long (jl y2)), none, some (.int (jn x3)), w4] [] h5 (jQ K L R g n tm [] jV0) := by
    refine jInd (fun k7 ih8 => ?_)
    intro y2 x3 w4 h5 jy2 rx3 oh5 ix3 hm9
    refine mj_T.pl rfl rfl rfl rfl ?_
    refine mj_T.pl rfl rfl rfl rfl ?_
    refine jT.getR 18 101 1 ty oh5 rfl kp0 (by decide) rfl rfl rfl (fun k10 => ?_)
    refine jT.alen 1 ty oh5 rfl k10 (by decide) (by decide) (fun z11 ez11 (az11 : 0 ≤ z11) (bz11 : z11 ≤ 1000) => ?_)
    have rz11 : -2147483648 ≤ z11 ∧ z11 ≤ 2147483647 := ⟨by omega, by omega⟩
    have t74_12 : mj_T (D + 0) mj_m86 74 [some (.ref p0), some (.long (jl p1)), none, some (.long (jl y2)), none, some (.int (jn x3)), w4] [] h5 (jQ K L R g n tm [] jV0) := by
      iterate 2 refine mj_T.pl rfl rfl rfl rfl ?_
      refine jT.lc 0 rfl rfl ?_
      refine mj_T.lif rfl rfl jp1 ⟨by decide, by decide⟩ (fun c77 => ?_) (fun c77 => ?_)
      · have c77 := of_decide_eq_true c77
        refine mj_T.pl rfl rfl rfl rfl ?_
        refine jT.lc 0 rfl rfl ?_
        refine mj_T.lif rfl rfl jp1 ⟨by decide, by decide⟩ (fun c87 => ?_) (fun c87 => ?_)
        · have c87 := of_decide_eq_true c87
          refine mj_T.pl rfl rfl rfl rfl ?_
          refine jT.putI 18 0 oh5 rfl kp0 (by decide) rfl rfl rfl (Or.inl rfl) (by show (-2147483648) ≤ 0; omega) (by show 0 ≤ 2147483647; omega) (fun h13 oh13 wh13 uh13 => ?_)
          exact jT.ret oh13 rfl rfl rfl rfl
        · have c87 := of_decide_eq_false c87
          iterate 2 refine mj_T.pl rfl rfl rfl rfl ?_
          refine jT.putI 18 0 oh5 rfl kp0 (by decide) rfl rfl rfl (Or.inl rfl) (by show (-2147483648) ≤ 1; omega) (by show 1 ≤ 2147483647; omega) (fun h14 oh14 wh14 uh14 => ?_)
          exact jT.ret oh14 rfl rfl rfl rfl
      · have c77 := of_decide_eq_false c77
        iterate 2 refine mj_T.pl rfl rfl rfl rfl ?_
        refine jT.putI 18 0 oh5 rfl kp0 (by decide) rfl rfl rfl (Or.inl rfl) (by show (-2147483648) ≤ (-1); omega) (by show (-1) ≤ 2147483647; omega) (fun h15 oh15 wh15 uh15 => ?_)
        exact jT.ret oh15 rfl rfl rfl rfl
    refine jT.icmp rfl rx3 rz11 (fun c17 => ?_) (fun c17 => ?_)
    · have c17 := of_decide_eq_true c17
      exact t74_12 
    · have c17 := of_decide_eq_false c17
      refine mj_T.pl rfl rfl rfl rfl ?_
      refine jT.lc 0 rfl rfl ?_
      refine mj_T.lif rfl rfl jy2 ⟨by decide, by decide⟩ (fun c22 => ?_) (fun c22 => ?_)
      · have c22 := of_decide_eq_true c22
        exact t74_12 
      · have c22 := of_decide_eq_false c22
        refine mj_T.pl rfl rfl rfl rfl ?_
        refine jT.ldcL rfl ?_
        refine jT.lrem rfl ⟨by decide, by decide⟩ (by decide) (fun z16 jz16 => ?_)
        refine jT.l2i rfl (fun z17 rz17 _ => ?_)
        refine mj_T.pl (loc' := [some (.ref p0), some (.long (jl p1)), none, some (.long (jl y2)), none, some (.int (jn x3)), some (.int (jn z17))]) rfl rfl rfl rfl ?_
        refine mj_T.pl rfl rfl rfl rfl ?_
        refine jT.getR 18 101 1 ty oh5 rfl kp0 (by decide) rfl rfl rfl (fun k18 => ?_)
        iterate 2 refine mj_T.pl rfl rfl rfl rfl ?_
        have t53_20 : ∀ (x19 : Int), (-2147483648 ≤ x19 ∧ x19 ≤ 2147483647) → mj_T (D + 0) mj_m86 53 [some (.ref p0), some (.long (jl p1)), none, some (.long (jl y2)), none, some (.int (jn x3)), some (.int (jn z17))] [.int (jn x19), .int (jn x3), .ref (R p0 0)] h5 (jQ K L R g n tm [] jV0) := by
          intro x19 rx19
          refine jT.iast oh5 rfl k18 rx3 ⟨by omega, by omega⟩ rx19 (fun h21 oh21 uh21 => ?_)
          refine mj_T.pl rfl rfl rfl rfl ?_
          refine jT.ldcL rfl ?_
          refine jT.ldiv rfl ⟨by decide, by decide⟩ (by decide) (fun z22 jz22 => ?_)
          refine mj_T.pl (loc' := [some (.ref p0), some (.long (jl p1)), none, some (.long (jl z22)), none, some (.int (jn x3)), some (.int (jn z17))]) rfl rfl rfl rfl ?_
          iterate 3 refine mj_T.pl rfl rfl rfl rfl ?_
          refine jT.iadd rfl (fun z23 rz23 ez23 => ?_)
          replace ez23 := ez23 ⟨by omega, by omega⟩
          refine jT.putI 18 10 oh21 rfl kp0 (by decide) rfl rfl rfl (Or.inl rfl) (by show 0 ≤ z23; omega) (by show z23 ≤ 1000; omega) (fun h24 oh24 wh24 uh24 => ?_)
          refine jT.iinc rfl rfl (fun z25 rz25 ez25 => ?_)
          replace ez25 := ez25 ⟨by omega, by omega⟩
          refine mj_T.eq (loc2 := [some (.ref p0), some (.long (jl p1)), none, some (.long (jl z22)), none, some (.int (jn z25)), some (.int (jn z17))]) ?_ rfl rfl rfl rfl
          refine mj_T.pl rfl rfl rfl rfl ?_
          exact ih8 ((2147483647 - z25 : Int).toNat) (by omega) z22 z25 (some (.int (jn z17))) h24 jz22 rz25 oh24 (by omega) rfl
        refine jT.if0 rfl rz17 (fun c42 => ?_) (fun c42 => ?_)
        · have c42 := of_decide_eq_true c42
          refine mj_T.pl rfl rfl rfl rfl ?_
          exact t53_20 z17 rz17
        · have c42 := of_decide_eq_false c42
          refine mj_T.pl rfl rfl rfl rfl ?_
          refine jT.ineg rfl (fun z26 rz26 _ => ?_)
          refine mj_T.pl rfl rfl rfl rfl ?_
          exact t53_20 z26 rz26
  exact t10_6 _ p1 0 none h1 jp1 ⟨by decide, by decide⟩ oh1 (by omega) rfl
-- PolyRegisters$Wide.set(LPolyRegisters$Wide;)V
theorem jc_87 {D n : Nat} {tm : Int} {h g : mj_H} {K L : Nat → Nat} {R : Nat → Nat → Nat} {p0 : Nat} {p1 : Nat} (ty : jTY K L R) (hg : g.length ≤ n) (o : jO K L R g n tm h) (kp0 : K p0 = 18) (kp1 : K p1 = 18) : mj_Ok (D + 1) 87 [.ref p0, .ref p1] h (jQ K L R g n tm [] jV0) := by
  refine mj_Ok.of (M := mj_m87) (loc := [some (.ref p0), some (.ref p1), none]) rfl rfl rfl ?_
  iterate 2 refine mj_T.pl rfl rfl rfl rfl ?_
  refine jT.getI 18 10 o rfl kp1 (by decide) rfl rfl rfl (fun z1 (az1 : 0 ≤ z1) (bz1 : z1 ≤ 1000) fz1 => ?_)
  have rz1 : -2147483648 ≤ z1 ∧ z1 ≤ 2147483647 := ⟨by omega, by omega⟩
  refine mj_T.pl rfl rfl rfl rfl ?_
  refine jT.getR 18 101 1 ty o rfl kp0 (by decide) rfl rfl rfl (fun k2 => ?_)
  refine jT.alen 1 ty o rfl k2 (by decide) (by decide) (fun z3 ez3 (az3 : 0 ≤ z3) (bz3 : z3 ≤ 1000) => ?_)
  have rz3 : -2147483648 ≤ z3 ∧ z3 ≤ 2147483647 := ⟨by omega, by omega⟩
  refine mj_T.pl rfl rfl rfl rfl ?_
  refine jT.getR 18 101 1 ty o rfl kp1 (by decide) rfl rfl rfl (fun k4 => ?_)
  refine jT.alen 1 ty o rfl k4 (by decide) (by decide) (fun z5 ez5 (az5 : 0 ≤ z5) (bz5 : z5 ≤ 1000) => ?_)
  have rz5 : -2147483648 ≤ z5 ∧ z5 ≤ 2147483647 := ⟨by omega, by omega⟩
  refine jT.imin rfl rfl (Nat.le_of_ble_eq_true rfl) rz3 rz5 (fun z6 ez6 => ?_)
  have rz6 : -2147483648 ≤ z6 ∧ z6 ≤ 2147483647 := ⟨by omega, by omega⟩
  refine jT.imin rfl rfl (Nat.le_of_ble_eq_true rfl) rz1 rz6 (fun z7 ez7 => ?_)
  have rz7 : -2147483648 ≤ z7 ∧ z7 ≤ 2147483647 := ⟨by omega, by omega⟩
  refine jT.putI 18 10 o rfl kp0 (by decide) rfl rfl rfl (Or.inl rfl) (by show 0 ≤ z7; omega) (by show z7 ≤ 1000; omega) (fun h8 oh8 wh8 uh8 => ?_)
  refine mj_T.pl rfl rfl rfl rfl ?_
  refine mj_T.pl (loc' := [some (.ref p0), some (.ref p1), some (.int (jn 0))]) rfl rfl rfl rfl ?_
  have t26_12 : ∀ (k13 : Nat) (x9 : Int) (h10 : mj_H), (-2147483648 ≤ x9 ∧ x9 ≤ 2147483647) → (jO K L R g n tm h10) → (jfI h10 p0 1 = z7) → (0 ≤ x9) → (2147483647 - x9 : Int).toNat = k13 → mj_T (D + 0) mj_m87 26 [some (.ref p0), some (.ref p1), some (.int (jn x9))] [] h10 (jQ K L R g n tm [] jV0) := by
    refine jInd (fun k13 ih14 => ?_)
    intro x9 h10 rx9 oh10 f11 ix9 hm15
    refine mj_T.pl rfl rfl rfl rfl ?_
    refine mj_T.pl rfl rfl rfl rfl ?_
    refine jT.getK 18 10 oh10 rfl kp0 (by decide) rfl rfl rfl f11 ?_
    refine jT.icmp rfl rx9 rz7 (fun c31 => ?_) (fun c31 => ?_)
    · have c31 := of_decide_eq_true c31
      iterate 2 refine mj_T.pl rfl rfl rfl rfl ?_
      refine jT.getK 18 10 oh10 rfl kp0 (by decide) rfl rfl rfl f11 ?_
      refine jT.if0 rfl rz7 (fun c57 => ?_) (fun c57 => ?_)
      · have c57 := jne1 c57
        refine mj_T.pl rfl rfl rfl rfl ?_
        refine jT.getI 18 0 oh10 rfl kp1 (by decide) rfl rfl rfl (fun z16 (az16 : (-2147483648) ≤ z16) (bz16 : z16 ≤ 2147483647) fz16 => ?_)
        have rz16 : -2147483648 ≤ z16 ∧ z16 ≤ 2147483647 := ⟨by omega, by omega⟩
        refine jT.putI 18 0 oh10 rfl kp0 (by decide) rfl rfl rfl (Or.inl rfl) (by show (-2147483648) ≤ z16; omega) (by show z16 ≤ 2147483647; omega) (fun h17 oh17 wh17 uh17 => ?_)
        exact jT.ret oh17 rfl rfl rfl rfl
      · have c57 := jne2 c57
        iterate 2 refine mj_T.pl rfl rfl rfl rfl ?_
        refine jT.putI 18 0 oh10 rfl kp0 (by decide) rfl rfl rfl (Or.inl rfl) (by show (-2147483648) ≤ 0; omega) (by show 0 ≤ 2147483647; omega) (fun h18 oh18 wh18 uh18 => ?_)
        exact jT.ret oh18 rfl rfl rfl rfl
    · have c31 := of_decide_eq_false c31
      refine mj_T.pl rfl rfl rfl rfl ?_
      refine jT.getR 18 101 1 ty oh10 rfl kp0 (by decide) rfl rfl rfl (fun k19 => ?_)
      iterate 2 refine mj_T.pl rfl rfl rfl rfl ?_
      refine jT.getR 18 101 1 ty oh10 rfl kp1 (by decide) rfl rfl rfl (fun k20 => ?_)
      refine mj_T.pl rfl rfl rfl rfl ?_
      refine jT.iald oh10 rfl k20 rx9 ⟨by omega, by omega⟩ (fun z21 rz21 fz21 => ?_)
      refine jT.iast oh10 rfl k19 rx9 ⟨by omega, by omega⟩ rz21 (fun h22 oh22 uh22 => ?_)
      refine jT.iinc rfl rfl (fun z23 rz23 ez23 => ?_)
      replace ez23 := ez23 ⟨by omega, by omega⟩
      refine mj_T.eq (loc2 := [some (.ref p0), some (.ref p1), some (.int (jn z23))]) ?_ rfl rfl rfl rfl
      refine mj_T.pl rfl rfl rfl rfl ?_
      exact ih14 ((2147483647 - z23 : Int).toNat) (by omega) z23 h22 rz23 oh22 ((uh22 p0 1).trans f11) (by omega) rfl
  exact t26_12 _ 0 h8 ⟨by decide, by decide⟩ oh8 wh8 (by omega) rfl
-- PolyRegisters$Wide.setSizeOf(LPolyRegisters$Wide;)V
theorem jc_88 {D n : Nat} {tm : Int} {h g : mj_H} {K L : Nat → Nat} {R : Nat → Nat → Nat} {p0 : Nat} {p1 : Nat} (ty : jTY K L R) (hg : g.length ≤ n) (o : jO K L R g n tm h) (kp0 : K p0 = 18) (kp1 : K p1 = 18) : mj_Ok (D + 2) 88 [.ref p0, .ref p1] h (jQ K L R g n tm [] jV0) := by
  refine mj_Ok.of (M := mj_m88) (loc := [some (.ref p0), some (.ref p1)]) rfl rfl rfl ?_
  iterate 2 refine mj_T.pl rfl rfl rfl rfl ?_
  refine jT.call rfl rfl (Nat.le_of_ble_eq_true rfl) (Nat.le_of_ble_eq_true rfl) (jrv_of o kp0 (by decide) rfl (by decide) rfl _) rfl (mj_Ok.up (Nat.add_le_add_left (by decide) D) (jc_87 (D := D) ty hg o kp0 kp1)) rfl rfl (fun v1 h2 qv1 oh2 => ?_)
  obtain rfl : v1 = none := qv1
  refine mj_T.eq (pc2 := 5) (st2 := []) ?_ rfl rfl rfl rfl
  iterate 2 refine mj_T.pl rfl rfl rfl rfl ?_
  refine jT.getI 18 0 oh2 rfl kp0 (by decide) rfl rfl rfl (fun z3 (az3 : (-2147483648) ≤ z3) (bz3 : z3 ≤ 2147483647) fz3 => ?_)
  have rz3 : -2147483648 ≤ z3 ∧ z3 ≤ 2147483647 := ⟨by omega, by omega⟩
  refine jT.if0 rfl rz3 (fun c10 => ?_) (fun c10 => ?_)
  · have c10 := jne1 c10
    refine mj_T.pl rfl rfl rfl rfl ?_
    refine jT.putI 18 0 oh2 rfl kp0 (by decide) rfl rfl rfl (Or.inl rfl) (by show (-2147483648) ≤ 1; omega) (by show 1 ≤ 2147483647; omega) (fun h4 oh4 wh4 uh4 => ?_)
    exact jT.ret oh4 rfl rfl rfl rfl
  · have c10 := jne2 c10
    iterate 2 refine mj_T.pl rfl rfl rfl rfl ?_
    refine jT.putI 18 0 oh2 rfl kp0 (by decide) rfl rfl rfl (Or.inl rfl) (by show (-2147483648) ≤ 0; omega) (by show 0 ≤ 2147483647; omega) (fun h5 oh5 wh5 uh5 => ?_)
    exact jT.ret oh5 rfl rfl rfl rfl
-- PolyRegisters$Wide.limbAt(I)I
theorem jc_89 {D n : Nat} {tm : Int} {h g : mj_H} {K L : Nat → Nat} {R : Nat → Nat → Nat} {p0 : Nat} {p1 : Int} (ty : jTY K L R) (hg : g.length ≤ n) (o : jO K L R g n tm h) (kp0 : K p0 = 18) (rp1 : -2147483648 ≤ p1 ∧ p1 ≤ 2147483647) : mj_Ok (D + 1) 89 [.ref p0, .int (jn p1)] h (jQp K L R g n tm h [] (jVi (-2147483648) 2147483647)) := by
  refine mj_Ok.of (M := mj_m89) (loc := [some (.ref p0), some (.int (jn p1))]) rfl rfl rfl ?_
  refine mj_T.pl rfl rfl rfl rfl ?_
  refine jT.if0 rfl rp1 (fun c1 => ?_) (fun c1 => ?_)
  · have c1 := of_decide_eq_true c1
    refine mj_T.pl rfl rfl rfl rfl ?_
    exact jT.retp rfl rfl rfl ⟨0, by omega, by omega, rfl⟩
  · have c1 := of_decide_eq_false c1
    iterate 2 refine mj_T.pl rfl rfl rfl rfl ?_
    refine jT.getI 18 10 o rfl kp0 (by decide) rfl rfl rfl (fun z1 (az1 : 0 ≤ z1) (bz1 : z1 ≤ 1000) fz1 => ?_)
    have rz1 : -2147483648 ≤ z1 ∧ z1 ≤ 2147483647 := ⟨by omega, by omega⟩
    refine jT.icmp rfl rp1 rz1 (fun c9 => ?_) (fun c9 => ?_)
    · have c9 := of_decide_eq_true c9
      refine mj_T.pl rfl rfl rfl rfl ?_
      exact jT.retp rfl rfl rfl ⟨0, by omega, by omega, rfl⟩
    · have c9 := of_decide_eq_false c9
      iterate 2 refine mj_T.pl rfl rfl rfl rfl ?_
      refine jT.getR 18 101 1 ty o rfl kp0 (by decide) rfl rfl rfl (fun k2 => ?_)
      refine jT.alen 1 ty o rfl k2 (by decide) (by decide) (fun z3 ez3 (az3 : 0 ≤ z3) (bz3 : z3 ≤ 1000) => ?_)
      have rz3 : -2147483648 ≤ z3 ∧ z3 ≤ 2147483647 := ⟨by omega, by omega⟩
      refine jT.icmp rfl rp1 rz3 (fun c18 => ?_) (fun c18 => ?_)
      · have c18 := of_decide_eq_true c18
        refine mj_T.pl rfl rfl rfl rfl ?_
        exact jT.retp rfl rfl rfl ⟨0, by omega, by omega, rfl⟩
      · have c18 := of_decide_eq_false c18
        refine mj_T.pl rfl rfl rfl rfl ?_
        refine jT.getR 18 101 1 ty o rfl kp0 (by decide) rfl rfl rfl (fun k4 => ?_)
        refine mj_T.pl rfl rfl rfl rfl ?_
        refine jT.iald o rfl k4 rp1 ⟨by omega, by omega⟩ (fun z5 rz5 fz5 => ?_)
        refine mj_T.pl rfl rfl rfl rfl ?_
        exact jT.retp rfl rfl rfl ⟨z5, by omega, by omega, rfl⟩
-- PolyRegisters$Wide.putLimb(II)V
theorem jc_90 {D n : Nat} {tm : Int} {h g : mj_H} {K L : Nat → Nat} {R : Nat → Nat → Nat} {p0 : Nat} {p1 : Int} {p2 : Int} (ty : jTY K L R) (hg : g.length ≤ n) (o : jO K L R g n tm h) (kp0 : K p0 = 18) (rp1 : -2147483648 ≤ p1 ∧ p1 ≤ 2147483647) (rp2 : -2147483648 ≤ p2 ∧ p2 ≤ 2147483647) : mj_Ok (D + 1) 90 [.ref p0, .int (jn p1), .int (jn p2)] h (jQ K L R g n tm [] jV0) := by
  refine mj_Ok.of (M := mj_m90) (loc := [some (.ref p0), some (.int (jn p1)), some (.int (jn p2))]) rfl rfl rfl ?_
  refine mj_T.pl rfl rfl rfl rfl ?_
  refine jT.if0 rfl rp1 (fun c1 => ?_) (fun c1 => ?_)
  · have c1 := of_decide_eq_true c1
    exact jT.ret o rfl rfl rfl rfl
  · have c1 := of_decide_eq_false c1
    iterate 2 refine mj_T.pl rfl rfl rfl rfl ?_
    refine jT.getR 18 101 1 ty o rfl kp0 (by decide) rfl rfl rfl (fun k1 => ?_)
    refine jT.alen 1 ty o rfl k1 (by decide) (by decide) (fun z2 ez2 (az2 : 0 ≤ z2) (bz2 : z2 ≤ 1000) => ?_)
    have rz2 : -2147483648 ≤ z2 ∧ z2 ≤ 2147483647 := ⟨by omega, by omega⟩
    refine jT.icmp rfl rp1 rz2 (fun c10 => ?_) (fun c10 => ?_)
    · have c10 := of_decide_eq_true c10
      exact jT.ret o rfl rfl rfl rfl
    · have c10 := of_decide_eq_false c10
      refine mj_T.pl rfl rfl rfl rfl ?_
      refine jT.getR 18 101 1 ty o rfl kp0 (by decide) rfl rfl rfl (fun k3 => ?_)
      iterate 2 refine mj_T.pl rfl rfl rfl rfl ?_
      refine jT.iast o rfl k3 rp1 ⟨by omega, by omega⟩ rp2 (fun h4 oh4 uh4 => ?_)
      refine mj_T.pl rfl rfl rfl rfl ?_
      refine jT.if0 rfl rp2 (fun c21 => ?_) (fun c21 => ?_)
      · have c21 := of_decide_eq_true c21
        exact jT.ret oh4 rfl rfl rfl rfl
      · have c21 := of_decide_eq_false c21
        iterate 2 refine mj_T.pl rfl rfl rfl rfl ?_
        refine jT.getI 18 10 oh4 rfl kp0 (by decide) rfl rfl rfl (fun z5 (az5 : 0 ≤ z5) (bz5 : z5 ≤ 1000) fz5 => ?_)
        have rz5 : -2147483648 ≤ z5 ∧ z5 ≤ 2147483647 := ⟨by omega, by omega⟩
        refine jT.icmp rfl rp1 rz5 (fun c29 => ?_) (fun c29 => ?_)
        · have c29 := of_decide_eq_true c29
          exact jT.ret oh4 rfl rfl rfl rfl
        · have c29 := of_decide_eq_false c29
          iterate 3 refine mj_T.pl rfl rfl rfl rfl ?_
          refine jT.iadd rfl (fun z6 rz6 ez6 => ?_)
          replace ez6 := ez6 ⟨by omega, by omega⟩
          refine jT.putI 18 10 oh4 rfl kp0 (by decide) rfl rfl rfl (Or.inl rfl) (by show 0 ≤ z6; omega) (by show z6 ≤ 1000; omega) (fun h7 oh7 wh7 uh7 => ?_)
          exact jT.ret oh7 rfl rfl rfl rfl
-- PolyRegisters$Wide.isLess(LPolyRegisters$Wide;)Z
theorem jc_92 {D n : Nat} {tm : Int} {h g : mj_H} {K L : Nat → Nat} {R : Nat → Nat → Nat} {p0 : Nat} {p1 : Nat} (ty : jTY K L R) (hg : g.length ≤ n) (o : jO K L R g n tm h) (kp0 : K p0 = 18) (kp1 : K p1 = 18) : mj_Ok (D + 1) 92 [.ref p0, .ref p1] h (jQp K L R g n tm h [] (jVi 0 1)) := by
  refine mj_Ok.of (M := mj_m92) (loc := [some (.ref p0), some (.ref p1), none]) rfl rfl rfl ?_
  refine mj_T.pl rfl rfl rfl rfl ?_
  refine jT.getI 18 10 o rfl kp0 (by decide) rfl rfl rfl (fun z1 (az1 : 0 ≤ z1) (bz1 : z1 ≤ 1000) fz1 => ?_)
  have rz1 : -2147483648 ≤ z1 ∧ z1 ≤ 2147483647 := ⟨by omega, by omega⟩
  refine mj_T.pl rfl rfl rfl rfl ?_
  refine jT.getI 18 10 o rfl kp1 (by decide) rfl rfl rfl (fun z2 (az2 : 0 ≤ z2) (bz2 : z2 ≤ 1000) fz2 => ?_)
  have rz2 : -2147483648 ≤ z2 ∧ z2 ≤ 2147483647 := ⟨by omega, by omega⟩
  refine jT.icmp rfl rz1 rz2 (fun c8 => ?_) (fun c8 => ?_)
  · have c8 := of_decide_eq_true c8
    refine mj_T.pl rfl rfl rfl rfl ?_
    refine jT.getK 18 10 o rfl kp0 (by decide) rfl rfl rfl fz1.symm ?_
    refine mj_T.pl rfl rfl rfl rfl ?_
    refine jT.isub rfl (fun z3 rz3 ez3 => ?_)
    replace ez3 := ez3 ⟨by omega, by omega⟩
    refine mj_T.pl (loc' := [some (.ref p0), some (.ref p1), some (.int (jn z3))]) rfl rfl rfl rfl ?_
    have t35_5 : ∀ (k6 : Nat) (x4 : Int), (-2147483648 ≤ x4 ∧ x4 ≤ 2147483647) → (x4 ≤ z3) → (x4 + 1 : Int).toNat = k6 → mj_T (D + 0) mj_m92 35 [some (.ref p0), some (.ref p1), some (.int (jn x4))] [] h (jQp K L R g n tm h [] (jVi 0 1)) := by
      refine jInd (fun k6 ih7 => ?_)
      intro x4 rx4 ix4 hm8
      refine mj_T.pl rfl rfl rfl rfl ?_
      refine jT.if0 rfl rx4 (fun c36 => ?_) (fun c36 => ?_)
      · have c36 := of_decide_eq_true c36
        refine mj_T.pl rfl rfl rfl rfl ?_
        exact jT.retbp rfl rfl (by omega) (by omega)
      · have c36 := of_decide_eq_false c36
        iterate 2 refine mj_T.pl rfl rfl rfl rfl ?_
        refine jT.getR 18 101 1 ty o rfl kp0 (by decide) rfl rfl rfl (fun k9 => ?_)
        refine jT.alen 1 ty o rfl k9 (by decide) (by decide) (fun z10 ez10 (az10 : 0 ≤ z10) (bz10 : z10 ≤ 1000) => ?_)
        have rz10 : -2147483648 ≤ z10 ∧ z10 ≤ 2147483647 := ⟨by omega, by omega⟩
        refine jT.icmp rfl rx4 rz10 (fun c45 => ?_) (fun c45 => ?_)
        · have c45 := of_decide_eq_true c45
          refine mj_T.pl rfl rfl rfl rfl ?_
          exact jT.retbp rfl rfl (by omega) (by omega)
        · have c45 := of_decide_eq_false c45
          iterate 2 refine mj_T.pl rfl rfl rfl rfl ?_
          refine jT.getR 18 101 1 ty o rfl kp1 (by decide) rfl rfl rfl (fun k11 => ?_)
          refine jT.alen 1 ty o rfl k11 (by decide) (by decide) (fun z12 ez12 (az12 : 0 ≤ z12) (bz12 : z12 ≤ 1000) => ?_)
          have rz12 : -2147483648 ≤ z12 ∧ z12 ≤ 2147483647 := ⟨by omega, by omega⟩
          refine jT.icmp rfl rx4 rz12 (fun c54 => ?_) (fun c54 => ?_)
          · have c54 := of_decide_eq_true c54
            refine mj_T.pl rfl rfl rfl rfl ?_
            exact jT.retbp rfl rfl (by omega) (by omega)
          · have c54 := of_decide_eq_false c54
            refine mj_T.pl rfl rfl rfl rfl ?_
            refine jT.getR 18 101 1 ty o rfl kp0 (by decide) rfl rfl rfl (fun k13 => ?_)
            refine mj_T.pl rfl rfl rfl rfl ?_
            refine jT.iald o rfl k13 rx4 ⟨by omega, by omega⟩ (fun z14 rz14 fz14 => ?_)
            refine mj_T.pl rfl rfl rfl rfl ?_
            refine jT.getR 18 101 1 ty o rfl kp1 (by decide) rfl rfl rfl (fun k15 => ?_)
            refine mj_T.pl rfl rfl rfl rfl ?_
            refine jT.iald o rfl k15 rx4 ⟨by omega, by omega⟩ (fun z16 rz16 fz16 => ?_)
            refine jT.icmp rfl rz14 rz16 (fun c69 => ?_) (fun c69 => ?_)
            · have c69 := of_decide_eq_true c69
              refine jT.iinc rfl rfl (fun z17 rz17 ez17 => ?_)
              replace ez17 := ez17 ⟨by omega, by omega⟩
              refine mj_T.eq (loc2 := [some (.ref p0), some (.ref p1), some (.int (jn z17))]) ?_ rfl rfl rfl rfl
              refine mj_T.pl rfl rfl rfl rfl ?_
              exact ih7 ((z17 + 1 : Int).toNat) (by omega) z17 rz17 (by omega) rfl
            · have c69 := of_decide_eq_false c69
              refine mj_T.pl rfl rfl rfl rfl ?_
              refine jT.getR 18 101 1 ty o rfl kp0 (by decide) rfl rfl rfl (fun k18 => ?_)
              refine mj_T.pl rfl rfl rfl rfl ?_
              refine jT.iald o rfl k18 rx4 ⟨by omega, by omega⟩ (fun z19 rz19 fz19 => ?_)
              have gz19 : z19 = z14 := fz19.trans ((congrArg (fun t : Int => jaI h (R p0 0) t.toNat) (show x4 = x4 by omega)).trans fz14.symm)
              refine mj_T.pl rfl rfl rfl rfl ?_
              refine jT.getR 18 101 1 ty o rfl kp1 (by decide) rfl rfl rfl (fun k20 => ?_)
              refine mj_T.pl rfl rfl rfl rfl ?_
              refine jT.iald o rfl k20 rx4 ⟨by omega, by omega⟩ (fun z21 rz21 fz21 => ?_)
              have gz21 : z21 = z16 := fz21.trans ((congrArg (fun t : Int => jaI h (R p1 0) t.toNat) (show x4 = x4 by omega)).trans fz16.symm)
              refine jT.icmp rfl rz19 rz21 (fun c84 => ?_) (fun c84 => ?_)
              · have c84 := of_decide_eq_true c84
                refine mj_T.pl rfl rfl rfl rfl ?_
                exact jT.retbp rfl rfl (by omega) (by omega)
              · have c84 := of_decide_eq_false c84
                iterate 2 refine mj_T.pl rfl rfl rfl rfl ?_
                exact jT.retbp rfl rfl (by omega) (by omega)
    exact t35_5 _ z3 rz3 (by omega) rfl
  · have c8 := of_decide_eq_false c8
    refine mj_T.pl rfl rfl rfl rfl ?_
    refine jT.getK 18 10 o rfl kp0 (by decide) rfl rfl rfl fz1.symm ?_
    refine mj_T.pl rfl rfl rfl rfl ?_
    refine jT.getK 18 10 o rfl kp1 (by decide) rfl rfl rfl fz2.symm ?_
    refine jT.icmp rfl rz1 rz2 (fun c19 => ?_) (fun c19 => ?_)
    · have c19 := of_decide_eq_true c19
      refine mj_T.pl rfl rfl rfl rfl ?_
      exact jT.retbp rfl rfl (by omega) (by omega)
    · have c19 := of_decide_eq_false c19
      iterate 2 refine mj_T.pl rfl rfl rfl rfl ?_
      exact jT.retbp rfl rfl (by omega) (by omega)
-- PolyRegisters$Wide.gather(LPolyRegisters$Wide;)V
theorem jc_93 {D n : Nat} {tm : Int} {h g : mj_H} {K L : Nat → Nat} {R : Nat → Nat → Nat} {p0 : Nat} {p1 : Nat} (ty : jTY K L R) (hg : g.length ≤ n) (o : jO K L R g n tm h) (kp0 : K p0 = 18) (kp1 : K p1 = 18) : mj_Ok (D + 1) 93 [.ref p0, .ref p1] h (jQ K L R g n tm [] jV0) := by
  refine mj_Ok.of (M := mj_m93) (loc := [some (.ref p0), some (.ref p1), none, none, none, none, none]) rfl rfl rfl ?_
  refine mj_T.pl rfl rfl rfl rfl ?_
  refine jT.getI 18 10 o rfl kp0 (by decide) rfl rfl rfl (fun z1 (az1 : 0 ≤ z1) (bz1 : z1 ≤ 1000) fz1 => ?_)
  have rz1 : -2147483648 ≤ z1 ∧ z1 ≤ 2147483647 := ⟨by omega, by omega⟩
  refine mj_T.pl (loc' := [some (.ref p0), some (.ref p1), some (.int (jn z1)), none, none, none, none]) rfl rfl rfl rfl ?_
  refine mj_T.pl rfl rfl rfl rfl ?_
  refine jT.getI 18 10 o rfl kp1 (by decide) rfl rfl rfl (fun z2 (az2 : 0 ≤ z2) (bz2 : z2 ≤ 1000) fz2 => ?_)
  have rz2 : -2147483648 ≤ z2 ∧ z2 ≤ 2147483647 := ⟨by omega, by omega⟩
  refine mj_T.pl rfl rfl rfl rfl ?_
  refine jT.getR 18 101 1 ty o rfl kp1 (by decide) rfl rfl rfl (fun k3 => ?_)
  refine jT.alen 1 ty o rfl k3 (by decide) (by decide) (fun z4 ez4 (az4 : 0 ≤ z4) (bz4 : z4 ≤ 1000) => ?_)
  have rz4 : -2147483648 ≤ z4 ∧ z4 ≤ 2147483647 := ⟨by omega, by omega⟩
  refine jT.imin rfl rfl (Nat.le_of_ble_eq_true rfl) rz2 rz4 (fun z5 ez5 => ?_)
  have rz5 : -2147483648 ≤ z5 ∧ z5 ≤ 2147483647 := ⟨by omega, by omega⟩
  refine mj_T.pl (loc' := [some (.ref p0), some (.ref p1), some (.int (jn z1)), some (.int (jn z5)), none, none, none]) rfl rfl rfl rfl ?_
  refine mj_T.pl rfl rfl rfl rfl ?_
  refine mj_T.pl (loc' := [some (.ref p0), some (.ref p1), some (.int (jn z1)), some (.int (jn z5)), some (.int (jn 0)), none, none]) rfl rfl rfl rfl ?_
  refine mj_T.pl rfl rfl rfl rfl ?_
  refine mj_T.pl (loc' := [some (.ref p0), some (.ref p1), some (.int (jn z1)), some (.int (jn z5)), some (.int (jn 0)), some (.int (jn 0)), none]) rfl rfl rfl rfl ?_
  have t24_10 : ∀ (k11 : Nat) (x6 : Int) (x7 : Int) (w8 : Option Value) (h9 : mj_H), (0 ≤ x6 ∧ x6 ≤ 1) → (-2147483648 ≤ x7 ∧ x7 ≤ 2147483647) → (jO K L R g n tm h9) → (0 ≤ x7) → (2147483647 - x7 : Int).toNat = k11 → mj_T (D + 0) mj_m93 24 [some (.ref p0), some (.ref p1), some (.int (jn z1)), some (.int (jn z5)), some (.int (jn x6)), some (.int (jn x7)), w8] [] h9 (jQ K L R g n tm [] jV0) := by
    refine jInd (fun k11 ih12 => ?_)
    intro x6 x7 w8 h9 ax6 rx7 oh9 ix7 hm13
    have rx6 : -2147483648 ≤ x6 ∧ x6 ≤ 2147483647 := ⟨by omega, by omega⟩
    refine mj_T.pl rfl rfl rfl rfl ?_
    refine mj_T.pl rfl rfl rfl rfl ?_
    refine jT.getR 18 101 1 ty oh9 rfl kp0 (by decide) rfl rfl rfl (fun k14 => ?_)
    refine jT.alen 1 ty oh9 rfl k14 (by decide) (by decide) (fun z15 ez15 (az15 : 0 ≤ z15) (bz15 : z15 ≤ 1000) => ?_)
    have rz15 : -2147483648 ≤ z15 ∧ z15 ≤ 2147483647 := ⟨by omega, by omega⟩
    refine jT.icmp rfl rx7 rz15 (fun c31 => ?_) (fun c31 => ?_)
    · have c31 := of_decide_eq_true c31
      exact jT.ret oh9 rfl rfl rfl rfl
    · have c31 := of_decide_eq_false c31
      iterate 2 refine mj_T.pl rfl rfl rfl rfl ?_
      have t51_16 : mj_T (D + 0) mj_m93 51 [some (.ref p0), some (.ref p1), some (.int (jn z1)), some (.int (jn z5)), some (.int (jn x6)), some (.int (jn x7)), w8] [] h9 (jQ K L R g n tm [] jV0) := by
        iterate 3 refine mj_T.pl rfl rfl rfl rfl ?_
        have t70_18 : ∀ (x17 : Int), (-2147483648 ≤ x17 ∧ x17 ≤ 2147483647) → mj_T (D + 0) mj_m93 70 [some (.ref p0), some (.ref p1), some (.int (jn z1)), some (.int (jn z5)), some (.int (jn x6)), some (.int (jn x7)), w8] [.int (jn x17), .int (jn x6)] h9 (jQ K L R g n tm [] jV0) := by
          intro x17 rx17
          refine jT.iadd rfl (fun z19 rz19 ez19 => ?_)
          clear ez19
          iterate 2 refine mj_T.pl rfl rfl rfl rfl ?_
          have t88_21 : ∀ (x20 : Int), (-2147483648 ≤ x20 ∧ x20 ≤ 2147483647) → mj_T (D + 0) mj_m93 88 [some (.ref p0), some (.ref p1), some (.int (jn z1)), some (.int (jn z5)), some (.int (jn x6)), some (.int (jn x7)), w8] [.int (jn x20), .int (jn z19)] h9 (jQ K L R g n tm [] jV0) := by
            intro x20 rx20
            refine jT.iadd rfl (fun z22 rz22 ez22 => ?_)
            clear ez22
            refine mj_T.pl (loc' := [some (.ref p0), some (.ref p1), some (.int (jn z1)), some (.int (jn z5)), some (.int (jn x6)), some (.int (jn x7)), some (.int (jn z22))]) rfl rfl rfl rfl ?_
            refine mj_T.pl rfl rfl rfl rfl ?_
            refine jT.ldcI rfl ?_
            have t103_24 : ∀ (x23 : Int), (0 ≤ x23 ∧ x23 ≤ 1) → mj_T (D + 0) mj_m93 103 [some (.ref p0), some (.ref p1), some (.int (jn z1)), some (.int (jn z5)), some (.int (jn x6)), some (.int (jn x7)), some (.int (jn z22))] [.int (jn x23)] h9 (jQ K L R g n tm [] jV0) := by
              intro x23 ax23
              have rx23 : -2147483648 ≤ x23 ∧ x23 ≤ 2147483647 := ⟨by omega, by omega⟩
              refine mj_T.pl (loc' := [some (.ref p0), some (.ref p1), some (.int (jn z1)), some (.int (jn z5)), some (.int (jn x23)), some (.int (jn x7)), some (.int (jn z22))]) rfl rfl rfl rfl ?_
              refine mj_T.pl rfl rfl rfl rfl ?_
              refine jT.getR 18 101 1 ty oh9 rfl kp0 (by decide) rfl rfl rfl (fun k25 => ?_)
              iterate 3 refine mj_T.pl rfl rfl rfl rfl ?_
              refine jT.ldcI rfl ?_
              refine jT.imul rfl (fun z26 rz26 ez26 => ?_)
              clear ez26
              refine jT.isub rfl (fun z27 rz27 ez27 => ?_)
              clear ez27
              refine jT.iast oh9 rfl k25 rx7 ⟨by omega, by omega⟩ rz27 (fun h28 oh28 uh28 => ?_)
              iterate 3 refine mj_T.pl rfl rfl rfl rfl ?_
              refine jT.iadd rfl (fun z29 rz29 ez29 => ?_)
              replace ez29 := ez29 ⟨by omega, by omega⟩
              refine jT.putI 18 10 oh28 rfl kp0 (by decide) rfl rfl rfl (Or.inl rfl) (by show 0 ≤ z29; omega) (by show z29 ≤ 1000; omega) (fun h30 oh30 wh30 uh30 => ?_)
              refine jT.iinc rfl rfl (fun z31 rz31 ez31 => ?_)
              replace ez31 := ez31 ⟨by omega, by omega⟩
              refine mj_T.eq (loc2 := [some (.ref p0), some (.ref p1), some (.int (jn z1)), some (.int (jn z5)), some (.int (jn x23)), some (.int (jn z31)), some (.int (jn z22))]) ?_ rfl rfl rfl rfl
              refine mj_T.pl rfl rfl rfl rfl ?_
              exact ih12 ((2147483647 - z31 : Int).toNat) (by omega) x23 z31 (some (.int (jn z22))) h30 ⟨by omega, by omega⟩ rz31 oh30 (by omega) rfl
            refine jT.icmp rfl rz22 ⟨by decide, by decide⟩ (fun c95 => ?_) (fun c95 => ?_)
            · have c95 := of_decide_eq_true c95
              refine mj_T.pl rfl rfl rfl rfl ?_
              exact t103_24 0 ⟨by omega, by omega⟩
            · have c95 := of_decide_eq_false c95
              iterate 2 refine mj_T.pl rfl rfl rfl rfl ?_
              exact t103_24 1 ⟨by omega, by omega⟩
          refine jT.icmp rfl rx7 rz5 (fun c74 => ?_) (fun c74 => ?_)
          · have c74 := of_decide_eq_true c74
            refine mj_T.pl rfl rfl rfl rfl ?_
            exact t88_21 0 ⟨by decide, by decide⟩
          · have c74 := of_decide_eq_false c74
            refine mj_T.pl rfl rfl rfl rfl ?_
            refine jT.getR 18 101 1 ty oh9 rfl kp1 (by decide) rfl rfl rfl (fun k32 => ?_)
            refine mj_T.pl rfl rfl rfl rfl ?_
            refine jT.iald oh9 rfl k32 rx7 ⟨by omega, by omega⟩ (fun z33 rz33 fz33 => ?_)
            refine mj_T.pl rfl rfl rfl rfl ?_
            exact t88_21 z33 rz33
        refine jT.icmp rfl rx7 rz1 (fun c56 => ?_) (fun c56 => ?_)
        · have c56 := of_decide_eq_true c56
          refine mj_T.pl rfl rfl rfl rfl ?_
          exact t70_18 0 ⟨by decide, by decide⟩
        · have c56 := of_decide_eq_false c56
          refine mj_T.pl rfl rfl rfl rfl ?_
          refine jT.getR 18 101 1 ty oh9 rfl kp0 (by decide) rfl rfl rfl (fun k34 => ?_)
          refine mj_T.pl rfl rfl rfl rfl ?_
          refine jT.iald oh9 rfl k34 rx7 ⟨by omega, by omega⟩ (fun z35 rz35 fz35 => ?_)
          refine mj_T.pl rfl rfl rfl rfl ?_
          exact t70_18 z35 rz35
      refine jT.icmp rfl rx7 rz1 (fun c37 => ?_) (fun c37 => ?_)
      · have c37 := of_decide_eq_true c37
        exact t51_16 
      · have c37 := of_decide_eq_false c37
        iterate 2 refine mj_T.pl rfl rfl rfl rfl ?_
        refine jT.icmp rfl rx7 rz5 (fun c43 => ?_) (fun c43 => ?_)
        · have c43 := of_decide_eq_true c43
          exact t51_16 
        · have c43 := of_decide_eq_false c43
          refine mj_T.pl rfl rfl rfl rfl ?_
          refine jT.if0 rfl rx6 (fun c48 => ?_) (fun c48 => ?_)
          · have c48 := of_decide_eq_true c48
            exact jT.ret oh9 rfl rfl rfl rfl
          · have c48 := of_decide_eq_false c48
            exact t51_16 
  exact t24_10 _ 0 0 none h ⟨by omega, by omega⟩ ⟨by decide, by decide⟩ o (by omega) rfl
-- PolyRegisters$Wide.differ(LPolyRegisters$Wide;LPolyRegisters$Wide;)V
theorem jc_94 {D n : Nat} {tm : Int} {h g : mj_H} {K L : Nat → Nat} {R : Nat → Nat → Nat} {p0 : Nat} {p1 : Nat} {p2 : Nat} (ty : jTY K L R) (hg : g.length ≤ n) (o : jO K L R g n tm h) (kp0 : K p0 = 18) (kp1 : K p1 = 18) (kp2 : K p2 = 18) : mj_Ok (D + 1) 94 [.ref p0, .ref p1, .ref p2] h (jQ K L R g n tm [] jV0) := by
  refine mj_Ok.of (M := mj_m94) (loc := [some (.ref p0), some (.ref p1), some (.ref p2), none, none, none, none, none, none]) rfl rfl rfl ?_
  refine mj_T.pl rfl rfl rfl rfl ?_
  refine jT.getI 18 10 o rfl kp1 (by decide) rfl rfl rfl (fun z1 (az1 : 0 ≤ z1) (bz1 : z1 ≤ 1000) fz1 => ?_)
  have rz1 : -2147483648 ≤ z1 ∧ z1 ≤ 2147483647 := ⟨by omega, by omega⟩
  refine mj_T.pl rfl rfl rfl rfl ?_
  refine jT.getR 18 101 1 ty o rfl kp0 (by decide) rfl rfl rfl (fun k2 => ?_)
  refine jT.alen 1 ty o rfl k2 (by decide) (by decide) (fun z3 ez3 (az3 : 0 ≤ z3) (bz3 : z3 ≤ 1000) => ?_)
  have rz3 : -2147483648 ≤ z3 ∧ z3 ≤ 2147483647 := ⟨by omega, by omega⟩
  refine mj_T.pl rfl rfl rfl rfl ?_
  refine jT.getR 18 101 1 ty o rfl kp1 (by decide) rfl rfl rfl (fun k4 => ?_)
  refine jT.alen 1 ty o rfl k4 (by decide) (by decide) (fun z5 ez5 (az5 : 0 ≤ z5) (bz5 : z5 ≤ 1000) => ?_)
  have rz5 : -2147483648 ≤ z5 ∧ z5 ≤ 2147483647 := ⟨by omega, by omega⟩
  refine jT.imin rfl rfl (Nat.le_of_ble_eq_true rfl) rz3 rz5 (fun z6 ez6 => ?_)
  have rz6 : -2147483648 ≤ z6 ∧ z6 ≤ 2147483647 := ⟨by omega, by omega⟩
  refine jT.imin rfl rfl (Nat.le_of_ble_eq_true rfl) rz1 rz6 (fun z7 ez7 => ?_)
  have rz7 : -2147483648 ≤ z7 ∧ z7 ≤ 2147483647 := ⟨by omega, by omega⟩
  refine mj_T.pl (loc' := [some (.ref p0), some (.ref p1), some (.ref p2), some (.int (jn z7)), none, none, none, none, none]) rfl rfl rfl rfl ?_
  refine mj_T.pl rfl rfl rfl rfl ?_
  refine jT.getI 18 10 o rfl kp2 (by decide) rfl rfl rfl (fun z8 (az8 : 0 ≤ z8) (bz8 : z8 ≤ 1000) fz8 => ?_)
  have rz8 : -2147483648 ≤ z8 ∧ z8 ≤ 2147483647 := ⟨by omega, by omega⟩
  refine mj_T.pl rfl rfl rfl rfl ?_
  refine jT.getR 18 101 1 ty o rfl kp2 (by decide) rfl rfl rfl (fun k9 => ?_)
  refine jT.alen 1 ty o rfl k9 (by decide) (by decide) (fun z10 ez10 (az10 : 0 ≤ z10) (bz10 : z10 ≤ 1000) => ?_)
  have rz10 : -2147483648 ≤ z10 ∧ z10 ≤ 2147483647 := ⟨by omega, by omega⟩
  refine jT.imin rfl rfl (Nat.le_of_ble_eq_true rfl) rz8 rz10 (fun z11 ez11 => ?_)
  have rz11 : -2147483648 ≤ z11 ∧ z11 ≤ 2147483647 := ⟨by omega, by omega⟩
  refine mj_T.pl (loc' := [some (.ref p0), some (.ref p1), some (.ref p2), some (.int (jn z7)), some (.int (jn z11)), none, none, none, none]) rfl rfl rfl rfl ?_
  refine mj_T.pl rfl rfl rfl rfl ?_
  refine mj_T.pl (loc' := [some (.ref p0), some (.ref p1), some (.ref p2), some (.int (jn z7)), some (.int (jn z11)), some (.int (jn 0)), none, none, none]) rfl rfl rfl rfl ?_
  refine mj_T.pl rfl rfl rfl rfl ?_
  refine mj_T.pl (loc' := [some (.ref p0), some (.ref p1), some (.ref p2), some (.int (jn z7)), some (.int (jn z11)), some (.int (jn 0)), some (.int (jn 0)), none, none]) rfl rfl rfl rfl ?_
  refine mj_T.pl rfl rfl rfl rfl ?_
  refine mj_T.pl (loc' := [some (.ref p0), some (.ref p1), some (.ref p2), some (.int (jn z7)), some (.int (jn z11)), some (.int (jn 0)), some (.int (jn 0)), some (.int (jn 0)), none]) rfl rfl rfl rfl ?_
  have t44_19 : ∀ (k20 : Nat) (x12 : Int) (x13 : Int) (x14 : Int) (w15 : Option Value) (h16 : mj_H), (-2147483648 ≤ x12 ∧ x12 ≤ 2147483647) → (0 ≤ x13 ∧ x13 ≤ 1) → (-2147483648 ≤ x14 ∧ x14 ≤ 2147483647) → (jO K L R g n tm h16) → (jfI h16 p1 1 = z1) → (jfI h16 p2 1 = z8) → (0 ≤ x14) → (0 ≤ x12 ∧ x12 ≤ 1000) → (2147483647 - x14 : Int).toNat = k20 → mj_T (D + 0) mj_m94 44 [some (.ref p0), some (.ref p1), some (.ref p2), some (.int (jn z7)), some (.int (jn z11)), some (.int (jn x12)), some (.int (jn x13)), some (.int (jn x14)), w15] [] h16 (jQ K L R g n tm [] jV0) := by
    refine jInd (fun k20 ih21 => ?_)
    intro x12 x13 x14 w15 h16 rx12 ax13 rx14 oh16 f17 f18 ix14 ivx14 hm22
    have rx13 : -2147483648 ≤ x13 ∧ x13 ≤ 2147483647 := ⟨by omega, by omega⟩
    refine mj_T.pl rfl rfl rfl rfl ?_
    refine mj_T.pl rfl rfl rfl rfl ?_
    refine jT.icmp rfl rx14 rz7 (fun c47 => ?_) (fun c47 => ?_)
    · have c47 := of_decide_eq_true c47
      iterate 2 refine mj_T.pl rfl rfl rfl rfl ?_
      refine jT.putI 18 10 oh16 rfl kp0 (by decide) rfl rfl rfl (Or.inl rfl) (by show 0 ≤ x12; omega) (by show x12 ≤ 1000; omega) (fun h23 oh23 wh23 uh23 => ?_)
      exact jT.ret oh23 rfl rfl rfl rfl
    · have c47 := of_decide_eq_false c47
      refine mj_T.pl rfl rfl rfl rfl ?_
      refine jT.getR 18 101 1 ty oh16 rfl kp1 (by decide) rfl rfl rfl (fun k24 => ?_)
      refine mj_T.pl rfl rfl rfl rfl ?_
      refine jT.iald oh16 rfl k24 rx14 ⟨by omega, by omega⟩ (fun z25 rz25 fz25 => ?_)
      refine mj_T.pl rfl rfl rfl rfl ?_
      refine jT.isub rfl (fun z26 rz26 ez26 => ?_)
      clear ez26
      iterate 2 refine mj_T.pl rfl rfl rfl rfl ?_
      have t78_28 : ∀ (x27 : Int), (-2147483648 ≤ x27 ∧ x27 ≤ 2147483647) → mj_T (D + 0) mj_m94 78 [some (.ref p0), some (.ref p1), some (.ref p2), some (.int (jn z7)), some (.int (jn z11)), some (.int (jn x12)), some (.int (jn x13)), some (.int (jn x14)), w15] [.int (jn x27), .int (jn z26)] h16 (jQ K L R g n tm [] jV0) := by
        intro x27 rx27
        refine jT.isub rfl (fun z29 rz29 ez29 => ?_)
        clear ez29
        refine mj_T.pl (loc' := [some (.ref p0), some (.ref p1), some (.ref p2), some (.int (jn z7)), some (.int (jn z11)), some (.int (jn x12)), some (.int (jn x13)), some (.int (jn x14)), some (.int (jn z29))]) rfl rfl rfl rfl ?_
        refine mj_T.pl rfl rfl rfl rfl ?_
        have t91_31 : ∀ (x30 : Int), (0 ≤ x30 ∧ x30 ≤ 1) → mj_T (D + 0) mj_m94 91 [some (.ref p0), some (.ref p1), some (.ref p2), some (.int (jn z7)), some (.int (jn z11)), some (.int (jn x12)), some (.int (jn x13)), some (.int (jn x14)), some (.int (jn z29))] [.int (jn x30)] h16 (jQ K L R g n tm [] jV0) := by
          intro x30 ax30
          have rx30 : -2147483648 ≤ x30 ∧ x30 ≤ 2147483647 := ⟨by omega, by omega⟩
          refine mj_T.pl (loc' := [some (.ref p0), some (.ref p1), some (.ref p2), some (.int (jn z7)), some (.int (jn z11)), some (.int (jn x12)), some (.int (jn x30)), some (.int (jn x14)), some (.int (jn z29))]) rfl rfl rfl rfl ?_
          refine mj_T.pl rfl rfl rfl rfl ?_
          refine jT.getR 18 101 1 ty oh16 rfl kp0 (by decide) rfl rfl rfl (fun k32 => ?_)
          iterate 3 refine mj_T.pl rfl rfl rfl rfl ?_
          refine jT.ldcI rfl ?_
          refine jT.imul rfl (fun z33 rz33 ez33 => ?_)
          clear ez33
          refine jT.iadd rfl (fun z34 rz34 ez34 => ?_)
          clear ez34
          refine jT.iast oh16 rfl k32 rx14 ⟨by omega, by omega⟩ rz34 (fun h35 oh35 uh35 => ?_)
          refine mj_T.pl rfl rfl rfl rfl ?_
          refine jT.getR 18 101 1 ty oh35 rfl kp0 (by decide) rfl rfl rfl (fun k36 => ?_)
          refine mj_T.pl rfl rfl rfl rfl ?_
          refine jT.iald oh35 rfl k36 rx14 ⟨by omega, by omega⟩ (fun z37 rz37 fz37 => ?_)
          refine jT.if0 rfl rz37 (fun c115 => ?_) (fun c115 => ?_)
          · have c115 := of_decide_eq_true c115
            refine mj_T.pl rfl rfl rfl rfl ?_
            refine mj_T.pl (loc' := [some (.ref p0), some (.ref p1), some (.ref p2), some (.int (jn z7)), some (.int (jn z11)), some (.int (jn x12)), some (.int (jn x30)), some (.int (jn x14)), some (.int (jn z29))]) rfl rfl rfl rfl ?_
            refine jT.iinc rfl rfl (fun z38 rz38 ez38 => ?_)
            replace ez38 := ez38 ⟨by omega, by omega⟩
            refine mj_T.eq (loc2 := [some (.ref p0), some (.ref p1), some (.ref p2), some (.int (jn z7)), some (.int (jn z11)), some (.int (jn x12)), some (.int (jn x30)), some (.int (jn z38)), some (.int (jn z29))]) ?_ rfl rfl rfl rfl
            refine mj_T.pl rfl rfl rfl rfl ?_
            exact ih21 ((2147483647 - z38 : Int).toNat) (by omega) x12 x30 z38 (some (.int (jn z29))) h35 rx12 ⟨by omega, by omega⟩ rz38 oh35 ((uh35 p1 1).trans f17) ((uh35 p2 1).trans f18) (by omega) (by omega) rfl
          · have c115 := of_decide_eq_false c115
            iterate 2 refine mj_T.pl rfl rfl rfl rfl ?_
            refine jT.iadd rfl (fun z39 rz39 ez39 => ?_)
            replace ez39 := ez39 ⟨by omega, by omega⟩
            refine mj_T.pl rfl rfl rfl rfl ?_
            refine mj_T.pl (loc' := [some (.ref p0), some (.ref p1), some (.ref p2), some (.int (jn z7)), some (.int (jn z11)), some (.int (jn z39)), some (.int (jn x30)), some (.int (jn x14)), some (.int (jn z29))]) rfl rfl rfl rfl ?_
            refine jT.iinc rfl rfl (fun z40 rz40 ez40 => ?_)
            replace ez40 := ez40 ⟨by omega, by omega⟩
            refine mj_T.eq (loc2 := [some (.ref p0), some (.ref p1), some (.ref p2), some (.int (jn z7)), some (.int (jn z11)), some (.int (jn z39)), some (.int (jn x30)), some (.int (jn z40)), some (.int (jn z29))]) ?_ rfl rfl rfl rfl
            refine mj_T.pl rfl rfl rfl rfl ?_
            exact ih21 ((2147483647 - z40 : Int).toNat) (by omega) z39 x30 z40 (some (.int (jn z29))) h35 rz39 ⟨by omega, by omega⟩ rz40 oh35 ((uh35 p1 1).trans f17) ((uh35 p2 1).trans f18) (by omega) (by omega) rfl
        refine jT.if0 rfl rz29 (fun c83 => ?_) (fun c83 => ?_)
        · have c83 := of_decide_eq_true c83
          refine mj_T.pl rfl rfl rfl rfl ?_
          exact t91_31 0 ⟨by omega, by omega⟩
        · have c83 := of_decide_eq_false c83
          iterate 2 refine mj_T.pl rfl rfl rfl rfl ?_
          exact t91_31 1 ⟨by omega, by omega⟩
      refine jT.icmp rfl rx14 rz11 (fun c64 => ?_) (fun c64 => ?_)
      · have c64 := of_decide_eq_true c64
        refine mj_T.pl rfl rfl rfl rfl ?_
        exact t78_28 0 ⟨by decide, by decide⟩
      · have c64 := of_decide_eq_false c64
        refine mj_T.pl rfl rfl rfl rfl ?_
        refine jT.getR 18 101 1 ty oh16 rfl kp2 (by decide) rfl rfl rfl (fun k41 => ?_)
        refine mj_T.pl rfl rfl rfl rfl ?_
        refine jT.iald oh16 rfl k41 rx14 ⟨by omega, by omega⟩ (fun z42 rz42 fz42 => ?_)
        refine mj_T.pl rfl rfl rfl rfl ?_
        exact t78_28 z42 rz42
  exact t44_19 _ 0 0 0 none h ⟨by decide, by decide⟩ ⟨by omega, by omega⟩ ⟨by decide, by decide⟩ o fz1.symm fz8.symm (by omega) (by omega) rfl
-- PolyRegisters$Wide.plus(LPolyRegisters$Wide;I)V
theorem jc_91 {D n : Nat} {tm : Int} {h g : mj_H} {K L : Nat → Nat} {R : Nat → Nat → Nat} {p0 : Nat} {p1 : Nat} {p2 : Int} (ty : jTY K L R) (hg : g.length ≤ n) (o : jO K L R g n tm h) (kp0 : K p0 = 18) (kp1 : K p1 = 18) (rp2 : -2147483648 ≤ p2 ∧ p2 ≤ 2147483647) : mj_Ok (D + 2) 91 [.ref p0, .ref p1, .int (jn p2)] h (jQ K L R g n tm [] jV0) := by
  refine mj_Ok.of (M := mj_m91) (loc := [some (.ref p0), some (.ref p1), some (.int (jn p2)), none]) rfl rfl rfl ?_
  refine mj_T.pl rfl rfl rfl rfl ?_
  refine jT.getI 18 0 o rfl kp1 (by decide) rfl rfl rfl (fun z1 (az1 : (-2147483648) ≤ z1) (bz1 : z1 ≤ 2147483647) fz1 => ?_)
  have rz1 : -2147483648 ≤ z1 ∧ z1 ≤ 2147483647 := ⟨by omega, by omega⟩
  refine mj_T.pl rfl rfl rfl rfl ?_
  refine jT.imul rfl (fun z2 rz2 ez2 => ?_)
  clear ez2
  refine mj_T.pl (loc' := [some (.ref p0), some (.ref p1), some (.int (jn p2)), some (.int (jn z2))]) rfl rfl rfl rfl ?_
  refine mj_T.pl rfl rfl rfl rfl ?_
  refine jT.if0 rfl rz2 (fun c8 => ?_) (fun c8 => ?_)
  · have c8 := jne1 c8
    refine mj_T.pl rfl rfl rfl rfl ?_
    refine jT.getI 18 0 o rfl kp0 (by decide) rfl rfl rfl (fun z3 (az3 : (-2147483648) ≤ z3) (bz3 : z3 ≤ 2147483647) fz3 => ?_)
    have rz3 : -2147483648 ≤ z3 ∧ z3 ≤ 2147483647 := ⟨by omega, by omega⟩
    have t76_5 : ∀ (h4 : mj_H), (jO K L R g n tm h4) → mj_T (D + 1) mj_m91 76 [some (.ref p0), some (.ref p1), some (.int (jn p2)), some (.int (jn z2))] [] h4 (jQ K L R g n tm [] jV0) := by
      intro h4 oh4
      iterate 2 refine mj_T.pl rfl rfl rfl rfl ?_
      refine jT.getI 18 10 oh4 rfl kp0 (by decide) rfl rfl rfl (fun z6 (az6 : 0 ≤ z6) (bz6 : z6 ≤ 1000) fz6 => ?_)
      have rz6 : -2147483648 ≤ z6 ∧ z6 ≤ 2147483647 := ⟨by omega, by omega⟩
      refine jT.if0 rfl rz6 (fun c81 => ?_) (fun c81 => ?_)
      · have c81 := jne1 c81
        refine mj_T.pl rfl rfl rfl rfl ?_
        refine jT.getI 18 0 oh4 rfl kp0 (by decide) rfl rfl rfl (fun z7 (az7 : (-2147483648) ≤ z7) (bz7 : z7 ≤ 2147483647) fz7 => ?_)
        have rz7 : -2147483648 ≤ z7 ∧ z7 ≤ 2147483647 := ⟨by omega, by omega⟩
        refine jT.putI 18 0 oh4 rfl kp0 (by decide) rfl rfl rfl (Or.inl rfl) (by show (-2147483648) ≤ z7; omega) (by show z7 ≤ 2147483647; omega) (fun h8 oh8 wh8 uh8 => ?_)
        exact jT.ret oh8 rfl rfl rfl rfl
      · have c81 := jne2 c81
        iterate 2 refine mj_T.pl rfl rfl rfl rfl ?_
        refine jT.putI 18 0 oh4 rfl kp0 (by decide) rfl rfl rfl (Or.inl rfl) (by show (-2147483648) ≤ 0; omega) (by show 0 ≤ 2147483647; omega) (fun h9 oh9 wh9 uh9 => ?_)
        exact jT.ret oh9 rfl rfl rfl rfl
    refine jT.if0 rfl rz3 (fun c16 => ?_) (fun c16 => ?_)
    · have c16 := jne1 c16
      refine mj_T.pl rfl rfl rfl rfl ?_
      refine jT.getK 18 0 o rfl kp0 (by decide) rfl rfl rfl fz3.symm ?_
      refine mj_T.pl rfl rfl rfl rfl ?_
      refine jT.icmp rfl rz3 rz2 (fun c37 => ?_) (fun c37 => ?_)
      · have c37 := jne1 c37
        iterate 2 refine mj_T.pl rfl rfl rfl rfl ?_
        refine jT.callp rfl rfl (Nat.le_of_ble_eq_true rfl) (Nat.le_of_ble_eq_true rfl) (jrv_of o kp0 (by decide) rfl (by decide) rfl _) rfl (mj_Ok.up (Nat.add_le_add_left (by decide) D) (jc_92 (D := D) ty hg o kp0 kp1)) rfl rfl (fun v10 qv10 => ?_)
        obtain ⟨z11, az11, bz11, rfl⟩ := qv10
        have rz11 : -2147483648 ≤ z11 ∧ z11 ≤ 2147483647 := ⟨by omega, by omega⟩
        refine mj_T.eq (pc2 := 53) (st2 := [.int (jn z11)]) ?_ rfl rfl rfl rfl
        refine jT.if0 rfl rz11 (fun c53 => ?_) (fun c53 => ?_)
        · have c53 := of_decide_eq_true c53
          iterate 3 refine mj_T.pl rfl rfl rfl rfl ?_
          refine jT.call rfl rfl (Nat.le_of_ble_eq_true rfl) (Nat.le_of_ble_eq_true rfl) (jrv_of o kp0 (by decide) rfl (by decide) rfl _) rfl (mj_Ok.up (Nat.add_le_add_left (by decide) D) (jc_94 (D := D) ty hg o kp0 kp0 kp1)) rfl rfl (fun v12 h13 qv12 oh13 => ?_)
          obtain rfl : v12 = none := qv12
          refine mj_T.eq (pc2 := 76) (st2 := []) ?_ rfl rfl rfl rfl
          exact t76_5 h13 oh13
        · have c53 := of_decide_eq_false c53
          iterate 3 refine mj_T.pl rfl rfl rfl rfl ?_
          refine jT.call rfl rfl (Nat.le_of_ble_eq_true rfl) (Nat.le_of_ble_eq_true rfl) (jrv_of o kp0 (by decide) rfl (by decide) rfl _) rfl (mj_Ok.up (Nat.add_le_add_left (by decide) D) (jc_94 (D := D) ty hg o kp0 kp1 kp0)) rfl rfl (fun v14 h15 qv14 oh15 => ?_)
          obtain rfl : v14 = none := qv14
          refine mj_T.eq (pc2 := 62) (st2 := []) ?_ rfl rfl rfl rfl
          iterate 2 refine mj_T.pl rfl rfl rfl rfl ?_
          refine jT.putI 18 0 oh15 rfl kp0 (by decide) rfl rfl rfl (Or.inl rfl) (by show (-2147483648) ≤ z2; omega) (by show z2 ≤ 2147483647; omega) (fun h16 oh16 wh16 uh16 => ?_)
          refine mj_T.pl rfl rfl rfl rfl ?_
          exact t76_5 h16 oh16
      · have c37 := jne2 c37
        iterate 2 refine mj_T.pl rfl rfl rfl rfl ?_
        refine jT.call rfl rfl (Nat.le_of_ble_eq_true rfl) (Nat.le_of_ble_eq_true rfl) (jrv_of o kp0 (by decide) rfl (by decide) rfl _) rfl (mj_Ok.up (Nat.add_le_add_left (by decide) D) (jc_93 (D := D) ty hg o kp0 kp1)) rfl rfl (fun v17 h18 qv17 oh18 => ?_)
        obtain rfl : v17 = none := qv17
        refine mj_T.eq (pc2 := 45) (st2 := []) ?_ rfl rfl rfl rfl
        refine mj_T.pl rfl rfl rfl rfl ?_
        exact t76_5 h18 oh18
    · have c16 := jne2 c16
      iterate 2 refine mj_T.pl rfl rfl rfl rfl ?_
      refine jT.call rfl rfl (Nat.le_of_ble_eq_true rfl) (Nat.le_of_ble_eq_true rfl) (jrv_of o kp0 (by decide) rfl (by decide) rfl _) rfl (mj_Ok.up (Nat.add_le_add_left (by decide) D) (jc_87 (D := D) ty hg o kp0 kp1)) rfl rfl (fun v19 h20 qv19 oh20 => ?_)
      obtain rfl : v19 = none := qv19
      refine mj_T.eq (pc2 := 24) (st2 := []) ?_ rfl rfl rfl rfl
      iterate 2 refine mj_T.pl rfl rfl rfl rfl ?_
      refine jT.putI 18 0 oh20 rfl kp0 (by decide) rfl rfl rfl (Or.inl rfl) (by show (-2147483648) ≤ z2; omega) (by show z2 ≤ 2147483647; omega) (fun h21 oh21 wh21 uh21 => ?_)
      refine mj_T.pl rfl rfl rfl rfl ?_
      exact t76_5 h21 oh21
  · have c8 := jne2 c8
    exact jT.ret o rfl rfl rfl rfl
/-! The class by kinds: its methods. -/
-- PolyRegisters$Wide.scale(J)V
theorem jc_96 {D n : Nat} {tm : Int} {h g : mj_H} {K L : Nat → Nat} {R : Nat → Nat → Nat} {p0 : Nat} {p1 : Int} (ty : jTY K L R) (hg : g.length ≤ n) (o : jO K L R g n tm h) (kp0 : K p0 = 18) (jp1 : jR p1) : mj_Ok (D + 1) 96 [.ref p0, .long (jl p1)] h (jQ K L R g n tm [] jV0) := by
  refine mj_Ok.of (M := mj_m96) (loc := [some (.ref p0), some (.long (jl p1)), none, none, none, none, none, none]) rfl rfl rfl ?_
  refine jT.lc 0 rfl rfl ?_
  refine mj_T.pl (loc' := [some (.ref p0), some (.long (jl p1)), none, some (.long (jl ((0 : Nat) : Int))), none, none, none, none]) rfl rfl rfl rfl ?_
  refine mj_T.pl rfl rfl rfl rfl ?_
  refine mj_T.pl (loc' := [some (.ref p0), some (.long (jl p1)), none, some (.long (jl ((0 : Nat) : Int))), none, some (.int (jn 0)), none, none]) rfl rfl rfl rfl ?_
  have t5_5 : ∀ (k6 : Nat) (y1 : Int) (x2 : Int) (w3 : Option Value) (h4 : mj_H), (jR y1) → (-2147483648 ≤ x2 ∧ x2 ≤ 2147483647) → (jO K L R g n tm h4) → (0 ≤ x2) → (2147483647 - x2 : Int).toNat = k6 → mj_T (D + 0) mj_m96 5 [some (.ref p0), some (.long (jl p1)), none, some (.long (jl y1)), none, some (.int (jn x2)), w3, none] [] h4 (jQ K L R g n tm [] jV0) := by
    refine jInd (fun k6 ih7 => ?_)
    intro y1 x2 w3 h4 jy1 rx2 oh4 ix2 hm8
    refine mj_T.pl rfl rfl rfl rfl ?_
    refine mj_T.pl rfl rfl rfl rfl ?_
    refine jT.getR 18 101 1 ty oh4 rfl kp0 (by decide) rfl rfl rfl (fun k9 => ?_)
    refine jT.alen 1 ty oh4 rfl k9 (by decide) (by decide) (fun z10 ez10 (az10 : 0 ≤ z10) (bz10 : z10 ≤ 1000) => ?_)
    have rz10 : -2147483648 ≤ z10 ∧ z10 ≤ 2147483647 := ⟨by omega, by omega⟩
    refine jT.icmp rfl rx2 rz10 (fun c12 => ?_) (fun c12 => ?_)
    · have c12 := of_decide_eq_true c12
      exact jT.ret oh4 rfl rfl rfl rfl
    · have c12 := of_decide_eq_false c12
      iterate 2 refine mj_T.pl rfl rfl rfl rfl ?_
      refine jT.getI 18 10 oh4 rfl kp0 (by decide) rfl rfl rfl (fun z11 (az11 : 0 ≤ z11) (bz11 : z11 ≤ 1000) fz11 => ?_)
      have rz11 : -2147483648 ≤ z11 ∧ z11 ≤ 2147483647 := ⟨by omega, by omega⟩
      have t30_12 : mj_T (D + 0) mj_m96 30 [some (.ref p0), some (.long (jl p1)), none, some (.long (jl y1)), none, some (.int (jn x2)), w3, none] [] h4 (jQ K L R g n tm [] jV0) := by
        iterate 2 refine mj_T.pl rfl rfl rfl rfl ?_
        refine jT.getK 18 10 oh4 rfl kp0 (by decide) rfl rfl rfl fz11.symm ?_
        have t53_14 : ∀ (y13 : Int), (jR y13) → mj_T (D + 0) mj_m96 53 [some (.ref p0), some (.long (jl p1)), none, some (.long (jl y1)), none, some (.int (jn x2)), w3, none] [.long (jl y13)] h4 (jQ K L R g n tm [] jV0) := by
          intro y13 jy13
          refine mj_T.pl rfl rfl rfl rfl ?_
          refine jT.ladd rfl (fun z15 jz15 _ => ?_)
          refine mj_T.pl (loc' := [some (.ref p0), some (.long (jl p1)), none, some (.long (jl y1)), none, some (.int (jn x2)), some (.long (jl z15)), none]) rfl rfl rfl rfl ?_
          refine mj_T.pl rfl rfl rfl rfl ?_
          refine jT.getR 18 101 1 ty oh4 rfl kp0 (by decide) rfl rfl rfl (fun k16 => ?_)
          iterate 2 refine mj_T.pl rfl rfl rfl rfl ?_
          refine jT.ldcL rfl ?_
          refine jT.lrem rfl ⟨by decide, by decide⟩ (by decide) (fun z17 jz17 => ?_)
          refine jT.l2i rfl (fun z18 rz18 _ => ?_)
          refine jT.iast oh4 rfl k16 rx2 ⟨by omega, by omega⟩ rz18 (fun h19 oh19 uh19 => ?_)
          refine mj_T.pl rfl rfl rfl rfl ?_
          refine jT.ldcL rfl ?_
          refine jT.ldiv rfl ⟨by decide, by decide⟩ (by decide) (fun z20 jz20 => ?_)
          refine mj_T.pl (loc' := [some (.ref p0), some (.long (jl p1)), none, some (.long (jl z20)), none, some (.int (jn x2)), some (.long (jl z15)), none]) rfl rfl rfl rfl ?_
          iterate 3 refine mj_T.pl rfl rfl rfl rfl ?_
          refine jT.getK 18 10 oh19 rfl kp0 (by decide) rfl rfl rfl ((uh19 p0 1).trans fz11.symm) ?_
          refine jT.icmp rfl rx2 rz11 (fun c85 => ?_) (fun c85 => ?_)
          · have c85 := of_decide_eq_true c85
            refine mj_T.pl rfl rfl rfl rfl ?_
            refine jT.getK 18 10 oh19 rfl kp0 (by decide) rfl rfl rfl ((uh19 p0 1).trans fz11.symm) ?_
            refine jT.putI 18 10 oh19 rfl kp0 (by decide) rfl rfl rfl (Or.inl rfl) (by show 0 ≤ z11; omega) (by show z11 ≤ 1000; omega) (fun h21 oh21 wh21 uh21 => ?_)
            refine jT.iinc rfl rfl (fun z22 rz22 ez22 => ?_)
            replace ez22 := ez22 ⟨by omega, by omega⟩
            refine mj_T.eq (loc2 := [some (.ref p0), some (.long (jl p1)), none, some (.long (jl z20)), none, some (.int (jn z22)), some (.long (jl z15)), none]) ?_ rfl rfl rfl rfl
            refine mj_T.pl rfl rfl rfl rfl ?_
            exact ih7 ((2147483647 - z22 : Int).toNat) (by omega) z20 z22 (some (.long (jl z15))) h21 jz20 rz22 oh21 (by omega) rfl
          · have c85 := of_decide_eq_false c85
            iterate 2 refine mj_T.pl rfl rfl rfl rfl ?_
            refine jT.iadd rfl (fun z23 rz23 ez23 => ?_)
            replace ez23 := ez23 ⟨by omega, by omega⟩
            refine mj_T.pl rfl rfl rfl rfl ?_
            refine jT.putI 18 10 oh19 rfl kp0 (by decide) rfl rfl rfl (Or.inl rfl) (by show 0 ≤ z23; omega) (by show z23 ≤ 1000; omega) (fun h24 oh24 wh24 uh24 => ?_)
            refine jT.iinc rfl rfl (fun z25 rz25 ez25 => ?_)
            replace ez25 := ez25 ⟨by omega, by omega⟩
            refine mj_T.eq (loc2 := [some (.ref p0), some (.long (jl p1)), none, some (.long (jl z20)), none, some (.int (jn z25)), some (.long (jl z15)), none]) ?_ rfl rfl rfl rfl
            refine mj_T.pl rfl rfl rfl rfl ?_
            exact ih7 ((2147483647 - z25 : Int).toNat) (by omega) z20 z25 (some (.long (jl z15))) h24 jz20 rz25 oh24 (by omega) rfl
        refine jT.icmp rfl rx2 rz11 (fun c36 => ?_) (fun c36 => ?_)
        · have c36 := of_decide_eq_true c36
          refine jT.lc 0 rfl rfl ?_
          exact t53_14 ((0 : Nat) : Int) ⟨by decide, by decide⟩
        · have c36 := of_decide_eq_false c36
          refine mj_T.pl rfl rfl rfl rfl ?_
          refine jT.getR 18 101 1 ty oh4 rfl kp0 (by decide) rfl rfl rfl (fun k26 => ?_)
          refine mj_T.pl rfl rfl rfl rfl ?_
          refine jT.iald oh4 rfl k26 rx2 ⟨by omega, by omega⟩ (fun z27 rz27 fz27 => ?_)
          refine jT.i2l rfl rz27 ?_
          have j28 : jR z27 := ⟨by omega, by omega⟩
          refine mj_T.pl rfl rfl rfl rfl ?_
          refine jT.lmul rfl (fun z29 jz29 _ => ?_)
          refine mj_T.pl rfl rfl rfl rfl ?_
          exact t53_14 z29 jz29
      refine jT.icmp rfl rx2 rz11 (fun c21 => ?_) (fun c21 => ?_)
      · have c21 := of_decide_eq_true c21
        exact t30_12 
      · have c21 := of_decide_eq_false c21
        refine mj_T.pl rfl rfl rfl rfl ?_
        refine jT.lc 0 rfl rfl ?_
        refine mj_T.lif rfl rfl jy1 ⟨by decide, by decide⟩ (fun c26 => ?_) (fun c26 => ?_)
        · have c26 := of_decide_eq_true c26
          exact jT.ret oh4 rfl rfl rfl rfl
        · have c26 := of_decide_eq_false c26
          exact t30_12 
  exact t5_5 _ ((0 : Nat) : Int) 0 none h ⟨by decide, by decide⟩ ⟨by decide, by decide⟩ o (by omega) rfl
-- PolyRegisters$Wide.cut(J)V
theorem jc_97 {D n : Nat} {tm : Int} {h g : mj_H} {K L : Nat → Nat} {R : Nat → Nat → Nat} {p0 : Nat} {p1 : Int} (ty : jTY K L R) (hg : g.length ≤ n) (o : jO K L R g n tm h) (kp0 : K p0 = 18) (jp1 : jR p1) : mj_Ok (D + 1) 97 [.ref p0, .long (jl p1)] h (jQ K L R g n tm [] jV0) := by
  refine mj_Ok.of (M := mj_m97) (loc := [some (.ref p0), some (.long (jl p1)), none, none, none, none, none, none, none]) rfl rfl rfl ?_
  refine jT.lc 0 rfl rfl ?_
  refine mj_T.pl (loc' := [some (.ref p0), some (.long (jl p1)), none, some (.long (jl ((0 : Nat) : Int))), none, none, none, none, none]) rfl rfl rfl rfl ?_
  refine mj_T.pl rfl rfl rfl rfl ?_
  refine mj_T.pl (loc' := [some (.ref p0), some (.long (jl p1)), none, some (.long (jl ((0 : Nat) : Int))), none, some (.int (jn 0)), none, none, none]) rfl rfl rfl rfl ?_
  refine mj_T.pl rfl rfl rfl rfl ?_
  refine jT.getI 18 10 o rfl kp0 (by decide) rfl rfl rfl (fun z1 (az1 : 0 ≤ z1) (bz1 : z1 ≤ 1000) fz1 => ?_)
  have rz1 : -2147483648 ≤ z1 ∧ z1 ≤ 2147483647 := ⟨by omega, by omega⟩
  refine mj_T.pl rfl rfl rfl rfl ?_
  refine jT.getR 18 101 1 ty o rfl kp0 (by decide) rfl rfl rfl (fun k2 => ?_)
  refine jT.alen 1 ty o rfl k2 (by decide) (by decide) (fun z3 ez3 (az3 : 0 ≤ z3) (bz3 : z3 ≤ 1000) => ?_)
  have rz3 : -2147483648 ≤ z3 ∧ z3 ≤ 2147483647 := ⟨by omega, by omega⟩
  refine jT.imin rfl rfl (Nat.le_of_ble_eq_true rfl) rz1 rz3 (fun z4 ez4 => ?_)
  have rz4 : -2147483648 ≤ z4 ∧ z4 ≤ 2147483647 := ⟨by omega, by omega⟩
  refine mj_T.pl rfl rfl rfl rfl ?_
  refine jT.isub rfl (fun z5 rz5 ez5 => ?_)
  replace ez5 := ez5 ⟨by omega, by omega⟩
  refine mj_T.pl (loc' := [some (.ref p0), some (.long (jl p1)), none, some (.long (jl ((0 : Nat) : Int))), none, some (.int (jn 0)), some (.int (jn z5)), none, none]) rfl rfl rfl rfl ?_
  have t21_12 : ∀ (k13 : Nat) (y6 : Int) (x7 : Int) (x8 : Int) (w9 : Option Value) (h10 : mj_H), (jR y6) → (-2147483648 ≤ x7 ∧ x7 ≤ 2147483647) → (-2147483648 ≤ x8 ∧ x8 ≤ 2147483647) → (jO K L R g n tm h10) → (jfI h10 p0 1 = z1) → (x8 ≤ z5) → (0 ≤ x7 ∧ x7 ≤ 1000) → (x8 + 1 : Int).toNat = k13 → mj_T (D + 0) mj_m97 21 [some (.ref p0), some (.long (jl p1)), none, some (.long (jl y6)), none, some (.int (jn x7)), some (.int (jn x8)), w9, none] [] h10 (jQ K L R g n tm [] jV0) := by
    refine jInd (fun k13 ih14 => ?_)
    intro y6 x7 x8 w9 h10 jy6 rx7 rx8 oh10 f11 ix8 ivx8 hm15
    refine mj_T.pl rfl rfl rfl rfl ?_
    have t97_16 : mj_T (D + 0) mj_m97 97 [some (.ref p0), some (.long (jl p1)), none, some (.long (jl y6)), none, some (.int (jn x7)), some (.int (jn x8)), w9, none] [] h10 (jQ K L R g n tm [] jV0) := by
      iterate 2 refine mj_T.pl rfl rfl rfl rfl ?_
      refine jT.putI 18 10 oh10 rfl kp0 (by decide) rfl rfl rfl (Or.inl rfl) (by show 0 ≤ x7; omega) (by show x7 ≤ 1000; omega) (fun h17 oh17 wh17 uh17 => ?_)
      iterate 2 refine mj_T.pl rfl rfl rfl rfl ?_
      refine jT.getK 18 10 oh17 rfl kp0 (by decide) rfl rfl rfl wh17 ?_
      refine jT.if0 rfl rx7 (fun c108 => ?_) (fun c108 => ?_)
      · have c108 := jne1 c108
        refine mj_T.pl rfl rfl rfl rfl ?_
        refine jT.getI 18 0 oh17 rfl kp0 (by decide) rfl rfl rfl (fun z18 (az18 : (-2147483648) ≤ z18) (bz18 : z18 ≤ 2147483647) fz18 => ?_)
        have rz18 : -2147483648 ≤ z18 ∧ z18 ≤ 2147483647 := ⟨by omega, by omega⟩
        refine jT.putI 18 0 oh17 rfl kp0 (by decide) rfl rfl rfl (Or.inl rfl) (by show (-2147483648) ≤ z18; omega) (by show z18 ≤ 2147483647; omega) (fun h19 oh19 wh19 uh19 => ?_)
        exact jT.ret oh19 rfl rfl rfl rfl
      · have c108 := jne2 c108
        iterate 2 refine mj_T.pl rfl rfl rfl rfl ?_
        refine jT.putI 18 0 oh17 rfl kp0 (by decide) rfl rfl rfl (Or.inl rfl) (by show (-2147483648) ≤ 0; omega) (by show 0 ≤ 2147483647; omega) (fun h20 oh20 wh20 uh20 => ?_)
        exact jT.ret oh20 rfl rfl rfl rfl
    refine jT.if0 rfl rx8 (fun c23 => ?_) (fun c23 => ?_)
    · have c23 := of_decide_eq_true c23
      exact t97_16 
    · have c23 := of_decide_eq_false c23
      refine mj_T.pl rfl rfl rfl rfl ?_
      refine jT.lc 0 rfl rfl ?_
      refine mj_T.lif rfl rfl jp1 ⟨by decide, by decide⟩ (fun c28 => ?_) (fun c28 => ?_)
      · have c28 := of_decide_eq_true c28
        exact t97_16 
      · have c28 := of_decide_eq_false c28
        refine mj_T.pl rfl rfl rfl rfl ?_
        refine jT.ldcL rfl ?_
        refine jT.lmul rfl (fun z21 jz21 _ => ?_)
        refine mj_T.pl rfl rfl rfl rfl ?_
        refine jT.getR 18 101 1 ty oh10 rfl kp0 (by decide) rfl rfl rfl (fun k22 => ?_)
        refine mj_T.pl rfl rfl rfl rfl ?_
        refine jT.iald oh10 rfl k22 rx8 ⟨by omega, by omega⟩ (fun z23 rz23 fz23 => ?_)
        refine jT.i2l rfl rz23 ?_
        have j24 : jR z23 := ⟨by omega, by omega⟩
        refine jT.ladd rfl (fun z25 jz25 _ => ?_)
        refine mj_T.pl (loc' := [some (.ref p0), some (.long (jl p1)), none, some (.long (jl y6)), none, some (.int (jn x7)), some (.int (jn x8)), some (.long (jl z25)), none]) rfl rfl rfl rfl ?_
        refine mj_T.pl rfl rfl rfl rfl ?_
        refine jT.getR 18 101 1 ty oh10 rfl kp0 (by decide) rfl rfl rfl (fun k26 => ?_)
        iterate 3 refine mj_T.pl rfl rfl rfl rfl ?_
        refine jT.ldiv rfl jp1 (by omega) (fun z27 jz27 => ?_)
        refine jT.l2i rfl (fun z28 rz28 _ => ?_)
        refine jT.iast oh10 rfl k26 rx8 ⟨by omega, by omega⟩ rz28 (fun h29 oh29 uh29 => ?_)
        iterate 2 refine mj_T.pl rfl rfl rfl rfl ?_
        refine jT.lrem rfl jp1 (by omega) (fun z30 jz30 => ?_)
        refine mj_T.pl (loc' := [some (.ref p0), some (.long (jl p1)), none, some (.long (jl z30)), none, some (.int (jn x7)), some (.int (jn x8)), some (.long (jl z25)), none]) rfl rfl rfl rfl ?_
        refine mj_T.pl rfl rfl rfl rfl ?_
        refine jT.if0 rfl rx7 (fun c67 => ?_) (fun c67 => ?_)
        · have c67 := jne1 c67
          refine mj_T.pl rfl rfl rfl rfl ?_
          refine mj_T.pl (loc' := [some (.ref p0), some (.long (jl p1)), none, some (.long (jl z30)), none, some (.int (jn x7)), some (.int (jn x8)), some (.long (jl z25)), none]) rfl rfl rfl rfl ?_
          refine jT.iinc rfl rfl (fun z31 rz31 ez31 => ?_)
          replace ez31 := ez31 ⟨by omega, by omega⟩
          refine mj_T.eq (loc2 := [some (.ref p0), some (.long (jl p1)), none, some (.long (jl z30)), none, some (.int (jn x7)), some (.int (jn z31)), some (.long (jl z25)), none]) ?_ rfl rfl rfl rfl
          refine mj_T.pl rfl rfl rfl rfl ?_
          exact ih14 ((z31 + 1 : Int).toNat) (by omega) z30 x7 z31 (some (.long (jl z25))) h29 jz30 rx7 rz31 oh29 ((uh29 p0 1).trans f11) (by omega) (by omega) rfl
        · have c67 := jne2 c67
          refine mj_T.pl rfl rfl rfl rfl ?_
          refine jT.getR 18 101 1 ty oh29 rfl kp0 (by decide) rfl rfl rfl (fun k32 => ?_)
          refine mj_T.pl rfl rfl rfl rfl ?_
          refine jT.iald oh29 rfl k32 rx8 ⟨by omega, by omega⟩ (fun z33 rz33 fz33 => ?_)
          refine jT.if0 rfl rz33 (fun c77 => ?_) (fun c77 => ?_)
          · have c77 := of_decide_eq_true c77
            refine mj_T.pl rfl rfl rfl rfl ?_
            refine mj_T.pl (loc' := [some (.ref p0), some (.long (jl p1)), none, some (.long (jl z30)), none, some (.int (jn x7)), some (.int (jn x8)), some (.long (jl z25)), none]) rfl rfl rfl rfl ?_
            refine jT.iinc rfl rfl (fun z34 rz34 ez34 => ?_)
            replace ez34 := ez34 ⟨by omega, by omega⟩
            refine mj_T.eq (loc2 := [some (.ref p0), some (.long (jl p1)), none, some (.long (jl z30)), none, some (.int (jn x7)), some (.int (jn z34)), some (.long (jl z25)), none]) ?_ rfl rfl rfl rfl
            refine mj_T.pl rfl rfl rfl rfl ?_
            exact ih14 ((z34 + 1 : Int).toNat) (by omega) z30 x7 z34 (some (.long (jl z25))) h29 jz30 rx7 rz34 oh29 ((uh29 p0 1).trans f11) (by omega) (by omega) rfl
          · have c77 := of_decide_eq_false c77
            iterate 2 refine mj_T.pl rfl rfl rfl rfl ?_
            refine jT.iadd rfl (fun z35 rz35 ez35 => ?_)
            replace ez35 := ez35 ⟨by omega, by omega⟩
            refine mj_T.pl rfl rfl rfl rfl ?_
            refine mj_T.pl (loc' := [some (.ref p0), some (.long (jl p1)), none, some (.long (jl z30)), none, some (.int (jn z35)), some (.int (jn x8)), some (.long (jl z25)), none]) rfl rfl rfl rfl ?_
            refine jT.iinc rfl rfl (fun z36 rz36 ez36 => ?_)
            replace ez36 := ez36 ⟨by omega, by omega⟩
            refine mj_T.eq (loc2 := [some (.ref p0), some (.long (jl p1)), none, some (.long (jl z30)), none, some (.int (jn z35)), some (.int (jn z36)), some (.long (jl z25)), none]) ?_ rfl rfl rfl rfl
            refine mj_T.pl rfl rfl rfl rfl ?_
            exact ih14 ((z36 + 1 : Int).toNat) (by omega) z30 z35 z36 (some (.long (jl z25))) h29 jz30 rz35 rz36 oh29 ((uh29 p0 1).trans f11) (by omega) (by omega) rfl
  exact t21_12 _ ((0 : Nat) : Int) 0 z5 none h ⟨by decide, by decide⟩ ⟨by decide, by decide⟩ rz5 o fz1.symm (by omega) (by omega) rfl
-- PolyRegisters$Wide.digitCount()I
theorem jc_98 {D n : Nat} {tm : Int} {h g : mj_H} {K L : Nat → Nat} {R : Nat → Nat → Nat} {p0 : Nat} (ty : jTY K L R) (hg : g.length ≤ n) (o : jO K L R g n tm h) (kp0 : K p0 = 18) : mj_Ok (D + 2) 98 [.ref p0] h (jQp K L R g n tm h [] (jVi (-2147483648) 2147483647)) := by
  refine mj_Ok.of (M := mj_m98) (loc := [some (.ref p0), none, none, none]) rfl rfl rfl ?_
  refine mj_T.pl rfl rfl rfl rfl ?_
  refine jT.getI 18 10 o rfl kp0 (by decide) rfl rfl rfl (fun z1 (az1 : 0 ≤ z1) (bz1 : z1 ≤ 1000) fz1 => ?_)
  have rz1 : -2147483648 ≤ z1 ∧ z1 ≤ 2147483647 := ⟨by omega, by omega⟩
  have t20_3 : ∀ (x2 : Int), (-2147483648 ≤ x2 ∧ x2 ≤ 2147483647) → mj_T (D + 1) mj_m98 20 [some (.ref p0), none, none, none] [.int (jn x2)] h (jQp K L R g n tm h [] (jVi (-2147483648) 2147483647)) := by
    intro x2 rx2
    refine mj_T.pl (loc' := [some (.ref p0), some (.int (jn x2)), none, none]) rfl rfl rfl rfl ?_
    iterate 2 refine mj_T.pl rfl rfl rfl rfl ?_
    refine jT.getK 18 10 o rfl kp0 (by decide) rfl rfl rfl fz1.symm ?_
    refine mj_T.pl rfl rfl rfl rfl ?_
    refine jT.isub rfl (fun z4 rz4 ez4 => ?_)
    replace ez4 := ez4 ⟨by omega, by omega⟩
    refine jT.callpp rfl rfl (Nat.le_of_ble_eq_true rfl) (Nat.le_of_ble_eq_true rfl) (jrv_of o kp0 (by decide) rfl (by decide) rfl _) rfl (mj_Ok.up (Nat.add_le_add_left (by decide) D) (jc_89 (D := D) ty hg o kp0 rz4)) rfl rfl (fun v5 qv5 => ?_)
    obtain ⟨z6, az6, bz6, rfl⟩ := qv5
    have rz6 : -2147483648 ≤ z6 ∧ z6 ≤ 2147483647 := ⟨by omega, by omega⟩
    refine mj_T.eq (pc2 := 31) (st2 := [.int (jn z6)]) ?_ rfl rfl rfl rfl
    refine mj_T.pl (loc' := [some (.ref p0), some (.int (jn x2)), some (.int (jn z6)), none]) rfl rfl rfl rfl ?_
    refine mj_T.pl rfl rfl rfl rfl ?_
    refine mj_T.pl (loc' := [some (.ref p0), some (.int (jn x2)), some (.int (jn z6)), some (.int (jn 0))]) rfl rfl rfl rfl ?_
    have t34_10 : ∀ (k11 : Nat) (x7 : Int) (x8 : Int) (x9 : Int), (-2147483648 ≤ x7 ∧ x7 ≤ 2147483647) → (-2147483648 ≤ x8 ∧ x8 ≤ 2147483647) → (-2147483648 ≤ x9 ∧ x9 ≤ 2147483647) → (0 ≤ x9) → (2147483647 - x9 : Int).toNat = k11 → mj_T (D + 1) mj_m98 34 [some (.ref p0), some (.int (jn x7)), some (.int (jn x8)), some (.int (jn x9))] [] h (jQp K L R g n tm h [] (jVi (-2147483648) 2147483647)) := by
      refine jInd (fun k11 ih12 => ?_)
      intro x7 x8 x9 rx7 rx8 rx9 ix9 hm13
      refine mj_T.pl rfl rfl rfl rfl ?_
      refine mj_T.pl rfl rfl rfl rfl ?_
      refine jT.icmp rfl rx9 ⟨by decide, by decide⟩ (fun c37 => ?_) (fun c37 => ?_)
      · have c37 := of_decide_eq_true c37
        refine mj_T.pl rfl rfl rfl rfl ?_
        exact jT.retp rfl rfl rfl ⟨x7, by omega, by omega, rfl⟩
      · have c37 := of_decide_eq_false c37
        refine mj_T.pl rfl rfl rfl rfl ?_
        refine jT.if0 rfl rx8 (fun c41 => ?_) (fun c41 => ?_)
        · have c41 := of_decide_eq_true c41
          refine mj_T.pl rfl rfl rfl rfl ?_
          exact jT.retp rfl rfl rfl ⟨x7, by omega, by omega, rfl⟩
        · have c41 := of_decide_eq_false c41
          iterate 2 refine mj_T.pl rfl rfl rfl rfl ?_
          refine jT.idiv rfl ⟨by decide, by decide⟩ (by decide) (fun z14 rz14 => ?_)
          refine mj_T.pl (loc' := [some (.ref p0), some (.int (jn x7)), some (.int (jn z14)), some (.int (jn x9))]) rfl rfl rfl rfl ?_
          refine jT.iinc rfl rfl (fun z15 rz15 ez15 => ?_)
          clear ez15
          refine mj_T.eq (loc2 := [some (.ref p0), some (.int (jn z15)), some (.int (jn z14)), some (.int (jn x9))]) ?_ rfl rfl rfl rfl
          refine jT.iinc rfl rfl (fun z16 rz16 ez16 => ?_)
          replace ez16 := ez16 ⟨by omega, by omega⟩
          refine mj_T.eq (loc2 := [some (.ref p0), some (.int (jn z15)), some (.int (jn z14)), some (.int (jn z16))]) ?_ rfl rfl rfl rfl
          refine mj_T.pl rfl rfl rfl rfl ?_
          exact ih12 ((2147483647 - z16 : Int).toNat) (by omega) z15 z14 z16 rz15 rz14 rz16 (by omega) rfl
    exact t34_10 _ x2 z6 0 rx2 rz6 ⟨by decide, by decide⟩ (by omega) rfl
  refine jT.if0 rfl rz1 (fun c4 => ?_) (fun c4 => ?_)
  · have c4 := jne1 c4
    refine mj_T.pl rfl rfl rfl rfl ?_
    refine jT.getK 18 10 o rfl kp0 (by decide) rfl rfl rfl fz1.symm ?_
    refine mj_T.pl rfl rfl rfl rfl ?_
    refine jT.isub rfl (fun z17 rz17 ez17 => ?_)
    replace ez17 := ez17 ⟨by omega, by omega⟩
    refine mj_T.pl rfl rfl rfl rfl ?_
    refine jT.imul rfl (fun z18 rz18 ez18 => ?_)
    clear ez18
    exact t20_3 z18 rz18
  · have c4 := jne2 c4
    iterate 2 refine mj_T.pl rfl rfl rfl rfl ?_
    exact t20_3 1 ⟨by decide, by decide⟩
-- PolyRegisters$Wide.digitAt(I)I
theorem jc_99 {D n : Nat} {tm : Int} {h g : mj_H} {K L : Nat → Nat} {R : Nat → Nat → Nat} {p0 : Nat} {p1 : Int} (ty : jTY K L R) (hg : g.length ≤ n) (o : jO K L R g n tm h) (kp0 : K p0 = 18) (rp1 : -2147483648 ≤ p1 ∧ p1 ≤ 2147483647) : mj_Ok (D + 2) 99 [.ref p0, .int (jn p1)] h (jQp K L R g n tm h [] (jVi (-2147483648) 2147483647)) := by
  refine mj_Ok.of (M := mj_m99) (loc := [some (.ref p0), some (.int (jn p1)), none, none]) rfl rfl rfl ?_
  iterate 3 refine mj_T.pl rfl rfl rfl rfl ?_
  refine jT.idiv rfl ⟨by decide, by decide⟩ (by decide) (fun z1 rz1 => ?_)
  refine jT.callpp rfl rfl (Nat.le_of_ble_eq_true rfl) (Nat.le_of_ble_eq_true rfl) (jrv_of o kp0 (by decide) rfl (by decide) rfl _) rfl (mj_Ok.up (Nat.add_le_add_left (by decide) D) (jc_89 (D := D) ty hg o kp0 rz1)) rfl rfl (fun v2 qv2 => ?_)
  obtain ⟨z3, az3, bz3, rfl⟩ := qv2
  have rz3 : -2147483648 ≤ z3 ∧ z3 ≤ 2147483647 := ⟨by omega, by omega⟩
  refine mj_T.eq (pc2 := 8) (st2 := [.int (jn z3)]) ?_ rfl rfl rfl rfl
  refine mj_T.pl (loc' := [some (.ref p0), some (.int (jn p1)), some (.int (jn z3)), none]) rfl rfl rfl rfl ?_
  iterate 2 refine mj_T.pl rfl rfl rfl rfl ?_
  refine jT.irem rfl ⟨by decide, by decide⟩ (by decide) (fun z4 rz4 => ?_)
  refine mj_T.pl (loc' := [some (.ref p0), some (.int (jn p1)), some (.int (jn z3)), some (.int (jn z4))]) rfl rfl rfl rfl ?_
  have t14_7 : ∀ (k8 : Nat) (x5 : Int) (x6 : Int), (-2147483648 ≤ x5 ∧ x5 ≤ 2147483647) → (-2147483648 ≤ x6 ∧ x6 ≤ 2147483647) → (x6 ≤ z4) → (x6 + 1 : Int).toNat = k8 → mj_T (D + 1) mj_m99 14 [some (.ref p0), some (.int (jn p1)), some (.int (jn x5)), some (.int (jn x6))] [] h (jQp K L R g n tm h [] (jVi (-2147483648) 2147483647)) := by
    refine jInd (fun k8 ih9 => ?_)
    intro x5 x6 rx5 rx6 ix6 hm10
    refine mj_T.pl rfl rfl rfl rfl ?_
    refine jT.if0 rfl rx6 (fun c15 => ?_) (fun c15 => ?_)
    · have c15 := of_decide_eq_true c15
      iterate 2 refine mj_T.pl rfl rfl rfl rfl ?_
      refine jT.irem rfl ⟨by decide, by decide⟩ (by decide) (fun z11 rz11 => ?_)
      exact jT.retp rfl rfl rfl ⟨z11, by omega, by omega, rfl⟩
    · have c15 := of_decide_eq_false c15
      iterate 2 refine mj_T.pl rfl rfl rfl rfl ?_
      refine jT.idiv rfl ⟨by decide, by decide⟩ (by decide) (fun z12 rz12 => ?_)
      refine mj_T.pl (loc' := [some (.ref p0), some (.int (jn p1)), some (.int (jn z12)), some (.int (jn x6))]) rfl rfl rfl rfl ?_
      refine jT.iinc rfl rfl (fun z13 rz13 ez13 => ?_)
      replace ez13 := ez13 ⟨by omega, by omega⟩
      refine mj_T.eq (loc2 := [some (.ref p0), some (.int (jn p1)), some (.int (jn z12)), some (.int (jn z13))]) ?_ rfl rfl rfl rfl
      refine mj_T.pl rfl rfl rfl rfl ?_
      exact ih9 ((z13 + 1 : Int).toNat) (by omega) z12 z13 rz12 rz13 (by omega) rfl
  exact t14_7 _ z3 z4 rz3 rz4 (by omega) rfl
-- PolyRegisters$Wide.lowBits()J
theorem jc_100 {D n : Nat} {tm : Int} {h g : mj_H} {K L : Nat → Nat} {R : Nat → Nat → Nat} {p0 : Nat} (ty : jTY K L R) (hg : g.length ≤ n) (o : jO K L R g n tm h) (kp0 : K p0 = 18) : mj_Ok (D + 1) 100 [.ref p0] h (jQp K L R g n tm h [] jVl) := by
  refine mj_Ok.of (M := mj_m100) (loc := [some (.ref p0), none, none, none]) rfl rfl rfl ?_
  refine jT.lc 0 rfl rfl ?_
  refine mj_T.pl (loc' := [some (.ref p0), some (.long (jl ((0 : Nat) : Int))), none, none]) rfl rfl rfl rfl ?_
  refine mj_T.pl rfl rfl rfl rfl ?_
  refine jT.getI 18 10 o rfl kp0 (by decide) rfl rfl rfl (fun z1 (az1 : 0 ≤ z1) (bz1 : z1 ≤ 1000) fz1 => ?_)
  have rz1 : -2147483648 ≤ z1 ∧ z1 ≤ 2147483647 := ⟨by omega, by omega⟩
  refine mj_T.pl rfl rfl rfl rfl ?_
  refine jT.isub rfl (fun z2 rz2 ez2 => ?_)
  replace ez2 := ez2 ⟨by omega, by omega⟩
  refine mj_T.pl (loc' := [some (.ref p0), some (.long (jl ((0 : Nat) : Int))), none, some (.int (jn z2))]) rfl rfl rfl rfl ?_
  have t9_5 : ∀ (k6 : Nat) (y3 : Int) (x4 : Int), (jR y3) → (-2147483648 ≤ x4 ∧ x4 ≤ 2147483647) → (x4 ≤ z2) → (x4 + 1 : Int).toNat = k6 → mj_T (D + 0) mj_m100 9 [some (.ref p0), some (.long (jl y3)), none, some (.int (jn x4))] [] h (jQp K L R g n tm h [] jVl) := by
    refine jInd (fun k6 ih7 => ?_)
    intro y3 x4 jy3 rx4 ix4 hm8
    refine mj_T.pl rfl rfl rfl rfl ?_
    have t42_9 : mj_T (D + 0) mj_m100 42 [some (.ref p0), some (.long (jl y3)), none, some (.int (jn x4))] [] h (jQp K L R g n tm h [] jVl) := by
      refine mj_T.pl rfl rfl rfl rfl ?_
      refine jT.getI 18 0 o rfl kp0 (by decide) rfl rfl rfl (fun z10 (az10 : (-2147483648) ≤ z10) (bz10 : z10 ≤ 2147483647) fz10 => ?_)
      have rz10 : -2147483648 ≤ z10 ∧ z10 ≤ 2147483647 := ⟨by omega, by omega⟩
      refine jT.if0 rfl rz10 (fun c46 => ?_) (fun c46 => ?_)
      · have c46 := of_decide_eq_true c46
        refine mj_T.pl rfl rfl rfl rfl ?_
        exact jT.retp rfl rfl rfl ⟨y3, jy3, rfl⟩
      · have c46 := of_decide_eq_false c46
        refine mj_T.pl rfl rfl rfl rfl ?_
        refine jT.lneg rfl (fun z11 jz11 _ => ?_)
        refine mj_T.pl rfl rfl rfl rfl ?_
        exact jT.retp rfl rfl rfl ⟨z11, jz11, rfl⟩
    refine jT.if0 rfl rx4 (fun c10 => ?_) (fun c10 => ?_)
    · have c10 := of_decide_eq_true c10
      exact t42_9 
    · have c10 := of_decide_eq_false c10
      iterate 2 refine mj_T.pl rfl rfl rfl rfl ?_
      refine jT.getR 18 101 1 ty o rfl kp0 (by decide) rfl rfl rfl (fun k12 => ?_)
      refine jT.alen 1 ty o rfl k12 (by decide) (by decide) (fun z13 ez13 (az13 : 0 ≤ z13) (bz13 : z13 ≤ 1000) => ?_)
      have rz13 : -2147483648 ≤ z13 ∧ z13 ≤ 2147483647 := ⟨by omega, by omega⟩
      refine jT.icmp rfl rx4 rz13 (fun c19 => ?_) (fun c19 => ?_)
      · have c19 := of_decide_eq_true c19
        exact t42_9 
      · have c19 := of_decide_eq_false c19
        refine mj_T.pl rfl rfl rfl rfl ?_
        refine jT.ldcL rfl ?_
        refine jT.lmul rfl (fun z14 jz14 _ => ?_)
        refine mj_T.pl rfl rfl rfl rfl ?_
        refine jT.getR 18 101 1 ty o rfl kp0 (by decide) rfl rfl rfl (fun k15 => ?_)
        refine mj_T.pl rfl rfl rfl rfl ?_
        refine jT.iald o rfl k15 rx4 ⟨by omega, by omega⟩ (fun z16 rz16 fz16 => ?_)
        refine jT.i2l rfl rz16 ?_
        have j17 : jR z16 := ⟨by omega, by omega⟩
        refine jT.ladd rfl (fun z18 jz18 _ => ?_)
        refine mj_T.pl (loc' := [some (.ref p0), some (.long (jl z18)), none, some (.int (jn x4))]) rfl rfl rfl rfl ?_
        refine jT.iinc rfl rfl (fun z19 rz19 ez19 => ?_)
        replace ez19 := ez19 ⟨by omega, by omega⟩
        refine mj_T.eq (loc2 := [some (.ref p0), some (.long (jl z18)), none, some (.int (jn z19))]) ?_ rfl rfl rfl rfl
        refine mj_T.pl rfl rfl rfl rfl ?_
        exact ih7 ((z19 + 1 : Int).toNat) (by omega) z18 z19 jz18 rz19 (by omega) rfl
  exact t9_5 _ ((0 : Nat) : Int) z2 ⟨by decide, by decide⟩ rz2 (by omega) rfl
-- PolyRegisters.areSameRows([J[J)Z
theorem jc_166 {D n : Nat} {tm : Int} {h g : mj_H} {K L : Nat → Nat} {R : Nat → Nat → Nat} {p0 : Nat} {p1 : Nat} (ty : jTY K L R) (hg : g.length ≤ n) (o : jO K L R g n tm h) (kp0 : K p0 = 2) (kp1 : K p1 = 2) : mj_Ok (D + 1) 166 [.ref p0, .ref p1] h (jQp K L R g n tm h [] (jVi 0 1)) := by
  refine mj_Ok.of (M := mj_m166) (loc := [some (.ref p0), some (.ref p1), none]) rfl rfl rfl ?_
  refine mj_T.pl rfl rfl rfl rfl ?_
  refine mj_T.pl (loc' := [some (.ref p0), some (.ref p1), some (.int (jn 0))]) rfl rfl rfl rfl ?_
  have t2_2 : ∀ (k3 : Nat) (x1 : Int), (-2147483648 ≤ x1 ∧ x1 ≤ 2147483647) → (0 ≤ x1) → (2147483647 - x1 : Int).toNat = k3 → mj_T (D + 0) mj_m166 2 [some (.ref p0), some (.ref p1), some (.int (jn x1))] [] h (jQp K L R g n tm h [] (jVi 0 1)) := by
    refine jInd (fun k3 ih4 => ?_)
    intro x1 rx1 ix1 hm5
    refine mj_T.pl rfl rfl rfl rfl ?_
    refine mj_T.pl rfl rfl rfl rfl ?_
    refine jT.alen 2 ty o rfl kp0 (by decide) (by decide) (fun z6 ez6 (az6 : 13 ≤ z6) (bz6 : z6 ≤ 13) => ?_)
    have rz6 : -2147483648 ≤ z6 ∧ z6 ≤ 2147483647 := ⟨by omega, by omega⟩
    have t32_7 : mj_T (D + 0) mj_m166 32 [some (.ref p0), some (.ref p1), some (.int (jn x1))] [] h (jQp K L R g n tm h [] (jVi 0 1)) := by
      refine mj_T.pl rfl rfl rfl rfl ?_
      refine jT.alen 2 ty o rfl kp0 (by decide) (by decide) (fun z8 ez8 (az8 : 13 ≤ z8) (bz8 : z8 ≤ 13) => ?_)
      have rz8 : -2147483648 ≤ z8 ∧ z8 ≤ 2147483647 := ⟨by omega, by omega⟩
      refine mj_T.pl rfl rfl rfl rfl ?_
      refine jT.alen 2 ty o rfl kp1 (by decide) (by decide) (fun z9 ez9 (az9 : 13 ≤ z9) (bz9 : z9 ≤ 13) => ?_)
      have rz9 : -2147483648 ≤ z9 ∧ z9 ≤ 2147483647 := ⟨by omega, by omega⟩
      refine jT.icmp rfl rz8 rz9 (fun c36 => ?_) (fun c36 => ?_)
      · have c36 := jne1 c36
        refine mj_T.pl rfl rfl rfl rfl ?_
        exact jT.retbp rfl rfl (by omega) (by omega)
      · have c36 := jne2 c36
        iterate 2 refine mj_T.pl rfl rfl rfl rfl ?_
        exact jT.retbp rfl rfl (by omega) (by omega)
    refine jT.icmp rfl rx1 rz6 (fun c5 => ?_) (fun c5 => ?_)
    · have c5 := of_decide_eq_true c5
      exact t32_7 
    · have c5 := of_decide_eq_false c5
      iterate 2 refine mj_T.pl rfl rfl rfl rfl ?_
      refine jT.alen 2 ty o rfl kp1 (by decide) (by decide) (fun z10 ez10 (az10 : 13 ≤ z10) (bz10 : z10 ≤ 13) => ?_)
      have rz10 : -2147483648 ≤ z10 ∧ z10 ≤ 2147483647 := ⟨by omega, by omega⟩
      refine jT.icmp rfl rx1 rz10 (fun c11 => ?_) (fun c11 => ?_)
      · have c11 := of_decide_eq_true c11
        exact t32_7 
      · have c11 := of_decide_eq_false c11
        iterate 2 refine mj_T.pl rfl rfl rfl rfl ?_
        refine jT.lald o rfl kp0 rx1 ⟨by omega, by omega⟩ (fun z11 jz11 => ?_)
        iterate 2 refine mj_T.pl rfl rfl rfl rfl ?_
        refine jT.lald o rfl kp1 rx1 ⟨by omega, by omega⟩ (fun z12 jz12 => ?_)
        refine mj_T.lif rfl rfl jz11 jz12 (fun c20 => ?_) (fun c20 => ?_)
        · have c20 := of_decide_eq_true c20
          refine jT.iinc rfl rfl (fun z13 rz13 ez13 => ?_)
          replace ez13 := ez13 ⟨by omega, by omega⟩
          refine mj_T.eq (loc2 := [some (.ref p0), some (.ref p1), some (.int (jn z13))]) ?_ rfl rfl rfl rfl
          refine mj_T.pl rfl rfl rfl rfl ?_
          exact ih4 ((2147483647 - z13 : Int).toNat) (by omega) z13 rz13 (by omega) rfl
        · have c20 := of_decide_eq_false c20
          refine mj_T.pl rfl rfl rfl rfl ?_
          exact jT.retbp rfl rfl (by omega) (by omega)
  exact t2_2 _ 0 ⟨by decide, by decide⟩ (by omega) rfl
-- PolyRegisters.sumRows([J[JI[J)Z
theorem jc_167 {D n : Nat} {tm : Int} {h g : mj_H} {K L : Nat → Nat} {R : Nat → Nat → Nat} {p0 : Nat} {p1 : Nat} {p2 : Int} {p3 : Nat} (ty : jTY K L R) (hg : g.length ≤ n) (o : jO K L R g n tm h) (kp0 : K p0 = 2) (kp1 : K p1 = 2) (rp2 : -2147483648 ≤ p2 ∧ p2 ≤ 2147483647) (kp3 : K p3 = 2) : mj_Ok (D + 2) 167 [.ref p0, .ref p1, .int (jn p2), .ref p3] h (jQ K L R g n tm [] (jVi 0 1)) := by
  refine mj_Ok.of (M := mj_m167) (loc := [some (.ref p0), some (.ref p1), some (.int (jn p2)), some (.ref p3), none, none]) rfl rfl rfl ?_
  refine mj_T.pl rfl rfl rfl rfl ?_
  refine mj_T.pl (loc' := [some (.ref p0), some (.ref p1), some (.int (jn p2)), some (.ref p3), some (.int (jn 1)), none]) rfl rfl rfl rfl ?_
  refine mj_T.pl rfl rfl rfl rfl ?_
  refine mj_T.pl (loc' := [some (.ref p0), some (.ref p1), some (.int (jn p2)), some (.ref p3), some (.int (jn 1)), some (.int (jn 0))]) rfl rfl rfl rfl ?_
  have t6_4 : ∀ (k5 : Nat) (x1 : Int) (x2 : Int) (h3 : mj_H), (0 ≤ x1 ∧ x1 ≤ 1) → (-2147483648 ≤ x2 ∧ x2 ≤ 2147483647) → (jO K L R g n tm h3) → (0 ≤ x2) → (2147483647 - x2 : Int).toNat = k5 → mj_T (D + 1) mj_m167 6 [some (.ref p0), some (.ref p1), some (.int (jn p2)), some (.ref p3), some (.int (jn x1)), some (.int (jn x2))] [] h3 (jQ K L R g n tm [] (jVi 0 1)) := by
    refine jInd (fun k5 ih6 => ?_)
    intro x1 x2 h3 ax1 rx2 oh3 ix2 hm7
    have rx1 : -2147483648 ≤ x1 ∧ x1 ≤ 2147483647 := ⟨by omega, by omega⟩
    refine mj_T.pl rfl rfl rfl rfl ?_
    refine mj_T.pl rfl rfl rfl rfl ?_
    refine jT.alen 2 ty oh3 rfl kp3 (by decide) (by decide) (fun z8 ez8 (az8 : 13 ≤ z8) (bz8 : z8 ≤ 13) => ?_)
    have rz8 : -2147483648 ≤ z8 ∧ z8 ≤ 2147483647 := ⟨by omega, by omega⟩
    refine jT.icmp rfl rx2 rz8 (fun c10 => ?_) (fun c10 => ?_)
    · have c10 := of_decide_eq_true c10
      refine mj_T.pl rfl rfl rfl rfl ?_
      exact jT.retb oh3 rfl rfl (by omega) (by omega)
    · have c10 := of_decide_eq_false c10
      iterate 2 refine mj_T.pl rfl rfl rfl rfl ?_
      refine jT.alen 2 ty oh3 rfl kp0 (by decide) (by decide) (fun z9 ez9 (az9 : 13 ≤ z9) (bz9 : z9 ≤ 13) => ?_)
      have rz9 : -2147483648 ≤ z9 ∧ z9 ≤ 2147483647 := ⟨by omega, by omega⟩
      refine jT.icmp rfl rx2 rz9 (fun c17 => ?_) (fun c17 => ?_)
      · have c17 := of_decide_eq_true c17
        refine mj_T.pl rfl rfl rfl rfl ?_
        exact jT.retb oh3 rfl rfl (by omega) (by omega)
      · have c17 := of_decide_eq_false c17
        iterate 2 refine mj_T.pl rfl rfl rfl rfl ?_
        refine jT.alen 2 ty oh3 rfl kp1 (by decide) (by decide) (fun z10 ez10 (az10 : 13 ≤ z10) (bz10 : z10 ≤ 13) => ?_)
        have rz10 : -2147483648 ≤ z10 ∧ z10 ≤ 2147483647 := ⟨by omega, by omega⟩
        refine jT.icmp rfl rx2 rz10 (fun c24 => ?_) (fun c24 => ?_)
        · have c24 := of_decide_eq_true c24
          refine mj_T.pl rfl rfl rfl rfl ?_
          exact jT.retb oh3 rfl rfl (by omega) (by omega)
        · have c24 := of_decide_eq_false c24
          iterate 4 refine mj_T.pl rfl rfl rfl rfl ?_
          refine jT.lald oh3 rfl kp0 rx2 ⟨by omega, by omega⟩ (fun z11 jz11 => ?_)
          refine mj_T.pl rfl rfl rfl rfl ?_
          refine jT.i2l rfl rp2 ?_
          have j12 : jR p2 := ⟨by omega, by omega⟩
          iterate 2 refine mj_T.pl rfl rfl rfl rfl ?_
          refine jT.lald oh3 rfl kp1 rx2 ⟨by omega, by omega⟩ (fun z13 jz13 => ?_)
          refine jT.lmul rfl (fun z14 jz14 _ => ?_)
          refine jT.ladd rfl (fun z15 jz15 _ => ?_)
          refine jT.last oh3 rfl kp3 rx2 ⟨by omega, by omega⟩ jz15 (fun h16 oh16 uh16 => ?_)
          refine mj_T.pl rfl rfl rfl rfl ?_
          refine jT.if0 rfl rx1 (fun c45 => ?_) (fun c45 => ?_)
          · have c45 := of_decide_eq_true c45
            refine mj_T.pl rfl rfl rfl rfl ?_
            refine mj_T.pl (loc' := [some (.ref p0), some (.ref p1), some (.int (jn p2)), some (.ref p3), some (.int (jn 0)), some (.int (jn x2))]) rfl rfl rfl rfl ?_
            refine jT.iinc rfl rfl (fun z17 rz17 ez17 => ?_)
            replace ez17 := ez17 ⟨by omega, by omega⟩
            refine mj_T.eq (loc2 := [some (.ref p0), some (.ref p1), some (.int (jn p2)), some (.ref p3), some (.int (jn 0)), some (.int (jn z17))]) ?_ rfl rfl rfl rfl
            refine mj_T.pl rfl rfl rfl rfl ?_
            exact ih6 ((2147483647 - z17 : Int).toNat) (by omega) 0 z17 h16 ⟨by omega, by omega⟩ rz17 oh16 (by omega) rfl
          · have c45 := of_decide_eq_false c45
            iterate 2 refine mj_T.pl rfl rfl rfl rfl ?_
            refine jT.lald oh16 rfl kp3 rx2 ⟨by omega, by omega⟩ (fun z18 jz18 => ?_)
            refine jT.callp rfl rfl (Nat.le_of_ble_eq_true rfl) (Nat.le_of_ble_eq_true rfl) rfl rfl (mj_Ok.up (Nat.add_le_add_left (by decide) D) (jc_161 (D := D) ty hg oh16 jz18)) rfl rfl (fun v19 qv19 => ?_)
            obtain ⟨z20, az20, bz20, rfl⟩ := qv19
            have rz20 : -2147483648 ≤ z20 ∧ z20 ≤ 2147483647 := ⟨by omega, by omega⟩
            refine mj_T.eq (pc2 := 55) (st2 := [.int (jn z20)]) ?_ rfl rfl rfl rfl
            refine jT.if0 rfl rz20 (fun c55 => ?_) (fun c55 => ?_)
            · have c55 := of_decide_eq_true c55
              refine mj_T.pl rfl rfl rfl rfl ?_
              refine mj_T.pl (loc' := [some (.ref p0), some (.ref p1), some (.int (jn p2)), some (.ref p3), some (.int (jn 0)), some (.int (jn x2))]) rfl rfl rfl rfl ?_
              refine jT.iinc rfl rfl (fun z21 rz21 ez21 => ?_)
              replace ez21 := ez21 ⟨by omega, by omega⟩
              refine mj_T.eq (loc2 := [some (.ref p0), some (.ref p1), some (.int (jn p2)), some (.ref p3), some (.int (jn 0)), some (.int (jn z21))]) ?_ rfl rfl rfl rfl
              refine mj_T.pl rfl rfl rfl rfl ?_
              exact ih6 ((2147483647 - z21 : Int).toNat) (by omega) 0 z21 h16 ⟨by omega, by omega⟩ rz21 oh16 (by omega) rfl
            · have c55 := of_decide_eq_false c55
              iterate 2 refine mj_T.pl rfl rfl rfl rfl ?_
              refine mj_T.pl (loc' := [some (.ref p0), some (.ref p1), some (.int (jn p2)), some (.ref p3), some (.int (jn 1)), some (.int (jn x2))]) rfl rfl rfl rfl ?_
              refine jT.iinc rfl rfl (fun z22 rz22 ez22 => ?_)
              replace ez22 := ez22 ⟨by omega, by omega⟩
              refine mj_T.eq (loc2 := [some (.ref p0), some (.ref p1), some (.int (jn p2)), some (.ref p3), some (.int (jn 1)), some (.int (jn z22))]) ?_ rfl rfl rfl rfl
              refine mj_T.pl rfl rfl rfl rfl ?_
              exact ih6 ((2147483647 - z22 : Int).toNat) (by omega) 1 z22 h16 ⟨by omega, by omega⟩ rz22 oh16 (by omega) rfl
  exact t6_4 _ 1 0 h ⟨by omega, by omega⟩ ⟨by decide, by decide⟩ o (by omega) rfl
-- PolyRegisters.deriveRow([J[J)Z
theorem jc_168 {D n : Nat} {tm : Int} {h g : mj_H} {K L : Nat → Nat} {R : Nat → Nat → Nat} {p0 : Nat} {p1 : Nat} (ty : jTY K L R) (hg : g.length ≤ n) (o : jO K L R g n tm h) (kp0 : K p0 = 2) (kp1 : K p1 = 2) : mj_Ok (D + 2) 168 [.ref p0, .ref p1] h (jQ K L R g n tm [] (jVi 0 1)) := by
  refine mj_Ok.of (M := mj_m168) (loc := [some (.ref p0), some (.ref p1), none]) rfl rfl rfl ?_
  refine mj_T.pl rfl rfl rfl rfl ?_
  refine jT.call rfl rfl (Nat.le_of_ble_eq_true rfl) (Nat.le_of_ble_eq_true rfl) rfl rfl (mj_Ok.up (Nat.add_le_add_left (by decide) D) (jc_165 (D := D) ty hg o kp1)) rfl rfl (fun v1 h2 qv1 oh2 => ?_)
  obtain rfl : v1 = none := qv1
  refine mj_T.eq (pc2 := 4) (st2 := []) ?_ rfl rfl rfl rfl
  refine mj_T.pl rfl rfl rfl rfl ?_
  refine mj_T.pl (loc' := [some (.ref p0), some (.ref p1), some (.int (jn 1))]) rfl rfl rfl rfl ?_
  have t6_5 : ∀ (k6 : Nat) (x3 : Int) (h4 : mj_H), (-2147483648 ≤ x3 ∧ x3 ≤ 2147483647) → (jO K L R g n tm h4) → (1 ≤ x3) → (2147483647 - x3 : Int).toNat = k6 → mj_T (D + 1) mj_m168 6 [some (.ref p0), some (.ref p1), some (.int (jn x3))] [] h4 (jQ K L R g n tm [] (jVi 0 1)) := by
    refine jInd (fun k6 ih7 => ?_)
    intro x3 h4 rx3 oh4 ix3 hm8
    refine mj_T.pl rfl rfl rfl rfl ?_
    refine mj_T.pl rfl rfl rfl rfl ?_
    refine jT.alen 2 ty oh4 rfl kp0 (by decide) (by decide) (fun z9 ez9 (az9 : 13 ≤ z9) (bz9 : z9 ≤ 13) => ?_)
    have rz9 : -2147483648 ≤ z9 ∧ z9 ≤ 2147483647 := ⟨by omega, by omega⟩
    refine jT.icmp rfl rx3 rz9 (fun c9 => ?_) (fun c9 => ?_)
    · have c9 := of_decide_eq_true c9
      refine mj_T.pl rfl rfl rfl rfl ?_
      exact jT.retb oh4 rfl rfl (by omega) (by omega)
    · have c9 := of_decide_eq_false c9
      iterate 2 refine mj_T.pl rfl rfl rfl rfl ?_
      refine jT.alen 2 ty oh4 rfl kp1 (by decide) (by decide) (fun z10 ez10 (az10 : 13 ≤ z10) (bz10 : z10 ≤ 13) => ?_)
      have rz10 : -2147483648 ≤ z10 ∧ z10 ≤ 2147483647 := ⟨by omega, by omega⟩
      refine jT.icmp rfl rx3 rz10 (fun c15 => ?_) (fun c15 => ?_)
      · have c15 := of_decide_eq_true c15
        refine mj_T.pl rfl rfl rfl rfl ?_
        exact jT.retb oh4 rfl rfl (by omega) (by omega)
      · have c15 := of_decide_eq_false c15
        iterate 2 refine mj_T.pl rfl rfl rfl rfl ?_
        refine jT.lald oh4 rfl kp0 rx3 ⟨by omega, by omega⟩ (fun z11 jz11 => ?_)
        refine jT.ldcL rfl ?_
        refine mj_T.pl rfl rfl rfl rfl ?_
        refine jT.i2l rfl rx3 ?_
        have j12 : jR x3 := ⟨by omega, by omega⟩
        refine jT.ldiv rfl j12 (by omega) (fun z13 jz13 => ?_)
        refine mj_T.lif rfl rfl jz11 jz13 (fun c27 => ?_) (fun c27 => ?_)
        · have c27 := of_decide_eq_true c27
          refine mj_T.pl rfl rfl rfl rfl ?_
          exact jT.retb oh4 rfl rfl (by omega) (by omega)
        · have c27 := of_decide_eq_false c27
          iterate 2 refine mj_T.pl rfl rfl rfl rfl ?_
          refine jT.lald oh4 rfl kp0 rx3 ⟨by omega, by omega⟩ (fun z14 jz14 => ?_)
          refine jT.ldcL rfl ?_
          refine mj_T.pl rfl rfl rfl rfl ?_
          refine jT.i2l rfl rx3 ?_
          have j15 : jR x3 := ⟨by omega, by omega⟩
          refine jT.ldiv rfl j15 (by omega) (fun z16 jz16 => ?_)
          refine jT.lneg rfl (fun z17 jz17 _ => ?_)
          refine mj_T.lif rfl rfl jz14 jz17 (fun c41 => ?_) (fun c41 => ?_)
          · have c41 := of_decide_eq_true c41
            iterate 3 refine mj_T.pl rfl rfl rfl rfl ?_
            refine jT.isub rfl (fun z18 rz18 ez18 => ?_)
            replace ez18 := ez18 ⟨by omega, by omega⟩
            iterate 2 refine mj_T.pl rfl rfl rfl rfl ?_
            refine jT.lald oh4 rfl kp0 rx3 ⟨by omega, by omega⟩ (fun z19 jz19 => ?_)
            refine mj_T.pl rfl rfl rfl rfl ?_
            refine jT.i2l rfl rx3 ?_
            have j20 : jR x3 := ⟨by omega, by omega⟩
            refine jT.lmul rfl (fun z21 jz21 _ => ?_)
            refine jT.last oh4 rfl kp1 rz18 ⟨by omega, by omega⟩ jz21 (fun h22 oh22 uh22 => ?_)
            refine jT.iinc rfl rfl (fun z23 rz23 ez23 => ?_)
            replace ez23 := ez23 ⟨by omega, by omega⟩
            refine mj_T.eq (loc2 := [some (.ref p0), some (.ref p1), some (.int (jn z23))]) ?_ rfl rfl rfl rfl
            refine mj_T.pl rfl rfl rfl rfl ?_
            exact ih7 ((2147483647 - z23 : Int).toNat) (by omega) z23 h22 rz23 oh22 (by omega) rfl
          · have c41 := of_decide_eq_false c41
            refine mj_T.pl rfl rfl rfl rfl ?_
            exact jT.retb oh4 rfl rfl (by omega) (by omega)
  exact t6_5 _ 1 h2 ⟨by decide, by decide⟩ oh2 (by omega) rfl
-- PolyRegisters.contentOf([J)J
theorem jc_169 {D n : Nat} {tm : Int} {h g : mj_H} {K L : Nat → Nat} {R : Nat → Nat → Nat} {p0 : Nat} (ty : jTY K L R) (hg : g.length ≤ n) (o : jO K L R g n tm h) (kp0 : K p0 = 2) : mj_Ok (D + 2) 169 [.ref p0] h (jQp K L R g n tm h [] jVl) := by
  refine mj_Ok.of (M := mj_m169) (loc := [some (.ref p0), none, none, none]) rfl rfl rfl ?_
  refine jT.lc 0 rfl rfl ?_
  refine mj_T.pl (loc' := [some (.ref p0), some (.long (jl ((0 : Nat) : Int))), none, none]) rfl rfl rfl rfl ?_
  refine mj_T.pl rfl rfl rfl rfl ?_
  refine mj_T.pl (loc' := [some (.ref p0), some (.long (jl ((0 : Nat) : Int))), none, some (.int (jn 0))]) rfl rfl rfl rfl ?_
  have t4_3 : ∀ (k4 : Nat) (y1 : Int) (x2 : Int), (jR y1) → (-2147483648 ≤ x2 ∧ x2 ≤ 2147483647) → (0 ≤ x2) → (2147483647 - x2 : Int).toNat = k4 → mj_T (D + 1) mj_m169 4 [some (.ref p0), some (.long (jl y1)), none, some (.int (jn x2))] [] h (jQp K L R g n tm h [] jVl) := by
    refine jInd (fun k4 ih5 => ?_)
    intro y1 x2 jy1 rx2 ix2 hm6
    refine mj_T.pl rfl rfl rfl rfl ?_
    refine mj_T.pl rfl rfl rfl rfl ?_
    refine jT.alen 2 ty o rfl kp0 (by decide) (by decide) (fun z7 ez7 (az7 : 13 ≤ z7) (bz7 : z7 ≤ 13) => ?_)
    have rz7 : -2147483648 ≤ z7 ∧ z7 ≤ 2147483647 := ⟨by omega, by omega⟩
    refine jT.icmp rfl rx2 rz7 (fun c7 => ?_) (fun c7 => ?_)
    · have c7 := of_decide_eq_true c7
      refine mj_T.pl rfl rfl rfl rfl ?_
      exact jT.retp rfl rfl rfl ⟨y1, jy1, rfl⟩
    · have c7 := of_decide_eq_false c7
      iterate 3 refine mj_T.pl rfl rfl rfl rfl ?_
      refine jT.lald o rfl kp0 rx2 ⟨by omega, by omega⟩ (fun z8 jz8 => ?_)
      refine jT.callpp rfl rfl (Nat.le_of_ble_eq_true rfl) (Nat.le_of_ble_eq_true rfl) rfl rfl (mj_Ok.up (Nat.add_le_add_left (by decide) D) (jc_171 (D := D) ty hg o jy1 jz8)) rfl rfl (fun v9 qv9 => ?_)
      obtain ⟨z10, jz10, rfl⟩ := qv9
      refine mj_T.eq (pc2 := 17) (st2 := [.long (jl z10)]) ?_ rfl rfl rfl rfl
      refine mj_T.pl (loc' := [some (.ref p0), some (.long (jl z10)), none, some (.int (jn x2))]) rfl rfl rfl rfl ?_
      refine jT.iinc rfl rfl (fun z11 rz11 ez11 => ?_)
      replace ez11 := ez11 ⟨by omega, by omega⟩
      refine mj_T.eq (loc2 := [some (.ref p0), some (.long (jl z10)), none, some (.int (jn z11))]) ?_ rfl rfl rfl rfl
      refine mj_T.pl rfl rfl rfl rfl ?_
      exact ih5 ((2147483647 - z11 : Int).toNat) (by omega) z10 z11 jz10 rz11 (by omega) rfl
  exact t4_3 _ ((0 : Nat) : Int) 0 ⟨by decide, by decide⟩ ⟨by decide, by decide⟩ (by omega) rfl
-- PolyRegisters.signedContentOf([J)J
theorem jc_170 {D n : Nat} {tm : Int} {h g : mj_H} {K L : Nat → Nat} {R : Nat → Nat → Nat} {p0 : Nat} (ty : jTY K L R) (hg : g.length ≤ n) (o : jO K L R g n tm h) (kp0 : K p0 = 2) : mj_Ok (D + 3) 170 [.ref p0] h (jQp K L R g n tm h [] jVl) := by
  refine mj_Ok.of (M := mj_m170) (loc := [some (.ref p0), none, none, none]) rfl rfl rfl ?_
  refine mj_T.pl rfl rfl rfl rfl ?_
  refine jT.callpp rfl rfl (Nat.le_of_ble_eq_true rfl) (Nat.le_of_ble_eq_true rfl) rfl rfl (mj_Ok.up (Nat.add_le_add_left (by decide) D) (jc_162 (D := D) ty hg o kp0)) rfl rfl (fun v1 qv1 => ?_)
  obtain ⟨z2, az2, bz2, rfl⟩ := qv1
  have rz2 : -2147483648 ≤ z2 ∧ z2 ≤ 2147483647 := ⟨by omega, by omega⟩
  refine mj_T.eq (pc2 := 4) (st2 := [.int (jn z2)]) ?_ rfl rfl rfl rfl
  refine mj_T.pl (loc' := [some (.ref p0), some (.int (jn z2)), none, none]) rfl rfl rfl rfl ?_
  refine mj_T.pl rfl rfl rfl rfl ?_
  refine jT.callpp rfl rfl (Nat.le_of_ble_eq_true rfl) (Nat.le_of_ble_eq_true rfl) rfl rfl (mj_Ok.up (Nat.add_le_add_left (by decide) D) (jc_169 (D := D) ty hg o kp0)) rfl rfl (fun v3 qv3 => ?_)
  obtain ⟨z4, jz4, rfl⟩ := qv3
  refine mj_T.eq (pc2 := 9) (st2 := [.long (jl z4)]) ?_ rfl rfl rfl rfl
  refine mj_T.pl (loc' := [some (.ref p0), some (.int (jn z2)), some (.long (jl z4)), none]) rfl rfl rfl rfl ?_
  refine mj_T.pl rfl rfl rfl rfl ?_
  refine jT.if0 rfl rz2 (fun c11 => ?_) (fun c11 => ?_)
  · have c11 := of_decide_eq_true c11
    refine mj_T.pl rfl rfl rfl rfl ?_
    exact jT.retp rfl rfl rfl ⟨z4, jz4, rfl⟩
  · have c11 := of_decide_eq_false c11
    iterate 2 refine mj_T.pl rfl rfl rfl rfl ?_
    have l5 : 13 ≤ (L p0 : Int) ∧ (L p0 : Int) ≤ 13 := jlen 2 ty kp0 (by decide) (by decide)
    refine jT.lald o rfl kp0 rz2 ⟨by omega, by omega⟩ (fun z6 jz6 => ?_)
    refine jT.lc 0 rfl rfl ?_
    refine mj_T.lif rfl rfl jz6 ⟨by decide, by decide⟩ (fun c18 => ?_) (fun c18 => ?_)
    · have c18 := of_decide_eq_true c18
      refine mj_T.pl rfl rfl rfl rfl ?_
      exact jT.retp rfl rfl rfl ⟨z4, jz4, rfl⟩
    · have c18 := of_decide_eq_false c18
      refine mj_T.pl rfl rfl rfl rfl ?_
      refine jT.lneg rfl (fun z7 jz7 _ => ?_)
      refine mj_T.pl rfl rfl rfl rfl ?_
      exact jT.retp rfl rfl rfl ⟨z7, jz7, rfl⟩
-- PolyRegisters.residueOf(JI)I
theorem jc_172 {D n : Nat} {tm : Int} {h g : mj_H} {K L : Nat → Nat} {R : Nat → Nat → Nat} {p0 : Int} {p1 : Int} (ty : jTY K L R) (hg : g.length ≤ n) (o : jO K L R g n tm h) (jp0 : jR p0) (rp1 : -2147483648 ≤ p1 ∧ p1 ≤ 2147483647) : mj_Ok (D + 1) 172 [.long (jl p0), .int (jn p1)] h (jQp K L R g n tm h [] (jVi (-2147483648) 2147483647)) := by
  refine mj_Ok.of (M := mj_m172) (loc := [some (.long (jl p0)), none, some (.int (jn p1)), none, none]) rfl rfl rfl ?_
  refine mj_T.pl rfl rfl rfl rfl ?_
  have t12_2 : ∀ (y1 : Int), (jR y1) → mj_T (D + 0) mj_m172 12 [some (.long (jl p0)), none, some (.int (jn p1)), none, none] [.long (jl y1)] h (jQp K L R g n tm h [] (jVi (-2147483648) 2147483647)) := by
    intro y1 jy1
    refine mj_T.pl (loc' := [some (.long (jl p0)), none, some (.int (jn p1)), some (.long (jl y1)), none]) rfl rfl rfl rfl ?_
    refine mj_T.pl rfl rfl rfl rfl ?_
    refine jT.lc 0 rfl rfl ?_
    refine mj_T.lif rfl rfl jy1 ⟨by decide, by decide⟩ (fun c15 => ?_) (fun c15 => ?_)
    · have c15 := of_decide_eq_true c15
      refine mj_T.pl rfl rfl rfl rfl ?_
      refine jT.l2i rfl (fun z3 rz3 _ => ?_)
      exact jT.retp rfl rfl rfl ⟨z3, by omega, by omega, rfl⟩
    · have c15 := of_decide_eq_false c15
      iterate 2 refine mj_T.pl rfl rfl rfl rfl ?_
      refine jT.i2l rfl rp1 ?_
      have j4 : jR p1 := ⟨by omega, by omega⟩
      refine jT.ladd rfl (fun z5 jz5 _ => ?_)
      refine mj_T.pl rfl rfl rfl rfl ?_
      refine jT.l2i rfl (fun z6 rz6 _ => ?_)
      exact jT.retp rfl rfl rfl ⟨z6, by omega, by omega, rfl⟩
  refine jT.if0 rfl rp1 (fun c1 => ?_) (fun c1 => ?_)
  · have c1 := of_decide_eq_true c1
    iterate 2 refine mj_T.pl rfl rfl rfl rfl ?_
    refine jT.i2l rfl rp1 ?_
    have j7 : jR p1 := ⟨by omega, by omega⟩
    refine jT.lrem rfl j7 (by omega) (fun z8 jz8 => ?_)
    exact t12_2 z8 jz8
  · have c1 := of_decide_eq_false c1
    refine jT.lc 0 rfl rfl ?_
    refine mj_T.pl rfl rfl rfl rfl ?_
    exact t12_2 ((0 : Nat) : Int) ⟨by decide, by decide⟩
-- PolyRegisters.valueBy([JII)I
theorem jc_173 {D n : Nat} {tm : Int} {h g : mj_H} {K L : Nat → Nat} {R : Nat → Nat → Nat} {p0 : Nat} {p1 : Int} {p2 : Int} (ty : jTY K L R) (hg : g.length ≤ n) (o : jO K L R g n tm h) (kp0 : K p0 = 2) (rp1 : -2147483648 ≤ p1 ∧ p1 ≤ 2147483647) (rp2 : -2147483648 ≤ p2 ∧ p2 ≤ 2147483647) : mj_Ok (D + 2) 173 [.ref p0, .int (jn p1), .int (jn p2)] h (jQp K L R g n tm h [] (jVi (-2147483648) 2147483647)) := by
  refine mj_Ok.of (M := mj_m173) (loc := [some (.ref p0), some (.int (jn p1)), some (.int (jn p2)), none, none]) rfl rfl rfl ?_
  refine mj_T.pl rfl rfl rfl rfl ?_
  refine mj_T.pl (loc' := [some (.ref p0), some (.int (jn p1)), some (.int (jn p2)), some (.int (jn 0)), none]) rfl rfl rfl rfl ?_
  refine mj_T.pl rfl rfl rfl rfl ?_
  refine jT.alen 2 ty o rfl kp0 (by decide) (by decide) (fun z1 ez1 (az1 : 13 ≤ z1) (bz1 : z1 ≤ 13) => ?_)
  have rz1 : -2147483648 ≤ z1 ∧ z1 ≤ 2147483647 := ⟨by omega, by omega⟩
  refine mj_T.pl rfl rfl rfl rfl ?_
  refine jT.isub rfl (fun z2 rz2 ez2 => ?_)
  replace ez2 := ez2 ⟨by omega, by omega⟩
  refine mj_T.pl (loc' := [some (.ref p0), some (.int (jn p1)), some (.int (jn p2)), some (.int (jn 0)), some (.int (jn z2))]) rfl rfl rfl rfl ?_
  have t8_5 : ∀ (k6 : Nat) (x3 : Int) (x4 : Int), (-2147483648 ≤ x3 ∧ x3 ≤ 2147483647) → (-2147483648 ≤ x4 ∧ x4 ≤ 2147483647) → (x4 ≤ z2) → (x4 + 1 : Int).toNat = k6 → mj_T (D + 1) mj_m173 8 [some (.ref p0), some (.int (jn p1)), some (.int (jn p2)), some (.int (jn x3)), some (.int (jn x4))] [] h (jQp K L R g n tm h [] (jVi (-2147483648) 2147483647)) := by
    refine jInd (fun k6 ih7 => ?_)
    intro x3 x4 rx3 rx4 ix4 hm8
    refine mj_T.pl rfl rfl rfl rfl ?_
    refine jT.if0 rfl rx4 (fun c10 => ?_) (fun c10 => ?_)
    · have c10 := of_decide_eq_true c10
      refine mj_T.pl rfl rfl rfl rfl ?_
      exact jT.retp rfl rfl rfl ⟨x3, by omega, by omega, rfl⟩
    · have c10 := of_decide_eq_false c10
      refine mj_T.pl rfl rfl rfl rfl ?_
      refine jT.i2l rfl rx3 ?_
      have j9 : jR x3 := ⟨by omega, by omega⟩
      refine mj_T.pl rfl rfl rfl rfl ?_
      refine jT.i2l rfl rp1 ?_
      have j10 : jR p1 := ⟨by omega, by omega⟩
      refine jT.lmul rfl (fun z11 jz11 _ => ?_)
      iterate 2 refine mj_T.pl rfl rfl rfl rfl ?_
      refine jT.lald o rfl kp0 rx4 ⟨by omega, by omega⟩ (fun z12 jz12 => ?_)
      refine mj_T.pl rfl rfl rfl rfl ?_
      refine jT.callpp rfl rfl (Nat.le_of_ble_eq_true rfl) (Nat.le_of_ble_eq_true rfl) rfl rfl (mj_Ok.up (Nat.add_le_add_left (by decide) D) (jc_172 (D := D) ty hg o jz12 rp2)) rfl rfl (fun v13 qv13 => ?_)
      obtain ⟨z14, az14, bz14, rfl⟩ := qv13
      have rz14 : -2147483648 ≤ z14 ∧ z14 ≤ 2147483647 := ⟨by omega, by omega⟩
      refine mj_T.eq (pc2 := 26) (st2 := [.int (jn z14), .long (jl z11)]) ?_ rfl rfl rfl rfl
      refine jT.i2l rfl rz14 ?_
      have j15 : jR z14 := ⟨by omega, by omega⟩
      refine jT.ladd rfl (fun z16 jz16 _ => ?_)
      refine mj_T.pl rfl rfl rfl rfl ?_
      refine jT.callpp rfl rfl (Nat.le_of_ble_eq_true rfl) (Nat.le_of_ble_eq_true rfl) rfl rfl (mj_Ok.up (Nat.add_le_add_left (by decide) D) (jc_172 (D := D) ty hg o jz16 rp2)) rfl rfl (fun v17 qv17 => ?_)
      obtain ⟨z18, az18, bz18, rfl⟩ := qv17
      have rz18 : -2147483648 ≤ z18 ∧ z18 ≤ 2147483647 := ⟨by omega, by omega⟩
      refine mj_T.eq (pc2 := 32) (st2 := [.int (jn z18)]) ?_ rfl rfl rfl rfl
      refine mj_T.pl (loc' := [some (.ref p0), some (.int (jn p1)), some (.int (jn p2)), some (.int (jn z18)), some (.int (jn x4))]) rfl rfl rfl rfl ?_
      refine jT.iinc rfl rfl (fun z19 rz19 ez19 => ?_)
      replace ez19 := ez19 ⟨by omega, by omega⟩
      refine mj_T.eq (loc2 := [some (.ref p0), some (.int (jn p1)), some (.int (jn p2)), some (.int (jn z18)), some (.int (jn z19))]) ?_ rfl rfl rfl rfl
      refine mj_T.pl rfl rfl rfl rfl ?_
      exact ih7 ((z19 + 1 : Int).toNat) (by omega) z18 z19 rz18 rz19 (by omega) rfl
  exact t8_5 _ 0 z2 ⟨by decide, by decide⟩ rz2 (by omega) rfl
/-! The class by kinds: its methods. -/
-- PolyRegisters$Poly.at(I)LPolyRegisters$Wide;
theorem jc_36 {D n : Nat} {tm : Int} {h g : mj_H} {K L : Nat → Nat} {R : Nat → Nat → Nat} {p0 : Nat} {p1 : Int} (ty : jTY K L R) (hg : g.length ≤ n) (o : jO K L R g n tm h) (kp0 : K p0 = 13) (rp1 : -2147483648 ≤ p1 ∧ p1 ≤ 2147483647) : mj_Ok (D + 1) 36 [.ref p0, .int (jn p1)] h (jQp K L R g n tm h [] (jVr K 18)) := by
  refine mj_Ok.of (M := mj_m36) (loc := [some (.ref p0), some (.int (jn p1))]) rfl rfl rfl ?_
  refine mj_T.pl rfl rfl rfl rfl ?_
  refine jT.if0 rfl rp1 (fun c1 => ?_) (fun c1 => ?_)
  · have c1 := of_decide_eq_true c1
    refine mj_T.pl rfl rfl rfl rfl ?_
    refine jT.getR 13 118 18 ty o rfl kp0 (by decide) rfl rfl rfl (fun k1 => ?_)
    exact jT.retp rfl rfl rfl ⟨(R p0 1), k1, rfl⟩
  · have c1 := of_decide_eq_false c1
    iterate 2 refine mj_T.pl rfl rfl rfl rfl ?_
    refine jT.getR 13 104 4 ty o rfl kp0 (by decide) rfl rfl rfl (fun k2 => ?_)
    refine jT.alen 4 ty o rfl k2 (by decide) (by decide) (fun z3 ez3 (az3 : 1 ≤ z3) (bz3 : z3 ≤ 25) => ?_)
    have rz3 : -2147483648 ≤ z3 ∧ z3 ≤ 2147483647 := ⟨by omega, by omega⟩
    refine jT.icmp rfl rp1 rz3 (fun c10 => ?_) (fun c10 => ?_)
    · have c10 := of_decide_eq_true c10
      refine mj_T.pl rfl rfl rfl rfl ?_
      refine jT.getR 13 118 18 ty o rfl kp0 (by decide) rfl rfl rfl (fun k4 => ?_)
      exact jT.retp rfl rfl rfl ⟨(R p0 1), k4, rfl⟩
    · have c10 := of_decide_eq_false c10
      refine mj_T.pl rfl rfl rfl rfl ?_
      refine jT.getR 13 104 4 ty o rfl kp0 (by decide) rfl rfl rfl (fun k5 => ?_)
      refine mj_T.pl rfl rfl rfl rfl ?_
      refine jT.aald 4 18 ty o rfl k5 (by decide) (by decide) rfl rp1 ⟨by omega, by omega⟩ (fun k6 => ?_)
      refine mj_T.pl rfl rfl rfl rfl ?_
      exact jT.retp rfl rfl rfl ⟨(R (R p0 0) (p1 : Int).toNat), k6, rfl⟩
-- PolyRegisters$Poly.lead()LPolyRegisters$Wide;
theorem jc_37 {D n : Nat} {tm : Int} {h g : mj_H} {K L : Nat → Nat} {R : Nat → Nat → Nat} {p0 : Nat} (ty : jTY K L R) (hg : g.length ≤ n) (o : jO K L R g n tm h) (kp0 : K p0 = 13) : mj_Ok (D + 2) 37 [.ref p0] h (jQp K L R g n tm h [] (jVr K 18)) := by
  refine mj_Ok.of (M := mj_m37) (loc := [some (.ref p0)]) rfl rfl rfl ?_
  iterate 2 refine mj_T.pl rfl rfl rfl rfl ?_
  refine jT.getI 13 6 o rfl kp0 (by decide) rfl rfl rfl (fun z1 (az1 : (-1) ≤ z1) (bz1 : z1 ≤ 30) fz1 => ?_)
  have rz1 : -2147483648 ≤ z1 ∧ z1 ≤ 2147483647 := ⟨by omega, by omega⟩
  refine jT.callpp rfl rfl (Nat.le_of_ble_eq_true rfl) (Nat.le_of_ble_eq_true rfl) (jrv_of o kp0 (by decide) rfl (by decide) rfl _) rfl (mj_Ok.up (Nat.add_le_add_left (by decide) D) (jc_36 (D := D) ty hg o kp0 rz1)) rfl rfl (fun v2 qv2 => ?_)
  obtain ⟨a3, ka3, rfl⟩ := qv2
  refine mj_T.eq (pc2 := 8) (st2 := [.ref a3]) ?_ rfl rfl rfl rfl
  exact jT.retp rfl rfl rfl ⟨a3, ka3, rfl⟩
-- PolyRegisters$Poly.highest()I
theorem jc_38 {D n : Nat} {tm : Int} {h g : mj_H} {K L : Nat → Nat} {R : Nat → Nat → Nat} {p0 : Nat} (ty : jTY K L R) (hg : g.length ≤ n) (o : jO K L R g n tm h) (kp0 : K p0 = 13) : mj_Ok (D + 1) 38 [.ref p0] h (jQp K L R g n tm h [] (jVi 0 24)) := by
  refine mj_Ok.of (M := mj_m38) (loc := [some (.ref p0)]) rfl rfl rfl ?_
  refine mj_T.pl rfl rfl rfl rfl ?_
  refine jT.getR 13 104 4 ty o rfl kp0 (by decide) rfl rfl rfl (fun k1 => ?_)
  refine jT.alen 4 ty o rfl k1 (by decide) (by decide) (fun z2 ez2 (az2 : 1 ≤ z2) (bz2 : z2 ≤ 25) => ?_)
  have rz2 : -2147483648 ≤ z2 ∧ z2 ≤ 2147483647 := ⟨by omega, by omega⟩
  refine mj_T.pl rfl rfl rfl rfl ?_
  refine jT.isub rfl (fun z3 rz3 ez3 => ?_)
  replace ez3 := ez3 ⟨by omega, by omega⟩
  exact jT.retp rfl rfl rfl ⟨z3, by omega, by omega, rfl⟩
-- PolyRegisters$Poly.clear()V
theorem jc_39 {D n : Nat} {tm : Int} {h g : mj_H} {K L : Nat → Nat} {R : Nat → Nat → Nat} {p0 : Nat} (ty : jTY K L R) (hg : g.length ≤ n) (o : jO K L R g n tm h) (kp0 : K p0 = 13) : mj_Ok (D + 2) 39 [.ref p0] h (jQ K L R g n tm [] jV0) := by
  refine mj_Ok.of (M := mj_m39) (loc := [some (.ref p0), none]) rfl rfl rfl ?_
  refine mj_T.pl rfl rfl rfl rfl ?_
  refine mj_T.pl (loc' := [some (.ref p0), some (.int (jn 0))]) rfl rfl rfl rfl ?_
  have t2_3 : ∀ (k4 : Nat) (x1 : Int) (h2 : mj_H), (-2147483648 ≤ x1 ∧ x1 ≤ 2147483647) → (jO K L R g n tm h2) → (0 ≤ x1) → (2147483647 - x1 : Int).toNat = k4 → mj_T (D + 1) mj_m39 2 [some (.ref p0), some (.int (jn x1))] [] h2 (jQ K L R g n tm [] jV0) := by
    refine jInd (fun k4 ih5 => ?_)
    intro x1 h2 rx1 oh2 ix1 hm6
    refine mj_T.pl rfl rfl rfl rfl ?_
    refine mj_T.pl rfl rfl rfl rfl ?_
    refine jT.getR 13 104 4 ty oh2 rfl kp0 (by decide) rfl rfl rfl (fun k7 => ?_)
    refine jT.alen 4 ty oh2 rfl k7 (by decide) (by decide) (fun z8 ez8 (az8 : 1 ≤ z8) (bz8 : z8 ≤ 25) => ?_)
    have rz8 : -2147483648 ≤ z8 ∧ z8 ≤ 2147483647 := ⟨by omega, by omega⟩
    refine jT.icmp rfl rx1 rz8 (fun c8 => ?_) (fun c8 => ?_)
    · have c8 := of_decide_eq_true c8
      iterate 2 refine mj_T.pl rfl rfl rfl rfl ?_
      refine jT.putI 13 6 oh2 rfl kp0 (by decide) rfl rfl rfl (Or.inl rfl) (by show (-1) ≤ (-1); omega) (by show (-1) ≤ 30; omega) (fun h9 oh9 wh9 uh9 => ?_)
      exact jT.ret oh9 rfl rfl rfl rfl
    · have c8 := of_decide_eq_false c8
      refine mj_T.pl rfl rfl rfl rfl ?_
      refine jT.getR 13 104 4 ty oh2 rfl kp0 (by decide) rfl rfl rfl (fun k10 => ?_)
      refine mj_T.pl rfl rfl rfl rfl ?_
      refine jT.aald 4 18 ty oh2 rfl k10 (by decide) (by decide) rfl rx1 ⟨by omega, by omega⟩ (fun k11 => ?_)
      refine jT.lc 0 rfl rfl ?_
      refine jT.call rfl rfl (Nat.le_of_ble_eq_true rfl) (Nat.le_of_ble_eq_true rfl) (jrv_of oh2 k11 (by decide) rfl (by decide) rfl _) rfl (mj_Ok.up (Nat.add_le_add_left (by decide) D) (jc_86 (D := D) ty hg oh2 k11 ⟨by decide, by decide⟩)) rfl rfl (fun v12 h13 qv12 oh13 => ?_)
      obtain rfl : v12 = none := qv12
      refine mj_T.eq (pc2 := 21) (st2 := []) ?_ rfl rfl rfl rfl
      refine jT.iinc rfl rfl (fun z14 rz14 ez14 => ?_)
      replace ez14 := ez14 ⟨by omega, by omega⟩
      refine mj_T.eq (loc2 := [some (.ref p0), some (.int (jn z14))]) ?_ rfl rfl rfl rfl
      refine mj_T.pl rfl rfl rfl rfl ?_
      exact ih5 ((2147483647 - z14 : Int).toNat) (by omega) z14 h13 rz14 oh13 (by omega) rfl
  exact t2_3 _ 0 h ⟨by decide, by decide⟩ o (by omega) rfl
-- PolyRegisters$Poly.settle()V
theorem jc_42 {D n : Nat} {tm : Int} {h g : mj_H} {K L : Nat → Nat} {R : Nat → Nat → Nat} {p0 : Nat} (ty : jTY K L R) (hg : g.length ≤ n) (o : jO K L R g n tm h) (kp0 : K p0 = 13) : mj_Ok (D + 1) 42 [.ref p0] h (jQ K L R g n tm [] jV0) := by
  refine mj_Ok.of (M := mj_m42) (loc := [some (.ref p0), none]) rfl rfl rfl ?_
  iterate 2 refine mj_T.pl rfl rfl rfl rfl ?_
  refine jT.putI 13 6 o rfl kp0 (by decide) rfl rfl rfl (Or.inl rfl) (by show (-1) ≤ (-1); omega) (by show (-1) ≤ 30; omega) (fun h1 oh1 wh1 uh1 => ?_)
  refine mj_T.pl rfl rfl rfl rfl ?_
  refine mj_T.pl (loc' := [some (.ref p0), some (.int (jn 0))]) rfl rfl rfl rfl ?_
  have t7_4 : ∀ (k5 : Nat) (x2 : Int) (h3 : mj_H), (-2147483648 ≤ x2 ∧ x2 ≤ 2147483647) → (jO K L R g n tm h3) → (0 ≤ x2) → (2147483647 - x2 : Int).toNat = k5 → mj_T (D + 0) mj_m42 7 [some (.ref p0), some (.int (jn x2))] [] h3 (jQ K L R g n tm [] jV0) := by
    refine jInd (fun k5 ih6 => ?_)
    intro x2 h3 rx2 oh3 ix2 hm7
    refine mj_T.pl rfl rfl rfl rfl ?_
    refine mj_T.pl rfl rfl rfl rfl ?_
    refine jT.getR 13 104 4 ty oh3 rfl kp0 (by decide) rfl rfl rfl (fun k8 => ?_)
    refine jT.alen 4 ty oh3 rfl k8 (by decide) (by decide) (fun z9 ez9 (az9 : 1 ≤ z9) (bz9 : z9 ≤ 25) => ?_)
    have rz9 : -2147483648 ≤ z9 ∧ z9 ≤ 2147483647 := ⟨by omega, by omega⟩
    refine jT.icmp rfl rx2 rz9 (fun c13 => ?_) (fun c13 => ?_)
    · have c13 := of_decide_eq_true c13
      exact jT.ret oh3 rfl rfl rfl rfl
    · have c13 := of_decide_eq_false c13
      iterate 2 refine mj_T.pl rfl rfl rfl rfl ?_
      refine jT.getR 13 104 4 ty oh3 rfl kp0 (by decide) rfl rfl rfl (fun k10 => ?_)
      refine mj_T.pl rfl rfl rfl rfl ?_
      refine jT.aald 4 18 ty oh3 rfl k10 (by decide) (by decide) rfl rx2 ⟨by omega, by omega⟩ (fun k11 => ?_)
      refine jT.getI 18 0 oh3 rfl k11 (by decide) rfl rfl rfl (fun z12 (az12 : (-2147483648) ≤ z12) (bz12 : z12 ≤ 2147483647) fz12 => ?_)
      have rz12 : -2147483648 ≤ z12 ∧ z12 ≤ 2147483647 := ⟨by omega, by omega⟩
      refine jT.if0 rfl rz12 (fun c26 => ?_) (fun c26 => ?_)
      · have c26 := of_decide_eq_true c26
        refine mj_T.pl rfl rfl rfl rfl ?_
        refine jT.getI 13 6 oh3 rfl kp0 (by decide) rfl rfl rfl (fun z13 (az13 : (-1) ≤ z13) (bz13 : z13 ≤ 30) fz13 => ?_)
        have rz13 : -2147483648 ≤ z13 ∧ z13 ≤ 2147483647 := ⟨by omega, by omega⟩
        refine jT.putI 13 6 oh3 rfl kp0 (by decide) rfl rfl rfl (Or.inl rfl) (by show (-1) ≤ z13; omega) (by show z13 ≤ 30; omega) (fun h14 oh14 wh14 uh14 => ?_)
        refine jT.iinc rfl rfl (fun z15 rz15 ez15 => ?_)
        replace ez15 := ez15 ⟨by omega, by omega⟩
        refine mj_T.eq (loc2 := [some (.ref p0), some (.int (jn z15))]) ?_ rfl rfl rfl rfl
        refine mj_T.pl rfl rfl rfl rfl ?_
        exact ih6 ((2147483647 - z15 : Int).toNat) (by omega) z15 h14 rz15 oh14 (by omega) rfl
      · have c26 := of_decide_eq_false c26
        iterate 2 refine mj_T.pl rfl rfl rfl rfl ?_
        refine jT.putI 13 6 oh3 rfl kp0 (by decide) rfl rfl rfl (Or.inl rfl) (by show (-1) ≤ x2; omega) (by show x2 ≤ 30; omega) (fun h16 oh16 wh16 uh16 => ?_)
        refine jT.iinc rfl rfl (fun z17 rz17 ez17 => ?_)
        replace ez17 := ez17 ⟨by omega, by omega⟩
        refine mj_T.eq (loc2 := [some (.ref p0), some (.int (jn z17))]) ?_ rfl rfl rfl rfl
        refine mj_T.pl rfl rfl rfl rfl ?_
        exact ih6 ((2147483647 - z17 : Int).toNat) (by omega) z17 h16 rz17 oh16 (by omega) rfl
  exact t7_4 _ 0 h1 ⟨by decide, by decide⟩ oh1 (by omega) rfl
-- PolyRegisters$Poly.load([JJ)V
theorem jc_40 {D n : Nat} {tm : Int} {h g : mj_H} {K L : Nat → Nat} {R : Nat → Nat → Nat} {p0 : Nat} {p1 : Nat} {p2 : Int} (ty : jTY K L R) (hg : g.length ≤ n) (o : jO K L R g n tm h) (kp0 : K p0 = 13) (kp1 : K p1 = 2) (jp2 : jR p2) : mj_Ok (D + 2) 40 [.ref p0, .ref p1, .long (jl p2)] h (jQ K L R g n tm [] jV0) := by
  refine mj_Ok.of (M := mj_m40) (loc := [some (.ref p0), some (.ref p1), some (.long (jl p2)), none, none]) rfl rfl rfl ?_
  refine mj_T.pl rfl rfl rfl rfl ?_
  refine mj_T.pl (loc' := [some (.ref p0), some (.ref p1), some (.long (jl p2)), none, some (.int (jn 0))]) rfl rfl rfl rfl ?_
  have t3_3 : ∀ (k4 : Nat) (x1 : Int) (h2 : mj_H), (-2147483648 ≤ x1 ∧ x1 ≤ 2147483647) → (jO K L R g n tm h2) → (0 ≤ x1) → (2147483647 - x1 : Int).toNat = k4 → mj_T (D + 1) mj_m40 3 [some (.ref p0), some (.ref p1), some (.long (jl p2)), none, some (.int (jn x1))] [] h2 (jQ K L R g n tm [] jV0) := by
    refine jInd (fun k4 ih5 => ?_)
    intro x1 h2 rx1 oh2 ix1 hm6
    refine mj_T.pl rfl rfl rfl rfl ?_
    refine mj_T.pl rfl rfl rfl rfl ?_
    refine jT.getR 13 104 4 ty oh2 rfl kp0 (by decide) rfl rfl rfl (fun k7 => ?_)
    refine jT.alen 4 ty oh2 rfl k7 (by decide) (by decide) (fun z8 ez8 (az8 : 1 ≤ z8) (bz8 : z8 ≤ 25) => ?_)
    have rz8 : -2147483648 ≤ z8 ∧ z8 ≤ 2147483647 := ⟨by omega, by omega⟩
    refine jT.icmp rfl rx1 rz8 (fun c10 => ?_) (fun c10 => ?_)
    · have c10 := of_decide_eq_true c10
      refine mj_T.pl rfl rfl rfl rfl ?_
      refine jT.call rfl rfl (Nat.le_of_ble_eq_true rfl) (Nat.le_of_ble_eq_true rfl) (jrv_of oh2 kp0 (by decide) rfl (by decide) rfl _) rfl (mj_Ok.up (Nat.add_le_add_left (by decide) D) (jc_42 (D := D) ty hg oh2 kp0)) rfl rfl (fun v9 h10 qv9 oh10 => ?_)
      obtain rfl : v9 = none := qv9
      refine mj_T.eq (pc2 := 56) (st2 := []) ?_ rfl rfl rfl rfl
      exact jT.ret oh10 rfl rfl rfl rfl
    · have c10 := of_decide_eq_false c10
      refine mj_T.pl rfl rfl rfl rfl ?_
      refine jT.getR 13 104 4 ty oh2 rfl kp0 (by decide) rfl rfl rfl (fun k11 => ?_)
      refine mj_T.pl rfl rfl rfl rfl ?_
      refine jT.aald 4 18 ty oh2 rfl k11 (by decide) (by decide) rfl rx1 ⟨by omega, by omega⟩ (fun k12 => ?_)
      iterate 2 refine mj_T.pl rfl rfl rfl rfl ?_
      refine jT.alen 2 ty oh2 rfl kp1 (by decide) (by decide) (fun z13 ez13 (az13 : 13 ≤ z13) (bz13 : z13 ≤ 13) => ?_)
      have rz13 : -2147483648 ≤ z13 ∧ z13 ≤ 2147483647 := ⟨by omega, by omega⟩
      refine jT.icmp rfl rx1 rz13 (fun c24 => ?_) (fun c24 => ?_)
      · have c24 := of_decide_eq_true c24
        refine jT.lc 0 rfl rfl ?_
        refine jT.call rfl rfl (Nat.le_of_ble_eq_true rfl) (Nat.le_of_ble_eq_true rfl) (jrv_of oh2 k12 (by decide) rfl (by decide) rfl _) rfl (mj_Ok.up (Nat.add_le_add_left (by decide) D) (jc_86 (D := D) ty hg oh2 k12 ⟨by decide, by decide⟩)) rfl rfl (fun v14 h15 qv14 oh15 => ?_)
        obtain rfl : v14 = none := qv14
        refine mj_T.eq (pc2 := 46) (st2 := []) ?_ rfl rfl rfl rfl
        refine jT.iinc rfl rfl (fun z16 rz16 ez16 => ?_)
        replace ez16 := ez16 ⟨by omega, by omega⟩
        refine mj_T.eq (loc2 := [some (.ref p0), some (.ref p1), some (.long (jl p2)), none, some (.int (jn z16))]) ?_ rfl rfl rfl rfl
        refine mj_T.pl rfl rfl rfl rfl ?_
        exact ih5 ((2147483647 - z16 : Int).toNat) (by omega) z16 h15 rz16 oh15 (by omega) rfl
      · have c24 := of_decide_eq_false c24
        refine mj_T.pl rfl rfl rfl rfl ?_
        refine jT.lc 0 rfl rfl ?_
        refine mj_T.lif rfl rfl jp2 ⟨by decide, by decide⟩ (fun c29 => ?_) (fun c29 => ?_)
        · have c29 := of_decide_eq_true c29
          refine jT.lc 0 rfl rfl ?_
          refine jT.call rfl rfl (Nat.le_of_ble_eq_true rfl) (Nat.le_of_ble_eq_true rfl) (jrv_of oh2 k12 (by decide) rfl (by decide) rfl _) rfl (mj_Ok.up (Nat.add_le_add_left (by decide) D) (jc_86 (D := D) ty hg oh2 k12 ⟨by decide, by decide⟩)) rfl rfl (fun v17 h18 qv17 oh18 => ?_)
          obtain rfl : v17 = none := qv17
          refine mj_T.eq (pc2 := 46) (st2 := []) ?_ rfl rfl rfl rfl
          refine jT.iinc rfl rfl (fun z19 rz19 ez19 => ?_)
          replace ez19 := ez19 ⟨by omega, by omega⟩
          refine mj_T.eq (loc2 := [some (.ref p0), some (.ref p1), some (.long (jl p2)), none, some (.int (jn z19))]) ?_ rfl rfl rfl rfl
          refine mj_T.pl rfl rfl rfl rfl ?_
          exact ih5 ((2147483647 - z19 : Int).toNat) (by omega) z19 h18 rz19 oh18 (by omega) rfl
        · have c29 := of_decide_eq_false c29
          iterate 2 refine mj_T.pl rfl rfl rfl rfl ?_
          refine jT.lald oh2 rfl kp1 rx1 ⟨by omega, by omega⟩ (fun z20 jz20 => ?_)
          refine mj_T.pl rfl rfl rfl rfl ?_
          refine jT.ldiv rfl jp2 (by omega) (fun z21 jz21 => ?_)
          refine mj_T.pl rfl rfl rfl rfl ?_
          refine jT.call rfl rfl (Nat.le_of_ble_eq_true rfl) (Nat.le_of_ble_eq_true rfl) (jrv_of oh2 k12 (by decide) rfl (by decide) rfl _) rfl (mj_Ok.up (Nat.add_le_add_left (by decide) D) (jc_86 (D := D) ty hg oh2 k12 jz21)) rfl rfl (fun v22 h23 qv22 oh23 => ?_)
          obtain rfl : v22 = none := qv22
          refine mj_T.eq (pc2 := 46) (st2 := []) ?_ rfl rfl rfl rfl
          refine jT.iinc rfl rfl (fun z24 rz24 ez24 => ?_)
          replace ez24 := ez24 ⟨by omega, by omega⟩
          refine mj_T.eq (loc2 := [some (.ref p0), some (.ref p1), some (.long (jl p2)), none, some (.int (jn z24))]) ?_ rfl rfl rfl rfl
          refine mj_T.pl rfl rfl rfl rfl ?_
          exact ih5 ((2147483647 - z24 : Int).toNat) (by omega) z24 h23 rz24 oh23 (by omega) rfl
  exact t3_3 _ 0 h ⟨by decide, by decide⟩ o (by omega) rfl
-- PolyRegisters$Poly.set(LPolyRegisters$Poly;)V
theorem jc_41 {D n : Nat} {tm : Int} {h g : mj_H} {K L : Nat → Nat} {R : Nat → Nat → Nat} {p0 : Nat} {p1 : Nat} (ty : jTY K L R) (hg : g.length ≤ n) (o : jO K L R g n tm h) (kp0 : K p0 = 13) (kp1 : K p1 = 13) : mj_Ok (D + 2) 41 [.ref p0, .ref p1] h (jQ K L R g n tm [] jV0) := by
  refine mj_Ok.of (M := mj_m41) (loc := [some (.ref p0), some (.ref p1), none]) rfl rfl rfl ?_
  refine mj_T.pl rfl rfl rfl rfl ?_
  refine mj_T.pl (loc' := [some (.ref p0), some (.ref p1), some (.int (jn 0))]) rfl rfl rfl rfl ?_
  have t2_3 : ∀ (k4 : Nat) (x1 : Int) (h2 : mj_H), (-2147483648 ≤ x1 ∧ x1 ≤ 2147483647) → (jO K L R g n tm h2) → (0 ≤ x1) → (2147483647 - x1 : Int).toNat = k4 → mj_T (D + 1) mj_m41 2 [some (.ref p0), some (.ref p1), some (.int (jn x1))] [] h2 (jQ K L R g n tm [] jV0) := by
    refine jInd (fun k4 ih5 => ?_)
    intro x1 h2 rx1 oh2 ix1 hm6
    refine mj_T.pl rfl rfl rfl rfl ?_
    refine mj_T.pl rfl rfl rfl rfl ?_
    refine jT.getR 13 104 4 ty oh2 rfl kp0 (by decide) rfl rfl rfl (fun k7 => ?_)
    refine jT.alen 4 ty oh2 rfl k7 (by decide) (by decide) (fun z8 ez8 (az8 : 1 ≤ z8) (bz8 : z8 ≤ 25) => ?_)
    have rz8 : -2147483648 ≤ z8 ∧ z8 ≤ 2147483647 := ⟨by omega, by omega⟩
    refine jT.icmp rfl rx1 rz8 (fun c8 => ?_) (fun c8 => ?_)
    · have c8 := of_decide_eq_true c8
      refine mj_T.pl rfl rfl rfl rfl ?_
      refine jT.call rfl rfl (Nat.le_of_ble_eq_true rfl) (Nat.le_of_ble_eq_true rfl) (jrv_of oh2 kp0 (by decide) rfl (by decide) rfl _) rfl (mj_Ok.up (Nat.add_le_add_left (by decide) D) (jc_42 (D := D) ty hg oh2 kp0)) rfl rfl (fun v9 h10 qv9 oh10 => ?_)
      obtain rfl : v9 = none := qv9
      refine mj_T.eq (pc2 := 35) (st2 := []) ?_ rfl rfl rfl rfl
      exact jT.ret oh10 rfl rfl rfl rfl
    · have c8 := of_decide_eq_false c8
      refine mj_T.pl rfl rfl rfl rfl ?_
      refine jT.getR 13 104 4 ty oh2 rfl kp0 (by decide) rfl rfl rfl (fun k11 => ?_)
      refine mj_T.pl rfl rfl rfl rfl ?_
      refine jT.aald 4 18 ty oh2 rfl k11 (by decide) (by decide) rfl rx1 ⟨by omega, by omega⟩ (fun k12 => ?_)
      iterate 2 refine mj_T.pl rfl rfl rfl rfl ?_
      refine jT.callp rfl rfl (Nat.le_of_ble_eq_true rfl) (Nat.le_of_ble_eq_true rfl) (jrv_of oh2 kp1 (by decide) rfl (by decide) rfl _) rfl (mj_Ok.up (Nat.add_le_add_left (by decide) D) (jc_36 (D := D) ty hg oh2 kp1 rx1)) rfl rfl (fun v13 qv13 => ?_)
      obtain ⟨a14, ka14, rfl⟩ := qv13
      refine mj_T.eq (pc2 := 22) (st2 := [.ref a14, .ref (R (R p0 0) (x1 : Int).toNat)]) ?_ rfl rfl rfl rfl
      refine jT.call rfl rfl (Nat.le_of_ble_eq_true rfl) (Nat.le_of_ble_eq_true rfl) (jrv_of oh2 k12 (by decide) rfl (by decide) rfl _) rfl (mj_Ok.up (Nat.add_le_add_left (by decide) D) (jc_87 (D := D) ty hg oh2 k12 ka14)) rfl rfl (fun v15 h16 qv15 oh16 => ?_)
      obtain rfl : v15 = none := qv15
      refine mj_T.eq (pc2 := 25) (st2 := []) ?_ rfl rfl rfl rfl
      refine jT.iinc rfl rfl (fun z17 rz17 ez17 => ?_)
      replace ez17 := ez17 ⟨by omega, by omega⟩
      refine mj_T.eq (loc2 := [some (.ref p0), some (.ref p1), some (.int (jn z17))]) ?_ rfl rfl rfl rfl
      refine mj_T.pl rfl rfl rfl rfl ?_
      exact ih5 ((2147483647 - z17 : Int).toNat) (by omega) z17 h16 rz17 oh16 (by omega) rfl
  exact t2_3 _ 0 h ⟨by decide, by decide⟩ o (by omega) rfl
-- PolyRegisters$Poly.negate()V
theorem jc_43 {D n : Nat} {tm : Int} {h g : mj_H} {K L : Nat → Nat} {R : Nat → Nat → Nat} {p0 : Nat} (ty : jTY K L R) (hg : g.length ≤ n) (o : jO K L R g n tm h) (kp0 : K p0 = 13) : mj_Ok (D + 1) 43 [.ref p0] h (jQ K L R g n tm [] jV0) := by
  refine mj_Ok.of (M := mj_m43) (loc := [some (.ref p0), none]) rfl rfl rfl ?_
  refine mj_T.pl rfl rfl rfl rfl ?_
  refine mj_T.pl (loc' := [some (.ref p0), some (.int (jn 0))]) rfl rfl rfl rfl ?_
  have t2_3 : ∀ (k4 : Nat) (x1 : Int) (h2 : mj_H), (-2147483648 ≤ x1 ∧ x1 ≤ 2147483647) → (jO K L R g n tm h2) → (0 ≤ x1) → (2147483647 - x1 : Int).toNat = k4 → mj_T (D + 0) mj_m43 2 [some (.ref p0), some (.int (jn x1))] [] h2 (jQ K L R g n tm [] jV0) := by
    refine jInd (fun k4 ih5 => ?_)
    intro x1 h2 rx1 oh2 ix1 hm6
    refine mj_T.pl rfl rfl rfl rfl ?_
    refine mj_T.pl rfl rfl rfl rfl ?_
    refine jT.getR 13 104 4 ty oh2 rfl kp0 (by decide) rfl rfl rfl (fun k7 => ?_)
    refine jT.alen 4 ty oh2 rfl k7 (by decide) (by decide) (fun z8 ez8 (az8 : 1 ≤ z8) (bz8 : z8 ≤ 25) => ?_)
    have rz8 : -2147483648 ≤ z8 ∧ z8 ≤ 2147483647 := ⟨by omega, by omega⟩
    refine jT.icmp rfl rx1 rz8 (fun c8 => ?_) (fun c8 => ?_)
    · have c8 := of_decide_eq_true c8
      exact jT.ret oh2 rfl rfl rfl rfl
    · have c8 := of_decide_eq_false c8
      refine mj_T.pl rfl rfl rfl rfl ?_
      refine jT.getR 13 104 4 ty oh2 rfl kp0 (by decide) rfl rfl rfl (fun k9 => ?_)
      refine mj_T.pl rfl rfl rfl rfl ?_
      refine jT.aald 4 18 ty oh2 rfl k9 (by decide) (by decide) rfl rx1 ⟨by omega, by omega⟩ (fun k10 => ?_)
      refine mj_T.pl rfl rfl rfl rfl ?_
      refine jT.getR 13 104 4 ty oh2 rfl kp0 (by decide) rfl rfl rfl (fun k11 => ?_)
      refine mj_T.pl rfl rfl rfl rfl ?_
      refine jT.aald 4 18 ty oh2 rfl k11 (by decide) (by decide) rfl rx1 ⟨by omega, by omega⟩ (fun k12 => ?_)
      refine jT.getI 18 0 oh2 rfl k12 (by decide) rfl rfl rfl (fun z13 (az13 : (-2147483648) ≤ z13) (bz13 : z13 ≤ 2147483647) fz13 => ?_)
      have rz13 : -2147483648 ≤ z13 ∧ z13 ≤ 2147483647 := ⟨by omega, by omega⟩
      refine jT.ineg rfl (fun z14 rz14 _ => ?_)
      refine jT.putI 18 0 oh2 rfl k10 (by decide) rfl rfl rfl (Or.inl rfl) (by show (-2147483648) ≤ z14; omega) (by show z14 ≤ 2147483647; omega) (fun h15 oh15 wh15 uh15 => ?_)
      refine jT.iinc rfl rfl (fun z16 rz16 ez16 => ?_)
      replace ez16 := ez16 ⟨by omega, by omega⟩
      refine mj_T.eq (loc2 := [some (.ref p0), some (.int (jn z16))]) ?_ rfl rfl rfl rfl
      refine mj_T.pl rfl rfl rfl rfl ?_
      exact ih5 ((2147483647 - z16 : Int).toNat) (by omega) z16 h15 rz16 oh15 (by omega) rfl
  exact t2_3 _ 0 h ⟨by decide, by decide⟩ o (by omega) rfl
-- PolyRegisters$Poly.store([J)Z
theorem jc_44 {D n : Nat} {tm : Int} {h g : mj_H} {K L : Nat → Nat} {R : Nat → Nat → Nat} {p0 : Nat} {p1 : Nat} (ty : jTY K L R) (hg : g.length ≤ n) (o : jO K L R g n tm h) (kp0 : K p0 = 13) (kp1 : K p1 = 2) : mj_Ok (D + 2) 44 [.ref p0, .ref p1] h (jQ K L R g n tm [] (jVi 0 1)) := by
  refine mj_Ok.of (M := mj_m44) (loc := [some (.ref p0), some (.ref p1), none]) rfl rfl rfl ?_
  refine mj_T.pl rfl rfl rfl rfl ?_
  refine mj_T.pl (loc' := [some (.ref p0), some (.ref p1), some (.int (jn 0))]) rfl rfl rfl rfl ?_
  have t2_2 : ∀ (k3 : Nat) (x1 : Int), (-2147483648 ≤ x1 ∧ x1 ≤ 2147483647) → (0 ≤ x1) → (2147483647 - x1 : Int).toNat = k3 → mj_T (D + 1) mj_m44 2 [some (.ref p0), some (.ref p1), some (.int (jn x1))] [] h (jQ K L R g n tm [] (jVi 0 1)) := by
    refine jInd (fun k3 ih4 => ?_)
    intro x1 rx1 ix1 hm5
    refine mj_T.pl rfl rfl rfl rfl ?_
    refine mj_T.pl rfl rfl rfl rfl ?_
    refine jT.getR 13 104 4 ty o rfl kp0 (by decide) rfl rfl rfl (fun k6 => ?_)
    refine jT.alen 4 ty o rfl k6 (by decide) (by decide) (fun z7 ez7 (az7 : 1 ≤ z7) (bz7 : z7 ≤ 25) => ?_)
    have rz7 : -2147483648 ≤ z7 ∧ z7 ≤ 2147483647 := ⟨by omega, by omega⟩
    refine jT.icmp rfl rx1 rz7 (fun c8 => ?_) (fun c8 => ?_)
    · have c8 := of_decide_eq_true c8
      refine mj_T.pl rfl rfl rfl rfl ?_
      refine mj_T.pl (loc' := [some (.ref p0), some (.ref p1), some (.int (jn 0))]) rfl rfl rfl rfl ?_
      have t44_10 : ∀ (k11 : Nat) (x8 : Int) (h9 : mj_H), (-2147483648 ≤ x8 ∧ x8 ≤ 2147483647) → (jO K L R g n tm h9) → (0 ≤ x8) → (2147483647 - x8 : Int).toNat = k11 → mj_T (D + 1) mj_m44 44 [some (.ref p0), some (.ref p1), some (.int (jn x8))] [] h9 (jQ K L R g n tm [] (jVi 0 1)) := by
        refine jInd (fun k11 ih12 => ?_)
        intro x8 h9 rx8 oh9 ix8 hm13
        refine mj_T.pl rfl rfl rfl rfl ?_
        refine mj_T.pl rfl rfl rfl rfl ?_
        refine jT.alen 2 ty oh9 rfl kp1 (by decide) (by decide) (fun z14 ez14 (az14 : 13 ≤ z14) (bz14 : z14 ≤ 13) => ?_)
        have rz14 : -2147483648 ≤ z14 ∧ z14 ≤ 2147483647 := ⟨by omega, by omega⟩
        refine jT.icmp rfl rx8 rz14 (fun c47 => ?_) (fun c47 => ?_)
        · have c47 := of_decide_eq_true c47
          refine mj_T.pl rfl rfl rfl rfl ?_
          exact jT.retb oh9 rfl rfl (by omega) (by omega)
        · have c47 := of_decide_eq_false c47
          iterate 4 refine mj_T.pl rfl rfl rfl rfl ?_
          refine jT.callp rfl rfl (Nat.le_of_ble_eq_true rfl) (Nat.le_of_ble_eq_true rfl) (jrv_of oh9 kp0 (by decide) rfl (by decide) rfl _) rfl (mj_Ok.up (Nat.add_le_add_left (by decide) D) (jc_36 (D := D) ty hg oh9 kp0 rx8)) rfl rfl (fun v15 qv15 => ?_)
          obtain ⟨a16, ka16, rfl⟩ := qv15
          refine mj_T.eq (pc2 := 57) (st2 := [.ref a16, .int (jn x8), .ref p1]) ?_ rfl rfl rfl rfl
          refine jT.callp rfl rfl (Nat.le_of_ble_eq_true rfl) (Nat.le_of_ble_eq_true rfl) (jrv_of oh9 ka16 (by decide) rfl (by decide) rfl _) rfl (mj_Ok.up (Nat.add_le_add_left (by decide) D) (jc_100 (D := D) ty hg oh9 ka16)) rfl rfl (fun v17 qv17 => ?_)
          obtain ⟨z18, jz18, rfl⟩ := qv17
          refine mj_T.eq (pc2 := 60) (st2 := [.long (jl z18), .int (jn x8), .ref p1]) ?_ rfl rfl rfl rfl
          refine jT.last oh9 rfl kp1 rx8 ⟨by omega, by omega⟩ jz18 (fun h19 oh19 uh19 => ?_)
          refine jT.iinc rfl rfl (fun z20 rz20 ez20 => ?_)
          replace ez20 := ez20 ⟨by omega, by omega⟩
          refine mj_T.eq (loc2 := [some (.ref p0), some (.ref p1), some (.int (jn z20))]) ?_ rfl rfl rfl rfl
          refine mj_T.pl rfl rfl rfl rfl ?_
          exact ih12 ((2147483647 - z20 : Int).toNat) (by omega) z20 h19 rz20 oh19 (by omega) rfl
      exact t44_10 _ 0 h ⟨by decide, by decide⟩ o (by omega) rfl
    · have c8 := of_decide_eq_false c8
      refine mj_T.pl rfl rfl rfl rfl ?_
      refine jT.getR 13 104 4 ty o rfl kp0 (by decide) rfl rfl rfl (fun k21 => ?_)
      refine mj_T.pl rfl rfl rfl rfl ?_
      refine jT.aald 4 18 ty o rfl k21 (by decide) (by decide) rfl rx1 ⟨by omega, by omega⟩ (fun k22 => ?_)
      refine jT.getI 18 10 o rfl k22 (by decide) rfl rfl rfl (fun z23 (az23 : 0 ≤ z23) (bz23 : z23 ≤ 1000) fz23 => ?_)
      have rz23 : -2147483648 ≤ z23 ∧ z23 ≤ 2147483647 := ⟨by omega, by omega⟩
      iterate 2 refine mj_T.pl rfl rfl rfl rfl ?_
      have t31_25 : ∀ (x24 : Int), (-2147483648 ≤ x24 ∧ x24 ≤ 2147483647) → mj_T (D + 1) mj_m44 31 [some (.ref p0), some (.ref p1), some (.int (jn x1))] [.int (jn x24), .int (jn z23)] h (jQ K L R g n tm [] (jVi 0 1)) := by
        intro x24 rx24
        refine jT.icmp rfl rz23 rx24 (fun c31 => ?_) (fun c31 => ?_)
        · have c31 := of_decide_eq_true c31
          refine jT.iinc rfl rfl (fun z26 rz26 ez26 => ?_)
          replace ez26 := ez26 ⟨by omega, by omega⟩
          refine mj_T.eq (loc2 := [some (.ref p0), some (.ref p1), some (.int (jn z26))]) ?_ rfl rfl rfl rfl
          refine mj_T.pl rfl rfl rfl rfl ?_
          exact ih4 ((2147483647 - z26 : Int).toNat) (by omega) z26 rz26 (by omega) rfl
        · have c31 := of_decide_eq_false c31
          refine mj_T.pl rfl rfl rfl rfl ?_
          exact jT.retb o rfl rfl (by omega) (by omega)
      refine jT.icmp rfl rx1 ⟨by decide, by decide⟩ (fun c23 => ?_) (fun c23 => ?_)
      · have c23 := of_decide_eq_true c23
        refine mj_T.pl rfl rfl rfl rfl ?_
        exact t31_25 0 ⟨by decide, by decide⟩
      · have c23 := of_decide_eq_false c23
        iterate 2 refine mj_T.pl rfl rfl rfl rfl ?_
        exact t31_25 2 ⟨by decide, by decide⟩
  exact t2_2 _ 0 ⟨by decide, by decide⟩ (by omega) rfl
