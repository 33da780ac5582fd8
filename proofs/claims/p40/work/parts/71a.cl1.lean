/-! The class by kinds: its methods. -/
-- PolyRegisters.isShort(J)Z
theorem jc_161 {D n : Nat} {tm : Int} {h g : mj_H} {K L : Nat → Nat} {R : Nat → Nat → Nat} {p0 : Int} (ty : jTY K L R) (hg : g.length ≤ n) (o : jO K L R g n tm h) (jp0 : jR p0) : mj_Ok (D + 1) 161 [.long (jl p0)] h (jQp K L R g n tm h [] (jVi 0 1)) := by
  refine mj_Ok.of (M := mj_m161) (loc := [some (.long (jl p0)), none]) rfl rfl rfl ?_
  refine mj_T.pl rfl rfl rfl rfl ?_
  refine mj_T.pl rfl rfl rfl rfl ?_
  refine jT.anyL (fun z1 jz1 => ?_)
  refine mj_T.lif rfl rfl jp0 jz1 (fun c4 => ?_) (fun c4 => ?_)
  · have c4 := of_decide_eq_true c4
    refine mj_T.pl rfl rfl rfl rfl ?_
    exact jT.retbp rfl rfl (by omega) (by omega)
  · have c4 := of_decide_eq_false c4
    refine mj_T.pl rfl rfl rfl rfl ?_
    refine jT.ldcL rfl ?_
    refine mj_T.lif rfl rfl jp0 ⟨by decide, by decide⟩ (fun c12 => ?_) (fun c12 => ?_)
    · have c12 := of_decide_eq_true c12
      refine mj_T.pl rfl rfl rfl rfl ?_
      exact jT.retbp rfl rfl (by omega) (by omega)
    · have c12 := of_decide_eq_false c12
      iterate 2 refine mj_T.pl rfl rfl rfl rfl ?_
      exact jT.retbp rfl rfl (by omega) (by omega)
-- PolyRegisters.degreeOf([J)I
theorem jc_162 {D n : Nat} {tm : Int} {h g : mj_H} {K L : Nat → Nat} {R : Nat → Nat → Nat} {p0 : Nat} (ty : jTY K L R) (hg : g.length ≤ n) (o : jO K L R g n tm h) (kp0 : K p0 = 2) : mj_Ok (D + 1) 162 [.ref p0] h (jQp K L R g n tm h [] (jVi (-1) 12)) := by
  refine mj_Ok.of (M := mj_m162) (loc := [some (.ref p0), none]) rfl rfl rfl ?_
  refine mj_T.pl rfl rfl rfl rfl ?_
  refine jT.alen 2 ty o rfl kp0 (by decide) (by decide) (fun z1 ez1 (az1 : 13 ≤ z1) (bz1 : z1 ≤ 13) => ?_)
  have rz1 : -2147483648 ≤ z1 ∧ z1 ≤ 2147483647 := ⟨by omega, by omega⟩
  refine mj_T.pl rfl rfl rfl rfl ?_
  refine jT.isub rfl (fun z2 rz2 ez2 => ?_)
  replace ez2 := ez2 ⟨by omega, by omega⟩
  refine mj_T.pl (loc' := [some (.ref p0), some (.int (jn z2))]) rfl rfl rfl rfl ?_
  have t5_4 : ∀ (k5 : Nat) (x3 : Int), (-2147483648 ≤ x3 ∧ x3 ≤ 2147483647) → (x3 ≤ z2) → (x3 + 1 : Int).toNat = k5 → mj_T (D + 0) mj_m162 5 [some (.ref p0), some (.int (jn x3))] [] h (jQp K L R g n tm h [] (jVi (-1) 12)) := by
    refine jInd (fun k5 ih6 => ?_)
    intro x3 rx3 ix3 hm7
    refine mj_T.pl rfl rfl rfl rfl ?_
    refine jT.if0 rfl rx3 (fun c6 => ?_) (fun c6 => ?_)
    · have c6 := of_decide_eq_true c6
      refine mj_T.pl rfl rfl rfl rfl ?_
      exact jT.retp rfl rfl rfl ⟨(-1), by omega, by omega, rfl⟩
    · have c6 := of_decide_eq_false c6
      iterate 2 refine mj_T.pl rfl rfl rfl rfl ?_
      refine jT.lald o rfl kp0 rx3 ⟨by omega, by omega⟩ (fun z8 jz8 => ?_)
      refine jT.lc 0 rfl rfl ?_
      refine mj_T.lif rfl rfl jz8 ⟨by decide, by decide⟩ (fun c13 => ?_) (fun c13 => ?_)
      · have c13 := of_decide_eq_true c13
        refine jT.iinc rfl rfl (fun z9 rz9 ez9 => ?_)
        replace ez9 := ez9 ⟨by omega, by omega⟩
        refine mj_T.eq (loc2 := [some (.ref p0), some (.int (jn z9))]) ?_ rfl rfl rfl rfl
        refine mj_T.pl rfl rfl rfl rfl ?_
        exact ih6 ((z9 + 1 : Int).toNat) (by omega) z9 rz9 (by omega) rfl
      · have c13 := of_decide_eq_false c13
        refine mj_T.pl rfl rfl rfl rfl ?_
        exact jT.retp rfl rfl rfl ⟨x3, by omega, by omega, rfl⟩
  exact t5_4 _ z2 rz2 (by omega) rfl
-- PolyRegisters.termsOf([J)I
theorem jc_163 {D n : Nat} {tm : Int} {h g : mj_H} {K L : Nat → Nat} {R : Nat → Nat → Nat} {p0 : Nat} (ty : jTY K L R) (hg : g.length ≤ n) (o : jO K L R g n tm h) (kp0 : K p0 = 2) : mj_Ok (D + 1) 163 [.ref p0] h (jQp K L R g n tm h [] (jVi 0 13)) := by
  refine mj_Ok.of (M := mj_m163) (loc := [some (.ref p0), none, none]) rfl rfl rfl ?_
  refine mj_T.pl rfl rfl rfl rfl ?_
  refine mj_T.pl (loc' := [some (.ref p0), some (.int (jn 0)), none]) rfl rfl rfl rfl ?_
  refine mj_T.pl rfl rfl rfl rfl ?_
  refine mj_T.pl (loc' := [some (.ref p0), some (.int (jn 0)), some (.int (jn 0))]) rfl rfl rfl rfl ?_
  have t4_3 : ∀ (k4 : Nat) (x1 : Int) (x2 : Int), (-2147483648 ≤ x1 ∧ x1 ≤ 2147483647) → (-2147483648 ≤ x2 ∧ x2 ≤ 2147483647) → (0 ≤ x2) → (0 ≤ x1 ∧ x1 ≤ x2 ∧ x2 ≤ 13) → (2147483647 - x2 : Int).toNat = k4 → mj_T (D + 0) mj_m163 4 [some (.ref p0), some (.int (jn x1)), some (.int (jn x2))] [] h (jQp K L R g n tm h [] (jVi 0 13)) := by
    refine jInd (fun k4 ih5 => ?_)
    intro x1 x2 rx1 rx2 ix2 ivx2 hm6
    refine mj_T.pl rfl rfl rfl rfl ?_
    refine mj_T.pl rfl rfl rfl rfl ?_
    refine jT.alen 2 ty o rfl kp0 (by decide) (by decide) (fun z7 ez7 (az7 : 13 ≤ z7) (bz7 : z7 ≤ 13) => ?_)
    have rz7 : -2147483648 ≤ z7 ∧ z7 ≤ 2147483647 := ⟨by omega, by omega⟩
    refine jT.icmp rfl rx2 rz7 (fun c7 => ?_) (fun c7 => ?_)
    · have c7 := of_decide_eq_true c7
      refine mj_T.pl rfl rfl rfl rfl ?_
      exact jT.retp rfl rfl rfl ⟨x1, by omega, by omega, rfl⟩
    · have c7 := of_decide_eq_false c7
      iterate 2 refine mj_T.pl rfl rfl rfl rfl ?_
      refine jT.lald o rfl kp0 rx2 ⟨by omega, by omega⟩ (fun z8 jz8 => ?_)
      refine jT.lc 0 rfl rfl ?_
      refine mj_T.lif rfl rfl jz8 ⟨by decide, by decide⟩ (fun c14 => ?_) (fun c14 => ?_)
      · have c14 := of_decide_eq_true c14
        refine jT.iinc rfl rfl (fun z9 rz9 ez9 => ?_)
        replace ez9 := ez9 ⟨by omega, by omega⟩
        refine mj_T.eq (loc2 := [some (.ref p0), some (.int (jn x1)), some (.int (jn z9))]) ?_ rfl rfl rfl rfl
        refine mj_T.pl rfl rfl rfl rfl ?_
        exact ih5 ((2147483647 - z9 : Int).toNat) (by omega) x1 z9 rx1 rz9 (by omega) (by omega) rfl
      · have c14 := of_decide_eq_false c14
        refine jT.iinc rfl rfl (fun z10 rz10 ez10 => ?_)
        replace ez10 := ez10 ⟨by omega, by omega⟩
        refine mj_T.eq (loc2 := [some (.ref p0), some (.int (jn z10)), some (.int (jn x2))]) ?_ rfl rfl rfl rfl
        refine jT.iinc rfl rfl (fun z11 rz11 ez11 => ?_)
        replace ez11 := ez11 ⟨by omega, by omega⟩
        refine mj_T.eq (loc2 := [some (.ref p0), some (.int (jn z10)), some (.int (jn z11))]) ?_ rfl rfl rfl rfl
        refine mj_T.pl rfl rfl rfl rfl ?_
        exact ih5 ((2147483647 - z11 : Int).toNat) (by omega) z10 z11 rz10 rz11 (by omega) (by omega) rfl
  exact t4_3 _ 0 0 ⟨by decide, by decide⟩ ⟨by decide, by decide⟩ (by omega) (by omega) rfl
-- PolyRegisters.copyRow([J[J)V
theorem jc_164 {D n : Nat} {tm : Int} {h g : mj_H} {K L : Nat → Nat} {R : Nat → Nat → Nat} {p0 : Nat} {p1 : Nat} (ty : jTY K L R) (hg : g.length ≤ n) (o : jO K L R g n tm h) (kp0 : K p0 = 2) (kp1 : K p1 = 2) : mj_Ok (D + 1) 164 [.ref p0, .ref p1] h (jQ K L R g n tm [] jV0) := by
  refine mj_Ok.of (M := mj_m164) (loc := [some (.ref p0), some (.ref p1), none]) rfl rfl rfl ?_
  refine mj_T.pl rfl rfl rfl rfl ?_
  refine mj_T.pl (loc' := [some (.ref p0), some (.ref p1), some (.int (jn 0))]) rfl rfl rfl rfl ?_
  have t2_3 : ∀ (k4 : Nat) (x1 : Int) (h2 : mj_H), (-2147483648 ≤ x1 ∧ x1 ≤ 2147483647) → (jO K L R g n tm h2) → (0 ≤ x1) → (2147483647 - x1 : Int).toNat = k4 → mj_T (D + 0) mj_m164 2 [some (.ref p0), some (.ref p1), some (.int (jn x1))] [] h2 (jQ K L R g n tm [] jV0) := by
    refine jInd (fun k4 ih5 => ?_)
    intro x1 h2 rx1 oh2 ix1 hm6
    refine mj_T.pl rfl rfl rfl rfl ?_
    refine mj_T.pl rfl rfl rfl rfl ?_
    refine jT.alen 2 ty oh2 rfl kp1 (by decide) (by decide) (fun z7 ez7 (az7 : 13 ≤ z7) (bz7 : z7 ≤ 13) => ?_)
    have rz7 : -2147483648 ≤ z7 ∧ z7 ≤ 2147483647 := ⟨by omega, by omega⟩
    refine jT.icmp rfl rx1 rz7 (fun c5 => ?_) (fun c5 => ?_)
    · have c5 := of_decide_eq_true c5
      exact jT.ret oh2 rfl rfl rfl rfl
    · have c5 := of_decide_eq_false c5
      iterate 4 refine mj_T.pl rfl rfl rfl rfl ?_
      refine jT.alen 2 ty oh2 rfl kp0 (by decide) (by decide) (fun z8 ez8 (az8 : 13 ≤ z8) (bz8 : z8 ≤ 13) => ?_)
      have rz8 : -2147483648 ≤ z8 ∧ z8 ≤ 2147483647 := ⟨by omega, by omega⟩
      refine jT.icmp rfl rx1 rz8 (fun c13 => ?_) (fun c13 => ?_)
      · have c13 := of_decide_eq_true c13
        refine jT.lc 0 rfl rfl ?_
        refine jT.last oh2 rfl kp1 rx1 ⟨by omega, by omega⟩ ⟨by decide, by decide⟩ (fun h9 oh9 uh9 => ?_)
        refine jT.iinc rfl rfl (fun z10 rz10 ez10 => ?_)
        replace ez10 := ez10 ⟨by omega, by omega⟩
        refine mj_T.eq (loc2 := [some (.ref p0), some (.ref p1), some (.int (jn z10))]) ?_ rfl rfl rfl rfl
        refine mj_T.pl rfl rfl rfl rfl ?_
        exact ih5 ((2147483647 - z10 : Int).toNat) (by omega) z10 h9 rz10 oh9 (by omega) rfl
      · have c13 := of_decide_eq_false c13
        iterate 2 refine mj_T.pl rfl rfl rfl rfl ?_
        refine jT.lald oh2 rfl kp0 rx1 ⟨by omega, by omega⟩ (fun z11 jz11 => ?_)
        refine mj_T.pl rfl rfl rfl rfl ?_
        refine jT.last oh2 rfl kp1 rx1 ⟨by omega, by omega⟩ jz11 (fun h12 oh12 uh12 => ?_)
        refine jT.iinc rfl rfl (fun z13 rz13 ez13 => ?_)
        replace ez13 := ez13 ⟨by omega, by omega⟩
        refine mj_T.eq (loc2 := [some (.ref p0), some (.ref p1), some (.int (jn z13))]) ?_ rfl rfl rfl rfl
        refine mj_T.pl rfl rfl rfl rfl ?_
        exact ih5 ((2147483647 - z13 : Int).toNat) (by omega) z13 h12 rz13 oh12 (by omega) rfl
  exact t2_3 _ 0 h ⟨by decide, by decide⟩ o (by omega) rfl
-- PolyRegisters.clearRow([J)V
theorem jc_165 {D n : Nat} {tm : Int} {h g : mj_H} {K L : Nat → Nat} {R : Nat → Nat → Nat} {p0 : Nat} (ty : jTY K L R) (hg : g.length ≤ n) (o : jO K L R g n tm h) (kp0 : K p0 = 2) : mj_Ok (D + 1) 165 [.ref p0] h (jQ K L R g n tm [] jV0) := by
  refine mj_Ok.of (M := mj_m165) (loc := [some (.ref p0), none]) rfl rfl rfl ?_
  refine mj_T.pl rfl rfl rfl rfl ?_
  refine mj_T.pl (loc' := [some (.ref p0), some (.int (jn 0))]) rfl rfl rfl rfl ?_
  have t2_3 : ∀ (k4 : Nat) (x1 : Int) (h2 : mj_H), (-2147483648 ≤ x1 ∧ x1 ≤ 2147483647) → (jO K L R g n tm h2) → (0 ≤ x1) → (2147483647 - x1 : Int).toNat = k4 → mj_T (D + 0) mj_m165 2 [some (.ref p0), some (.int (jn x1))] [] h2 (jQ K L R g n tm [] jV0) := by
    refine jInd (fun k4 ih5 => ?_)
    intro x1 h2 rx1 oh2 ix1 hm6
    refine mj_T.pl rfl rfl rfl rfl ?_
    refine mj_T.pl rfl rfl rfl rfl ?_
    refine jT.alen 2 ty oh2 rfl kp0 (by decide) (by decide) (fun z7 ez7 (az7 : 13 ≤ z7) (bz7 : z7 ≤ 13) => ?_)
    have rz7 : -2147483648 ≤ z7 ∧ z7 ≤ 2147483647 := ⟨by omega, by omega⟩
    refine jT.icmp rfl rx1 rz7 (fun c5 => ?_) (fun c5 => ?_)
    · have c5 := of_decide_eq_true c5
      exact jT.ret oh2 rfl rfl rfl rfl
    · have c5 := of_decide_eq_false c5
      iterate 2 refine mj_T.pl rfl rfl rfl rfl ?_
      refine jT.lc 0 rfl rfl ?_
      refine jT.last oh2 rfl kp0 rx1 ⟨by omega, by omega⟩ ⟨by decide, by decide⟩ (fun h8 oh8 uh8 => ?_)
      refine jT.iinc rfl rfl (fun z9 rz9 ez9 => ?_)
      replace ez9 := ez9 ⟨by omega, by omega⟩
      refine mj_T.eq (loc2 := [some (.ref p0), some (.int (jn z9))]) ?_ rfl rfl rfl rfl
      refine mj_T.pl rfl rfl rfl rfl ?_
      exact ih5 ((2147483647 - z9 : Int).toNat) (by omega) z9 h8 rz9 oh8 (by omega) rfl
  exact t2_3 _ 0 h ⟨by decide, by decide⟩ o (by omega) rfl
