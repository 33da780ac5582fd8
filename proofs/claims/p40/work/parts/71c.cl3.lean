/-! The class by kinds: its methods. -/
-- PolyRegisters$Wide.setLong(J)V
theorem jc_86 {D n : Nat} {tm : Int} {h g : mj_H} {K L : Nat → Nat} {R : Nat → Nat → Nat} {p0 : Nat} {p1 : Int} (ty : jTY K L R) (hg : g.length ≤ n) (o : jO K L R g n tm h) (kp0 : K p0 = 18) (jp1 : jR p1) : mj_Ok (D + 1) 86 [.ref p0, .long (jl p1)] h (jQ K L R g n tm [] jV0) := by
  refine mj_Ok.of (M := mj_m86) (loc := [some (.ref p0), some (.long (jl p1)), none, none, none, none, none]) rfl rfl rfl ?_
  refine mj_T.pl rfl rfl rfl rfl ?_
  refine mj_T.pl (loc' := [some (.ref p0), some (.long (jl p1)), none, some (.long (jl p1)), none, none, none]) rfl rfl rfl rfl ?_
  iterate 2 refine mj_T.pl rfl rfl rfl rfl ?_
  refine jT.putI 18 10 o rfl kp0 (by decide) rfl rfl rfl (Or.inl rfl) (by show 0 ≤ 0; omega) (by show 0 ≤ 1000; omega) (fun h1 oh1 wh1 uh1 => ?_)
  refine mj_T.pl rfl rfl rfl rfl ?_
  refine mj_T.pl (loc' := [some (.ref p0), some (.long (jl p1)), none, some (.long (jl p1)), none, some (.int (jn 0)), none]) rfl rfl rfl rfl ?_
  have t10_6 : ∀ (k7 : Nat) (y2 : Int) (x3 : Int) (w4 : Option Value) (h5 : mj_H), (jR y2) → (-2147483648 ≤ x3 ∧ x3 ≤ 2147483647) → (jO K L R g n tm h5) → (0 ≤ x3) → (2147483647 - x3 : Int).toNat = k7 → mj_T (D + 0) mj_m86 10 [some (.ref p0), some (.long (jl p1)), none, some (.long (jl y2)), none, some (.int (jn x3)), w4] [] h5 (jQ K L R g n tm [] jV0) := by
    refine jInd (fun k7 ih8 => ?_)
    intro y2 x3 w4 h5 jy2 rx3 oh5 ix3 hm9
    refine mj_T.pl rfl rfl rfl rfl ?_
    refine mj_T.pl rfl rfl rfl rfl ?_
    refine jT.getR 18 101 1 ty oh5 rfl kp0 (by decide) rfl rfl rfl (fun k10 => ?_)
    refine jT.alen 1 ty oh5 rfl k10 (by decide) (by decide) (fun z11 ez11 (az11 : 0 ≤ z11) (bz11 : z11 ≤ 1000) => ?_)
    have rz11 : -2147483648 ≤ z11 ∧ z11 ≤ 2147483647 := ⟨by omega, by omega⟩
    have t74_12 : mj_T (D + 0) mj_m86 74 [some (.ref p0), some (.long (jl p1)), none, some (.long (jl y2)), none, some (.int (jn x3)), w4] [] h5 (jQ K L R g n tm [] jV0) := by
      iterate 2 refine mj_T.pl rfl rfl rfl rfl ?_
      refine jT.lc 0 rfl rfl ?_
      refine mj_T.lif rfl rfl jp1 ⟨by decide, by decide⟩ (fun c77 => ?_) (fun c77 => ?_)
      · have c77 := of_decide_eq_true c77
        refine mj_T.pl rfl rfl rfl rfl ?_
        refine jT.lc 0 rfl rfl ?_
        refine mj_T.lif rfl rfl jp1 ⟨by decide, by decide⟩ (fun c87 => ?_) (fun c87 => ?_)
        · have c87 := of_decide_eq_true c87
          refine mj_T.pl rfl rfl rfl rfl ?_
          refine jT.putI 18 0 oh5 rfl kp0 (by decide) rfl rfl rfl (Or.inl rfl) (by show (-2147483648) ≤ 0; omega) (by show 0 ≤ 2147483647; omega) (fun h13 oh13 wh13 uh13 => ?_)
          exact jT.ret oh13 rfl rfl rfl rfl
        · have c87 := of_decide_eq_false c87
          iterate 2 refine mj_T.pl rfl rfl rfl rfl ?_
          refine jT.putI 18 0 oh5 rfl kp0 (by decide) rfl rfl rfl (Or.inl rfl) (by show (-2147483648) ≤ 1; omega) (by show 1 ≤ 2147483647; omega) (fun h14 oh14 wh14 uh14 => ?_)
          exact jT.ret oh14 rfl rfl rfl rfl
      · have c77 := of_decide_eq_false c77
        iterate 2 refine mj_T.pl rfl rfl rfl rfl ?_
        refine jT.putI 18 0 oh5 rfl kp0 (by decide) rfl rfl rfl (Or.inl rfl) (by show (-2147483648) ≤ (-1); omega) (by show (-1) ≤ 2147483647; omega) (fun h15 oh15 wh15 uh15 => ?_)
        exact jT.ret oh15 rfl rfl rfl rfl
    refine jT.icmp rfl rx3 rz11 (fun c17 => ?_) (fun c17 => ?_)
    · have c17 := of_decide_eq_true c17
      exact t74_12 
    · have c17 := of_decide_eq_false c17
      refine mj_T.pl rfl rfl rfl rfl ?_
      refine jT.lc 0 rfl rfl ?_
      refine mj_T.lif rfl rfl jy2 ⟨by decide, by decide⟩ (fun c22 => ?_) (fun c22 => ?_)
      · have c22 := of_decide_eq_true c22
        exact t74_12 
      · have c22 := of_decide_eq_false c22
        refine mj_T.pl rfl rfl rfl rfl ?_
        refine jT.ldcL rfl ?_
        refine jT.lrem rfl ⟨by decide, by decide⟩ (by decide) (fun z16 jz16 => ?_)
        refine jT.l2i rfl (fun z17 rz17 _ => ?_)
        refine mj_T.pl (loc' := [some (.ref p0), some (.long (jl p1)), none, some (.long (jl y2)), none, some (.int (jn x3)), some (.int (jn z17))]) rfl rfl rfl rfl ?_
        refine mj_T.pl rfl rfl rfl rfl ?_
        refine jT.getR 18 101 1 ty oh5 rfl kp0 (by decide) rfl rfl rfl (fun k18 => ?_)
        iterate 2 refine mj_T.pl rfl rfl rfl rfl ?_
        have t53_20 : ∀ (x19 : Int), (-2147483648 ≤ x19 ∧ x19 ≤ 2147483647) → mj_T (D + 0) mj_m86 53 [some (.ref p0), some (.long (jl p1)), none, some (.long (jl y2)), none, some (.int (jn x3)), some (.int (jn z17))] [.int (jn x19), .int (jn x3), .ref (R p0 0)] h5 (jQ K L R g n tm [] jV0) := by
          intro x19 rx19
          refine jT.iast oh5 rfl k18 rx3 ⟨by omega, by omega⟩ rx19 (fun h21 oh21 uh21 => ?_)
          refine mj_T.pl rfl rfl rfl rfl ?_
          refine jT.ldcL rfl ?_
          refine jT.ldiv rfl ⟨by decide, by decide⟩ (by decide) (fun z22 jz22 => ?_)
          refine mj_T.pl (loc' := [some (.ref p0), some (.long (jl p1)), none, some (.long (jl z22)), none, some (.int (jn x3)), some (.int (jn z17))]) rfl rfl rfl rfl ?_
          iterate 3 refine mj_T.pl rfl rfl rfl rfl ?_
          refine jT.iadd rfl (fun z23 rz23 ez23 => ?_)
          replace ez23 := ez23 ⟨by omega, by omega⟩
          refine jT.putI 18 10 oh21 rfl kp0 (by decide) rfl rfl rfl (Or.inl rfl) (by show 0 ≤ z23; omega) (by show z23 ≤ 1000; omega) (fun h24 oh24 wh24 uh24 => ?_)
          refine jT.iinc rfl rfl (fun z25 rz25 ez25 => ?_)
          replace ez25 := ez25 ⟨by omega, by omega⟩
          refine mj_T.eq (loc2 := [some (.ref p0), some (.long (jl p1)), none, some (.long (jl z22)), none, some (.int (jn z25)), some (.int (jn z17))]) ?_ rfl rfl rfl rfl
          refine mj_T.pl rfl rfl rfl rfl ?_
          exact ih8 ((2147483647 - z25 : Int).toNat) (by omega) z22 z25 (some (.int (jn z17))) h24 jz22 rz25 oh24 (by omega) rfl
        refine jT.if0 rfl rz17 (fun c42 => ?_) (fun c42 => ?_)
        · have c42 := of_decide_eq_true c42
          refine mj_T.pl rfl rfl rfl rfl ?_
          exact t53_20 z17 rz17
        · have c42 := of_decide_eq_false c42
          refine mj_T.pl rfl rfl rfl rfl ?_
          refine jT.ineg rfl (fun z26 rz26 _ => ?_)
          refine mj_T.pl rfl rfl rfl rfl ?_
          exact t53_20 z26 rz26
  exact t10_6 _ p1 0 none h1 jp1 ⟨by decide, by decide⟩ oh1 (by omega) rfl
-- PolyRegisters$Wide.set(LPolyRegisters$Wide;)V
theorem jc_87 {D n : Nat} {tm : Int} {h g : mj_H} {K L : Nat → Nat} {R : Nat → Nat → Nat} {p0 : Nat} {p1 : Nat} (ty : jTY K L R) (hg : g.length ≤ n) (o : jO K L R g n tm h) (kp0 : K p0 = 18) (kp1 : K p1 = 18) : mj_Ok (D + 1) 87 [.ref p0, .ref p1] h (jQ K L R g n tm [] jV0) := by
  refine mj_Ok.of (M := mj_m87) (loc := [some (.ref p0), some (.ref p1), none]) rfl rfl rfl ?_
  iterate 2 refine mj_T.pl rfl rfl rfl rfl ?_
  refine jT.getI 18 10 o rfl kp1 (by decide) rfl rfl rfl (fun z1 (az1 : 0 ≤ z1) (bz1 : z1 ≤ 1000) fz1 => ?_)
  have rz1 : -2147483648 ≤ z1 ∧ z1 ≤ 2147483647 := ⟨by omega, by omega⟩
  refine mj_T.pl rfl rfl rfl rfl ?_
  refine jT.getR 18 101 1 ty o rfl kp0 (by decide) rfl rfl rfl (fun k2 => ?_)
  refine jT.alen 1 ty o rfl k2 (by decide) (by decide) (fun z3 ez3 (az3 : 0 ≤ z3) (bz3 : z3 ≤ 1000) => ?_)
  have rz3 : -2147483648 ≤ z3 ∧ z3 ≤ 2147483647 := ⟨by omega, by omega⟩
  refine mj_T.pl rfl rfl rfl rfl ?_
  refine jT.getR 18 101 1 ty o rfl kp1 (by decide) rfl rfl rfl (fun k4 => ?_)
  refine jT.alen 1 ty o rfl k4 (by decide) (by decide) (fun z5 ez5 (az5 : 0 ≤ z5) (bz5 : z5 ≤ 1000) => ?_)
  have rz5 : -2147483648 ≤ z5 ∧ z5 ≤ 2147483647 := ⟨by omega, by omega⟩
  refine jT.imin rfl rfl (Nat.le_of_ble_eq_true rfl) rz3 rz5 (fun z6 ez6 => ?_)
  have rz6 : -2147483648 ≤ z6 ∧ z6 ≤ 2147483647 := ⟨by omega, by omega⟩
  refine jT.imin rfl rfl (Nat.le_of_ble_eq_true rfl) rz1 rz6 (fun z7 ez7 => ?_)
  have rz7 : -2147483648 ≤ z7 ∧ z7 ≤ 2147483647 := ⟨by omega, by omega⟩
  refine jT.putI 18 10 o rfl kp0 (by decide) rfl rfl rfl (Or.inl rfl) (by show 0 ≤ z7; omega) (by show z7 ≤ 1000; omega) (fun h8 oh8 wh8 uh8 => ?_)
  refine mj_T.pl rfl rfl rfl rfl ?_
  refine mj_T.pl (loc' := [some (.ref p0), some (.ref p1), some (.int (jn 0))]) rfl rfl rfl rfl ?_
  have t26_12 : ∀ (k13 : Nat) (x9 : Int) (h10 : mj_H), (-2147483648 ≤ x9 ∧ x9 ≤ 2147483647) → (jO K L R g n tm h10) → (jfI h10 p0 1 = z7) → (0 ≤ x9) → (2147483647 - x9 : Int).toNat = k13 → mj_T (D + 0) mj_m87 26 [some (.ref p0), some (.ref p1), some (.int (jn x9))] [] h10 (jQ K L R g n tm [] jV0) := by
    refine jInd (fun k13 ih14 => ?_)
    intro x9 h10 rx9 oh10 f11 ix9 hm15
    refine mj_T.pl rfl rfl rfl rfl ?_
    refine mj_T.pl rfl rfl rfl rfl ?_
    refine jT.getK 18 10 oh10 rfl kp0 (by decide) rfl rfl rfl f11 ?_
    refine jT.icmp rfl rx9 rz7 (fun c31 => ?_) (fun c31 => ?_)
    · have c31 := of_decide_eq_true c31
      iterate 2 refine mj_T.pl rfl rfl rfl rfl ?_
      refine jT.getK 18 10 oh10 rfl kp0 (by decide) rfl rfl rfl f11 ?_
      refine jT.if0 rfl rz7 (fun c57 => ?_) (fun c57 => ?_)
      · have c57 := jne1 c57
        refine mj_T.pl rfl rfl rfl rfl ?_
        refine jT.getI 18 0 oh10 rfl kp1 (by decide) rfl rfl rfl (fun z16 (az16 : (-2147483648) ≤ z16) (bz16 : z16 ≤ 2147483647) fz16 => ?_)
        have rz16 : -2147483648 ≤ z16 ∧ z16 ≤ 2147483647 := ⟨by omega, by omega⟩
        refine jT.putI 18 0 oh10 rfl kp0 (by decide) rfl rfl rfl (Or.inl rfl) (by show (-2147483648) ≤ z16; omega) (by show z16 ≤ 2147483647; omega) (fun h17 oh17 wh17 uh17 => ?_)
        exact jT.ret oh17 rfl rfl rfl rfl
      · have c57 := jne2 c57
        iterate 2 refine mj_T.pl rfl rfl rfl rfl ?_
        refine jT.putI 18 0 oh10 rfl kp0 (by decide) rfl rfl rfl (Or.inl rfl) (by show (-2147483648) ≤ 0; omega) (by show 0 ≤ 2147483647; omega) (fun h18 oh18 wh18 uh18 => ?_)
        exact jT.ret oh18 rfl rfl rfl rfl
    · have c31 := of_decide_eq_false c31
      refine mj_T.pl rfl rfl rfl rfl ?_
      refine jT.getR 18 101 1 ty oh10 rfl kp0 (by decide) rfl rfl rfl (fun k19 => ?_)
      iterate 2 refine mj_T.pl rfl rfl rfl rfl ?_
      refine jT.getR 18 101 1 ty oh10 rfl kp1 (by decide) rfl rfl rfl (fun k20 => ?_)
      refine mj_T.pl rfl rfl rfl rfl ?_
      refine jT.iald oh10 rfl k20 rx9 ⟨by omega, by omega⟩ (fun z21 rz21 fz21 => ?_)
      refine jT.iast oh10 rfl k19 rx9 ⟨by omega, by omega⟩ rz21 (fun h22 oh22 uh22 => ?_)
      refine jT.iinc rfl rfl (fun z23 rz23 ez23 => ?_)
      replace ez23 := ez23 ⟨by omega, by omega⟩
      refine mj_T.eq (loc2 := [some (.ref p0), some (.ref p1), some (.int (jn z23))]) ?_ rfl rfl rfl rfl
      refine mj_T.pl rfl rfl rfl rfl ?_
      exact ih14 ((2147483647 - z23 : Int).toNat) (by omega) z23 h22 rz23 oh22 ((uh22 p0 1).trans f11) (by omega) rfl
  exact t26_12 _ 0 h8 ⟨by decide, by decide⟩ oh8 wh8 (by omega) rfl
-- PolyRegisters$Wide.setSizeOf(LPolyRegisters$Wide;)V
theorem jc_88 {D n : Nat} {tm : Int} {h g : mj_H} {K L : Nat → Nat} {R : Nat → Nat → Nat} {p0 : Nat} {p1 : Nat} (ty : jTY K L R) (hg : g.length ≤ n) (o : jO K L R g n tm h) (kp0 : K p0 = 18) (kp1 : K p1 = 18) : mj_Ok (D + 2) 88 [.ref p0, .ref p1] h (jQ K L R g n tm [] jV0) := by
  refine mj_Ok.of (M := mj_m88) (loc := [some (.ref p0), some (.ref p1)]) rfl rfl rfl ?_
  iterate 2 refine mj_T.pl rfl rfl rfl rfl ?_
  refine jT.call rfl rfl (Nat.le_of_ble_eq_true rfl) (Nat.le_of_ble_eq_true rfl) (jrv_of o kp0 (by decide) rfl (by decide) rfl _) rfl (mj_Ok.up (Nat.add_le_add_left (by decide) D) (jc_87 (D := D) ty hg o kp0 kp1)) rfl rfl (fun v1 h2 qv1 oh2 => ?_)
  obtain rfl : v1 = none := qv1
  refine mj_T.eq (pc2 := 5) (st2 := []) ?_ rfl rfl rfl rfl
  iterate 2 refine mj_T.pl rfl rfl rfl rfl ?_
  refine jT.getI 18 0 oh2 rfl kp0 (by decide) rfl rfl rfl (fun z3 (az3 : (-2147483648) ≤ z3) (bz3 : z3 ≤ 2147483647) fz3 => ?_)
  have rz3 : -2147483648 ≤ z3 ∧ z3 ≤ 2147483647 := ⟨by omega, by omega⟩
  refine jT.if0 rfl rz3 (fun c10 => ?_) (fun c10 => ?_)
  · have c10 := jne1 c10
    refine mj_T.pl rfl rfl rfl rfl ?_
    refine jT.putI 18 0 oh2 rfl kp0 (by decide) rfl rfl rfl (Or.inl rfl) (by show (-2147483648) ≤ 1; omega) (by show 1 ≤ 2147483647; omega) (fun h4 oh4 wh4 uh4 => ?_)
    exact jT.ret oh4 rfl rfl rfl rfl
  · have c10 := jne2 c10
    iterate 2 refine mj_T.pl rfl rfl rfl rfl ?_
    refine jT.putI 18 0 oh2 rfl kp0 (by decide) rfl rfl rfl (Or.inl rfl) (by show (-2147483648) ≤ 0; omega) (by show 0 ≤ 2147483647; omega) (fun h5 oh5 wh5 uh5 => ?_)
    exact jT.ret oh5 rfl rfl rfl rfl
-- PolyRegisters$Wide.limbAt(I)I
theorem jc_89 {D n : Nat} {tm : Int} {h g : mj_H} {K L : Nat → Nat} {R : Nat → Nat → Nat} {p0 : Nat} {p1 : Int} (ty : jTY K L R) (hg : g.length ≤ n) (o : jO K L R g n tm h) (kp0 : K p0 = 18) (rp1 : -2147483648 ≤ p1 ∧ p1 ≤ 2147483647) : mj_Ok (D + 1) 89 [.ref p0, .int (jn p1)] h (jQp K L R g n tm h [] (jVi (-2147483648) 2147483647)) := by
  refine mj_Ok.of (M := mj_m89) (loc := [some (.ref p0), some (.int (jn p1))]) rfl rfl rfl ?_
  refine mj_T.pl rfl rfl rfl rfl ?_
  refine jT.if0 rfl rp1 (fun c1 => ?_) (fun c1 => ?_)
  · have c1 := of_decide_eq_true c1
    refine mj_T.pl rfl rfl rfl rfl ?_
    exact jT.retp rfl rfl rfl ⟨0, by omega, by omega, rfl⟩
  · have c1 := of_decide_eq_false c1
    iterate 2 refine mj_T.pl rfl rfl rfl rfl ?_
    refine jT.getI 18 10 o rfl kp0 (by decide) rfl rfl rfl (fun z1 (az1 : 0 ≤ z1) (bz1 : z1 ≤ 1000) fz1 => ?_)
    have rz1 : -2147483648 ≤ z1 ∧ z1 ≤ 2147483647 := ⟨by omega, by omega⟩
    refine jT.icmp rfl rp1 rz1 (fun c9 => ?_) (fun c9 => ?_)
    · have c9 := of_decide_eq_true c9
      refine mj_T.pl rfl rfl rfl rfl ?_
      exact jT.retp rfl rfl rfl ⟨0, by omega, by omega, rfl⟩
    · have c9 := of_decide_eq_false c9
      iterate 2 refine mj_T.pl rfl rfl rfl rfl ?_
      refine jT.getR 18 101 1 ty o rfl kp0 (by decide) rfl rfl rfl (fun k2 => ?_)
      refine jT.alen 1 ty o rfl k2 (by decide) (by decide) (fun z3 ez3 (az3 : 0 ≤ z3) (bz3 : z3 ≤ 1000) => ?_)
      have rz3 : -2147483648 ≤ z3 ∧ z3 ≤ 2147483647 := ⟨by omega, by omega⟩
      refine jT.icmp rfl rp1 rz3 (fun c18 => ?_) (fun c18 => ?_)
      · have c18 := of_decide_eq_true c18
        refine mj_T.pl rfl rfl rfl rfl ?_
        exact jT.retp rfl rfl rfl ⟨0, by omega, by omega, rfl⟩
      · have c18 := of_decide_eq_false c18
        refine mj_T.pl rfl rfl rfl rfl ?_
        refine jT.getR 18 101 1 ty o rfl kp0 (by decide) rfl rfl rfl (fun k4 => ?_)
        refine mj_T.pl rfl rfl rfl rfl ?_
        refine jT.iald o rfl k4 rp1 ⟨by omega, by omega⟩ (fun z5 rz5 fz5 => ?_)
        refine mj_T.pl rfl rfl rfl rfl ?_
        exact jT.retp rfl rfl rfl ⟨z5, by omega, by omega, rfl⟩
-- PolyRegisters$Wide.putLimb(II)V
theorem jc_90 {D n : Nat} {tm : Int} {h g : mj_H} {K L : Nat → Nat} {R : Nat → Nat → Nat} {p0 : Nat} {p1 : Int} {p2 : Int} (ty : jTY K L R) (hg : g.length ≤ n) (o : jO K L R g n tm h) (kp0 : K p0 = 18) (rp1 : -2147483648 ≤ p1 ∧ p1 ≤ 2147483647) (rp2 : -2147483648 ≤ p2 ∧ p2 ≤ 2147483647) : mj_Ok (D + 1) 90 [.ref p0, .int (jn p1), .int (jn p2)] h (jQ K L R g n tm [] jV0) := by
  refine mj_Ok.of (M := mj_m90) (loc := [some (.ref p0), some (.int (jn p1)), some (.int (jn p2))]) rfl rfl rfl ?_
  refine mj_T.pl rfl rfl rfl rfl ?_
  refine jT.if0 rfl rp1 (fun c1 => ?_) (fun c1 => ?_)
  · have c1 := of_decide_eq_true c1
    exact jT.ret o rfl rfl rfl rfl
  · have c1 := of_decide_eq_false c1
    iterate 2 refine mj_T.pl rfl rfl rfl rfl ?_
    refine jT.getR 18 101 1 ty o rfl kp0 (by decide) rfl rfl rfl (fun k1 => ?_)
    refine jT.alen 1 ty o rfl k1 (by decide) (by decide) (fun z2 ez2 (az2 : 0 ≤ z2) (bz2 : z2 ≤ 1000) => ?_)
    have rz2 : -2147483648 ≤ z2 ∧ z2 ≤ 2147483647 := ⟨by omega, by omega⟩
    refine jT.icmp rfl rp1 rz2 (fun c10 => ?_) (fun c10 => ?_)
    · have c10 := of_decide_eq_true c10
      exact jT.ret o rfl rfl rfl rfl
    · have c10 := of_decide_eq_false c10
      refine mj_T.pl rfl rfl rfl rfl ?_
      refine jT.getR 18 101 1 ty o rfl kp0 (by decide) rfl rfl rfl (fun k3 => ?_)
      iterate 2 refine mj_T.pl rfl rfl rfl rfl ?_
      refine jT.iast o rfl k3 rp1 ⟨by omega, by omega⟩ rp2 (fun h4 oh4 uh4 => ?_)
      refine mj_T.pl rfl rfl rfl rfl ?_
      refine jT.if0 rfl rp2 (fun c21 => ?_) (fun c21 => ?_)
      · have c21 := of_decide_eq_true c21
        exact jT.ret oh4 rfl rfl rfl rfl
      · have c21 := of_decide_eq_false c21
        iterate 2 refine mj_T.pl rfl rfl rfl rfl ?_
        refine jT.getI 18 10 oh4 rfl kp0 (by decide) rfl rfl rfl (fun z5 (az5 : 0 ≤ z5) (bz5 : z5 ≤ 1000) fz5 => ?_)
        have rz5 : -2147483648 ≤ z5 ∧ z5 ≤ 2147483647 := ⟨by omega, by omega⟩
        refine jT.icmp rfl rp1 rz5 (fun c29 => ?_) (fun c29 => ?_)
        · have c29 := of_decide_eq_true c29
          exact jT.ret oh4 rfl rfl rfl rfl
        · have c29 := of_decide_eq_false c29
          iterate 3 refine mj_T.pl rfl rfl rfl rfl ?_
          refine jT.iadd rfl (fun z6 rz6 ez6 => ?_)
          replace ez6 := ez6 ⟨by omega, by omega⟩
          refine jT.putI 18 10 oh4 rfl kp0 (by decide) rfl rfl rfl (Or.inl rfl) (by show 0 ≤ z6; omega) (by show z6 ≤ 1000; omega) (fun h7 oh7 wh7 uh7 => ?_)
          exact jT.ret oh7 rfl rfl rfl rfl
-- PolyRegisters$Wide.isLess(LPolyRegisters$Wide;)Z
theorem jc_92 {D n : Nat} {tm : Int} {h g : mj_H} {K L : Nat → Nat} {R : Nat → Nat → Nat} {p0 : Nat} {p1 : Nat} (ty : jTY K L R) (hg : g.length ≤ n) (o : jO K L R g n tm h) (kp0 : K p0 = 18) (kp1 : K p1 = 18) : mj_Ok (D + 1) 92 [.ref p0, .ref p1] h (jQp K L R g n tm h [] (jVi 0 1)) := by
  refine mj_Ok.of (M := mj_m92) (loc := [some (.ref p0), some (.ref p1), none]) rfl rfl rfl ?_
  refine mj_T.pl rfl rfl rfl rfl ?_
  refine jT.getI 18 10 o rfl kp0 (by decide) rfl rfl rfl (fun z1 (az1 : 0 ≤ z1) (bz1 : z1 ≤ 1000) fz1 => ?_)
  have rz1 : -2147483648 ≤ z1 ∧ z1 ≤ 2147483647 := ⟨by omega, by omega⟩
  refine mj_T.pl rfl rfl rfl rfl ?_
  refine jT.getI 18 10 o rfl kp1 (by decide) rfl rfl rfl (fun z2 (az2 : 0 ≤ z2) (bz2 : z2 ≤ 1000) fz2 => ?_)
  have rz2 : -2147483648 ≤ z2 ∧ z2 ≤ 2147483647 := ⟨by omega, by omega⟩
  refine jT.icmp rfl rz1 rz2 (fun c8 => ?_) (fun c8 => ?_)
  · have c8 := of_decide_eq_true c8
    refine mj_T.pl rfl rfl rfl rfl ?_
    refine jT.getK 18 10 o rfl kp0 (by decide) rfl rfl rfl fz1.symm ?_
    refine mj_T.pl rfl rfl rfl rfl ?_
    refine jT.isub rfl (fun z3 rz3 ez3 => ?_)
    replace ez3 := ez3 ⟨by omega, by omega⟩
    refine mj_T.pl (loc' := [some (.ref p0), some (.ref p1), some (.int (jn z3))]) rfl rfl rfl rfl ?_
    have t35_5 : ∀ (k6 : Nat) (x4 : Int), (-2147483648 ≤ x4 ∧ x4 ≤ 2147483647) → (x4 ≤ z3) → (x4 + 1 : Int).toNat = k6 → mj_T (D + 0) mj_m92 35 [some (.ref p0), some (.ref p1), some (.int (jn x4))] [] h (jQp K L R g n tm h [] (jVi 0 1)) := by
      refine jInd (fun k6 ih7 => ?_)
      intro x4 rx4 ix4 hm8
      refine mj_T.pl rfl rfl rfl rfl ?_
      refine jT.if0 rfl rx4 (fun c36 => ?_) (fun c36 => ?_)
      · have c36 := of_decide_eq_true c36
        refine mj_T.pl rfl rfl rfl rfl ?_
        exact jT.retbp rfl rfl (by omega) (by omega)
      · have c36 := of_decide_eq_false c36
        iterate 2 refine mj_T.pl rfl rfl rfl rfl ?_
        refine jT.getR 18 101 1 ty o rfl kp0 (by decide) rfl rfl rfl (fun k9 => ?_)
        refine jT.alen 1 ty o rfl k9 (by decide) (by decide) (fun z10 ez10 (az10 : 0 ≤ z10) (bz10 : z10 ≤ 1000) => ?_)
        have rz10 : -2147483648 ≤ z10 ∧ z10 ≤ 2147483647 := ⟨by omega, by omega⟩
        refine jT.icmp rfl rx4 rz10 (fun c45 => ?_) (fun c45 => ?_)
        · have c45 := of_decide_eq_true c45
          refine mj_T.pl rfl rfl rfl rfl ?_
          exact jT.retbp rfl rfl (by omega) (by omega)
        · have c45 := of_decide_eq_false c45
          iterate 2 refine mj_T.pl rfl rfl rfl rfl ?_
          refine jT.getR 18 101 1 ty o rfl kp1 (by decide) rfl rfl rfl (fun k11 => ?_)
          refine jT.alen 1 ty o rfl k11 (by decide) (by decide) (fun z12 ez12 (az12 : 0 ≤ z12) (bz12 : z12 ≤ 1000) => ?_)
          have rz12 : -2147483648 ≤ z12 ∧ z12 ≤ 2147483647 := ⟨by omega, by omega⟩
          refine jT.icmp rfl rx4 rz12 (fun c54 => ?_) (fun c54 => ?_)
          · have c54 := of_decide_eq_true c54
            refine mj_T.pl rfl rfl rfl rfl ?_
            exact jT.retbp rfl rfl (by omega) (by omega)
          · have c54 := of_decide_eq_false c54
            refine mj_T.pl rfl rfl rfl rfl ?_
            refine jT.getR 18 101 1 ty o rfl kp0 (by decide) rfl rfl rfl (fun k13 => ?_)
            refine mj_T.pl rfl rfl rfl rfl ?_
            refine jT.iald o rfl k13 rx4 ⟨by omega, by omega⟩ (fun z14 rz14 fz14 => ?_)
            refine mj_T.pl rfl rfl rfl rfl ?_
            refine jT.getR 18 101 1 ty o rfl kp1 (by decide) rfl rfl rfl (fun k15 => ?_)
            refine mj_T.pl rfl rfl rfl rfl ?_
            refine jT.iald o rfl k15 rx4 ⟨by omega, by omega⟩ (fun z16 rz16 fz16 => ?_)
            refine jT.icmp rfl rz14 rz16 (fun c69 => ?_) (fun c69 => ?_)
            · have c69 := of_decide_eq_true c69
              refine jT.iinc rfl rfl (fun z17 rz17 ez17 => ?_)
              replace ez17 := ez17 ⟨by omega, by omega⟩
              refine mj_T.eq (loc2 := [some (.ref p0), some (.ref p1), some (.int (jn z17))]) ?_ rfl rfl rfl rfl
              refine mj_T.pl rfl rfl rfl rfl ?_
              exact ih7 ((z17 + 1 : Int).toNat) (by omega) z17 rz17 (by omega) rfl
            · have c69 := of_decide_eq_false c69
              refine mj_T.pl rfl rfl rfl rfl ?_
              refine jT.getR 18 101 1 ty o rfl kp0 (by decide) rfl rfl rfl (fun k18 => ?_)
              refine mj_T.pl rfl rfl rfl rfl ?_
              refine jT.iald o rfl k18 rx4 ⟨by omega, by omega⟩ (fun z19 rz19 fz19 => ?_)
              have gz19 : z19 = z14 := fz19.trans ((congrArg (fun t : Int => jaI h (R p0 0) t.toNat) (show x4 = x4 by omega)).trans fz14.symm)
              refine mj_T.pl rfl rfl rfl rfl ?_
              refine jT.getR 18 101 1 ty o rfl kp1 (by decide) rfl rfl rfl (fun k20 => ?_)
              refine mj_T.pl rfl rfl rfl rfl ?_
              refine jT.iald o rfl k20 rx4 ⟨by omega, by omega⟩ (fun z21 rz21 fz21 => ?_)
              have gz21 : z21 = z16 := fz21.trans ((congrArg (fun t : Int => jaI h (R p1 0) t.toNat) (show x4 = x4 by omega)).trans fz16.symm)
              refine jT.icmp rfl rz19 rz21 (fun c84 => ?_) (fun c84 => ?_)
              · have c84 := of_decide_eq_true c84
                refine mj_T.pl rfl rfl rfl rfl ?_
                exact jT.retbp rfl rfl (by omega) (by omega)
              · have c84 := of_decide_eq_false c84
                iterate 2 refine mj_T.pl rfl rfl rfl rfl ?_
                exact jT.retbp rfl rfl (by omega) (by omega)
    exact t35_5 _ z3 rz3 (by omega) rfl
  · have c8 := of_decide_eq_false c8
    refine mj_T.pl rfl rfl rfl rfl ?_
    refine jT.getK 18 10 o rfl kp0 (by decide) rfl rfl rfl fz1.symm ?_
    refine mj_T.pl rfl rfl rfl rfl ?_
    refine jT.getK 18 10 o rfl kp1 (by decide) rfl rfl rfl fz2.symm ?_
    refine jT.icmp rfl rz1 rz2 (fun c19 => ?_) (fun c19 => ?_)
    · have c19 := of_decide_eq_true c19
      refine mj_T.pl rfl rfl rfl rfl ?_
      exact jT.retbp rfl rfl (by omega) (by omega)
    · have c19 := of_decide_eq_false c19
      iterate 2 refine mj_T.pl rfl rfl rfl rfl ?_
      exact jT.retbp rfl rfl (by omega) (by omega)
-- PolyRegisters$Wide.gather(LPolyRegisters$Wide;)V
theorem jc_93 {D n : Nat} {tm : Int} {h g : mj_H} {K L : Nat → Nat} {R : Nat → Nat → Nat} {p0 : Nat} {p1 : Nat} (ty : jTY K L R) (hg : g.length ≤ n) (o : jO K L R g n tm h) (kp0 : K p0 = 18) (kp1 : K p1 = 18) : mj_Ok (D + 1) 93 [.ref p0, .ref p1] h (jQ K L R g n tm [] jV0) := by
  refine mj_Ok.of (M := mj_m93) (loc := [some (.ref p0), some (.ref p1), none, none, none, none, none]) rfl rfl rfl ?_
  refine mj_T.pl rfl rfl rfl rfl ?_
  refine jT.getI 18 10 o rfl kp0 (by decide) rfl rfl rfl (fun z1 (az1 : 0 ≤ z1) (bz1 : z1 ≤ 1000) fz1 => ?_)
  have rz1 : -2147483648 ≤ z1 ∧ z1 ≤ 2147483647 := ⟨by omega, by omega⟩
  refine mj_T.pl (loc' := [some (.ref p0), some (.ref p1), some (.int (jn z1)), none, none, none, none]) rfl rfl rfl rfl ?_
  refine mj_T.pl rfl rfl rfl rfl ?_
  refine jT.getI 18 10 o rfl kp1 (by decide) rfl rfl rfl (fun z2 (az2 : 0 ≤ z2) (bz2 : z2 ≤ 1000) fz2 => ?_)
  have rz2 : -2147483648 ≤ z2 ∧ z2 ≤ 2147483647 := ⟨by omega, by omega⟩
  refine mj_T.pl rfl rfl rfl rfl ?_
  refine jT.getR 18 101 1 ty o rfl kp1 (by decide) rfl rfl rfl (fun k3 => ?_)
  refine jT.alen 1 ty o rfl k3 (by decide) (by decide) (fun z4 ez4 (az4 : 0 ≤ z4) (bz4 : z4 ≤ 1000) => ?_)
  have rz4 : -2147483648 ≤ z4 ∧ z4 ≤ 2147483647 := ⟨by omega, by omega⟩
  refine jT.imin rfl rfl (Nat.le_of_ble_eq_true rfl) rz2 rz4 (fun z5 ez5 => ?_)
  have rz5 : -2147483648 ≤ z5 ∧ z5 ≤ 2147483647 := ⟨by omega, by omega⟩
  refine mj_T.pl (loc' := [some (.ref p0), some (.ref p1), some (.int (jn z1)), some (.int (jn z5)), none, none, none]) rfl rfl rfl rfl ?_
  refine mj_T.pl rfl rfl rfl rfl ?_
  refine mj_T.pl (loc' := [some (.ref p0), some (.ref p1), some (.int (jn z1)), some (.int (jn z5)), some (.int (jn 0)), none, none]) rfl rfl rfl rfl ?_
  refine mj_T.pl rfl rfl rfl rfl ?_
  refine mj_T.pl (loc' := [some (.ref p0), some (.ref p1), some (.int (jn z1)), some (.int (jn z5)), some (.int (jn 0)), some (.int (jn 0)), none]) rfl rfl rfl rfl ?_
  have t24_10 : ∀ (k11 : Nat) (x6 : Int) (x7 : Int) (w8 : Option Value) (h9 : mj_H), (0 ≤ x6 ∧ x6 ≤ 1) → (-2147483648 ≤ x7 ∧ x7 ≤ 2147483647) → (jO K L R g n tm h9) → (0 ≤ x7) → (2147483647 - x7 : Int).toNat = k11 → mj_T (D + 0) mj_m93 24 [some (.ref p0), some (.ref p1), some (.int (jn z1)), some (.int (jn z5)), some (.int (jn x6)), some (.int (jn x7)), w8] [] h9 (jQ K L R g n tm [] jV0) := by
    refine jInd (fun k11 ih12 => ?_)
    intro x6 x7 w8 h9 ax6 rx7 oh9 ix7 hm13
    have rx6 : -2147483648 ≤ x6 ∧ x6 ≤ 2147483647 := ⟨by omega, by omega⟩
    refine mj_T.pl rfl rfl rfl rfl ?_
    refine mj_T.pl rfl rfl rfl rfl ?_
    refine jT.getR 18 101 1 ty oh9 rfl kp0 (by decide) rfl rfl rfl (fun k14 => ?_)
    refine jT.alen 1 ty oh9 rfl k14 (by decide) (by decide) (fun z15 ez15 (az15 : 0 ≤ z15) (bz15 : z15 ≤ 1000) => ?_)
    have rz15 : -2147483648 ≤ z15 ∧ z15 ≤ 2147483647 := ⟨by omega, by omega⟩
    refine jT.icmp rfl rx7 rz15 (fun c31 => ?_) (fun c31 => ?_)
    · have c31 := of_decide_eq_true c31
      exact jT.ret oh9 rfl rfl rfl rfl
    · have c31 := of_decide_eq_false c31
      iterate 2 refine mj_T.pl rfl rfl rfl rfl ?_
      have t51_16 : mj_T (D + 0) mj_m93 51 [some (.ref p0), some (.ref p1), some (.int (jn z1)), some (.int (jn z5)), some (.int (jn x6)), some (.int (jn x7)), w8] [] h9 (jQ K L R g n tm [] jV0) := by
        iterate 3 refine mj_T.pl rfl rfl rfl rfl ?_
        have t70_18 : ∀ (x17 : Int), (-2147483648 ≤ x17 ∧ x17 ≤ 2147483647) → mj_T (D + 0) mj_m93 70 [some (.ref p0), some (.ref p1), some (.int (jn z1)), some (.int (jn z5)), some (.int (jn x6)), some (.int (jn x7)), w8] [.int (jn x17), .int (jn x6)] h9 (jQ K L R g n tm [] jV0) := by
          intro x17 rx17
          refine jT.iadd rfl (fun z19 rz19 ez19 => ?_)
          clear ez19
          iterate 2 refine mj_T.pl rfl rfl rfl rfl ?_
          have t88_21 : ∀ (x20 : Int), (-2147483648 ≤ x20 ∧ x20 ≤ 2147483647) → mj_T (D + 0) mj_m93 88 [some (.ref p0), some (.ref p1), some (.int (jn z1)), some (.int (jn z5)), some (.int (jn x6)), some (.int (jn x7)), w8] [.int (jn x20), .int (jn z19)] h9 (jQ K L R g n tm [] jV0) := by
            intro x20 rx20
            refine jT.iadd rfl (fun z22 rz22 ez22 => ?_)
            clear ez22
            refine mj_T.pl (loc' := [some (.ref p0), some (.ref p1), some (.int (jn z1)), some (.int (jn z5)), some (.int (jn x6)), some (.int (jn x7)), some (.int (jn z22))]) rfl rfl rfl rfl ?_
            refine mj_T.pl rfl rfl rfl rfl ?_
            refine jT.ldcI rfl ?_
            have t103_24 : ∀ (x23 : Int), (0 ≤ x23 ∧ x23 ≤ 1) → mj_T (D + 0) mj_m93 103 [some (.ref p0), some (.ref p1), some (.int (jn z1)), some (.int (jn z5)), some (.int (jn x6)), some (.int (jn x7)), some (.int (jn z22))] [.int (jn x23)] h9 (jQ K L R g n tm [] jV0) := by
              intro x23 ax23
              have rx23 : -2147483648 ≤ x23 ∧ x23 ≤ 2147483647 := ⟨by omega, by omega⟩
              refine mj_T.pl (loc' := [some (.ref p0), some (.ref p1), some (.int (jn z1)), some (.int (jn z5)), some (.int (jn x23)), some (.int (jn x7)), some (.int (jn z22))]) rfl rfl rfl rfl ?_
              refine mj_T.pl rfl rfl rfl rfl ?_
              refine jT.getR 18 101 1 ty oh9 rfl kp0 (by decide) rfl rfl rfl (fun k25 => ?_)
              iterate 3 refine mj_T.pl rfl rfl rfl rfl ?_
              refine jT.ldcI rfl ?_
              refine jT.imul rfl (fun z26 rz26 ez26 => ?_)
              clear ez26
              refine jT.isub rfl (fun z27 rz27 ez27 => ?_)
              clear ez27
              refine jT.iast oh9 rfl k25 rx7 ⟨by omega, by omega⟩ rz27 (fun h28 oh28 uh28 => ?_)
              iterate 3 refine mj_T.pl rfl rfl rfl rfl ?_
              refine jT.iadd rfl (fun z29 rz29 ez29 => ?_)
              replace ez29 := ez29 ⟨by omega, by omega⟩
              refine jT.putI 18 10 oh28 rfl kp0 (by decide) rfl rfl rfl (Or.inl rfl) (by show 0 ≤ z29; omega) (by show z29 ≤ 1000; omega) (fun h30 oh30 wh30 uh30 => ?_)
              refine jT.iinc rfl rfl (fun z31 rz31 ez31 => ?_)
              replace ez31 := ez31 ⟨by omega, by omega⟩
              refine mj_T.eq (loc2 := [some (.ref p0), some (.ref p1), some (.int (jn z1)), some (.int (jn z5)), some (.int (jn x23)), some (.int (jn z31)), some (.int (jn z22))]) ?_ rfl rfl rfl rfl
              refine mj_T.pl rfl rfl rfl rfl ?_
              exact ih12 ((2147483647 - z31 : Int).toNat) (by omega) x23 z31 (some (.int (jn z22))) h30 ⟨by omega, by omega⟩ rz31 oh30 (by omega) rfl
            refine jT.icmp rfl rz22 ⟨by decide, by decide⟩ (fun c95 => ?_) (fun c95 => ?_)
            · have c95 := of_decide_eq_true c95
              refine mj_T.pl rfl rfl rfl rfl ?_
              exact t103_24 0 ⟨by omega, by omega⟩
            · have c95 := of_decide_eq_false c95
              iterate 2 refine mj_T.pl rfl rfl rfl rfl ?_
              exact t103_24 1 ⟨by omega, by omega⟩
          refine jT.icmp rfl rx7 rz5 (fun c74 => ?_) (fun c74 => ?_)
          · have c74 := of_decide_eq_true c74
            refine mj_T.pl rfl rfl rfl rfl ?_
            exact t88_21 0 ⟨by decide, by decide⟩
          · have c74 := of_decide_eq_false c74
            refine mj_T.pl rfl rfl rfl rfl ?_
            refine jT.getR 18 101 1 ty oh9 rfl kp1 (by decide) rfl rfl rfl (fun k32 => ?_)
            refine mj_T.pl rfl rfl rfl rfl ?_
            refine jT.iald oh9 rfl k32 rx7 ⟨by omega, by omega⟩ (fun z33 rz33 fz33 => ?_)
            refine mj_T.pl rfl rfl rfl rfl ?_
            exact t88_21 z33 rz33
        refine jT.icmp rfl rx7 rz1 (fun c56 => ?_) (fun c56 => ?_)
        · have c56 := of_decide_eq_true c56
          refine mj_T.pl rfl rfl rfl rfl ?_
          exact t70_18 0 ⟨by decide, by decide⟩
        · have c56 := of_decide_eq_false c56
          refine mj_T.pl rfl rfl rfl rfl ?_
          refine jT.getR 18 101 1 ty oh9 rfl kp0 (by decide) rfl rfl rfl (fun k34 => ?_)
          refine mj_T.pl rfl rfl rfl rfl ?_
          refine jT.iald oh9 rfl k34 rx7 ⟨by omega, by omega⟩ (fun z35 rz35 fz35 => ?_)
          refine mj_T.pl rfl rfl rfl rfl ?_
          exact t70_18 z35 rz35
      refine jT.icmp rfl rx7 rz1 (fun c37 => ?_) (fun c37 => ?_)
      · have c37 := of_decide_eq_true c37
        exact t51_16 
      · have c37 := of_decide_eq_false c37
        iterate 2 refine mj_T.pl rfl rfl rfl rfl ?_
        refine jT.icmp rfl rx7 rz5 (fun c43 => ?_) (fun c43 => ?_)
        · have c43 := of_decide_eq_true c43
          exact t51_16 
        · have c43 := of_decide_eq_false c43
          refine mj_T.pl rfl rfl rfl rfl ?_
          refine jT.if0 rfl rx6 (fun c48 => ?_) (fun c48 => ?_)
          · have c48 := of_decide_eq_true c48
            exact jT.ret oh9 rfl rfl rfl rfl
          · have c48 := of_decide_eq_false c48
            exact t51_16 
  exact t24_10 _ 0 0 none h ⟨by omega, by omega⟩ ⟨by decide, by decide⟩ o (by omega) rfl
-- PolyRegisters$Wide.differ(LPolyRegisters$Wide;LPolyRegisters$Wide;)V
theorem jc_94 {D n : Nat} {tm : Int} {h g : mj_H} {K L : Nat → Nat} {R : Nat → Nat → Nat} {p0 : Nat} {p1 : Nat} {p2 : Nat} (ty : jTY K L R) (hg : g.length ≤ n) (o : jO K L R g n tm h) (kp0 : K p0 = 18) (kp1 : K p1 = 18) (kp2 : K p2 = 18) : mj_Ok (D + 1) 94 [.ref p0, .ref p1, .ref p2] h (jQ K L R g n tm [] jV0) := by
  refine mj_Ok.of (M := mj_m94) (loc := [some (.ref p0), some (.ref p1), some (.ref p2), none, none, none, none, none, none]) rfl rfl rfl ?_
  refine mj_T.pl rfl rfl rfl rfl ?_
  refine jT.getI 18 10 o rfl kp1 (by decide) rfl rfl rfl (fun z1 (az1 : 0 ≤ z1) (bz1 : z1 ≤ 1000) fz1 => ?_)
  have rz1 : -2147483648 ≤ z1 ∧ z1 ≤ 2147483647 := ⟨by omega, by omega⟩
  refine mj_T.pl rfl rfl rfl rfl ?_
  refine jT.getR 18 101 1 ty o rfl kp0 (by decide) rfl rfl rfl (fun k2 => ?_)
  refine jT.alen 1 ty o rfl k2 (by decide) (by decide) (fun z3 ez3 (az3 : 0 ≤ z3) (bz3 : z3 ≤ 1000) => ?_)
  have rz3 : -2147483648 ≤ z3 ∧ z3 ≤ 2147483647 := ⟨by omega, by omega⟩
  refine mj_T.pl rfl rfl rfl rfl ?_
  refine jT.getR 18 101 1 ty o rfl kp1 (by decide) rfl rfl rfl (fun k4 => ?_)
  refine jT.alen 1 ty o rfl k4 (by decide) (by decide) (fun z5 ez5 (az5 : 0 ≤ z5) (bz5 : z5 ≤ 1000) => ?_)
  have rz5 : -2147483648 ≤ z5 ∧ z5 ≤ 2147483647 := ⟨by omega, by omega⟩
  refine jT.imin rfl rfl (Nat.le_of_ble_eq_true rfl) rz3 rz5 (fun z6 ez6 => ?_)
  have rz6 : -2147483648 ≤ z6 ∧ z6 ≤ 2147483647 := ⟨by omega, by omega⟩
  refine jT.imin rfl rfl (Nat.le_of_ble_eq_true rfl) rz1 rz6 (fun z7 ez7 => ?_)
  have rz7 : -2147483648 ≤ z7 ∧ z7 ≤ 2147483647 := ⟨by omega, by omega⟩
  refine mj_T.pl (loc' := [some (.ref p0), some (.ref p1), some (.ref p2), some (.int (jn z7)), none, none, none, none, none]) rfl rfl rfl rfl ?_
  refine mj_T.pl rfl rfl rfl rfl ?_
  refine jT.getI 18 10 o rfl kp2 (by decide) rfl rfl rfl (fun z8 (az8 : 0 ≤ z8) (bz8 : z8 ≤ 1000) fz8 => ?_)
  have rz8 : -2147483648 ≤ z8 ∧ z8 ≤ 2147483647 := ⟨by omega, by omega⟩
  refine mj_T.pl rfl rfl rfl rfl ?_
  refine jT.getR 18 101 1 ty o rfl kp2 (by decide) rfl rfl rfl (fun k9 => ?_)
  refine jT.alen 1 ty o rfl k9 (by decide) (by decide) (fun z10 ez10 (az10 : 0 ≤ z10) (bz10 : z10 ≤ 1000) => ?_)
  have rz10 : -2147483648 ≤ z10 ∧ z10 ≤ 2147483647 := ⟨by omega, by omega⟩
  refine jT.imin rfl rfl (Nat.le_of_ble_eq_true rfl) rz8 rz10 (fun z11 ez11 => ?_)
  have rz11 : -2147483648 ≤ z11 ∧ z11 ≤ 2147483647 := ⟨by omega, by omega⟩
  refine mj_T.pl (loc' := [some (.ref p0), some (.ref p1), some (.ref p2), some (.int (jn z7)), some (.int (jn z11)), none, none, none, none]) rfl rfl rfl rfl ?_
  refine mj_T.pl rfl rfl rfl rfl ?_
  refine mj_T.pl (loc' := [some (.ref p0), some (.ref p1), some (.ref p2), some (.int (jn z7)), some (.int (jn z11)), some (.int (jn 0)), none, none, none]) rfl rfl rfl rfl ?_
  refine mj_T.pl rfl rfl rfl rfl ?_
  refine mj_T.pl (loc' := [some (.ref p0), some (.ref p1), some (.ref p2), some (.int (jn z7)), some (.int (jn z11)), some (.int (jn 0)), some (.int (jn 0)), none, none]) rfl rfl rfl rfl ?_
  refine mj_T.pl rfl rfl rfl rfl ?_
  refine mj_T.pl (loc' := [some (.ref p0), some (.ref p1), some (.ref p2), some (.int (jn z7)), some (.int (jn z11)), some (.int (jn 0)), some (.int (jn 0)), some (.int (jn 0)), none]) rfl rfl rfl rfl ?_
  have t44_19 : ∀ (k20 : Nat) (x12 : Int) (x13 : Int) (x14 : Int) (w15 : Option Value) (h16 : mj_H), (-2147483648 ≤ x12 ∧ x12 ≤ 2147483647) → (0 ≤ x13 ∧ x13 ≤ 1) → (-2147483648 ≤ x14 ∧ x14 ≤ 2147483647) → (jO K L R g n tm h16) → (jfI h16 p1 1 = z1) → (jfI h16 p2 1 = z8) → (0 ≤ x14) → (0 ≤ x12 ∧ x12 ≤ 1000) → (2147483647 - x14 : Int).toNat = k20 → mj_T (D + 0) mj_m94 44 [some (.ref p0), some (.ref p1), some (.ref p2), some (.int (jn z7)), some (.int (jn z11)), some (.int (jn x12)), some (.int (jn x13)), some (.int (jn x14)), w15] [] h16 (jQ K L R g n tm [] jV0) := by
    refine jInd (fun k20 ih21 => ?_)
    intro x12 x13 x14 w15 h16 rx12 ax13 rx14 oh16 f17 f18 ix14 ivx14 hm22
    have rx13 : -2147483648 ≤ x13 ∧ x13 ≤ 2147483647 := ⟨by omega, by omega⟩
    refine mj_T.pl rfl rfl rfl rfl ?_
    refine mj_T.pl rfl rfl rfl rfl ?_
    refine jT.icmp rfl rx14 rz7 (fun c47 => ?_) (fun c47 => ?_)
    · have c47 := of_decide_eq_true c47
      iterate 2 refine mj_T.pl rfl rfl rfl rfl ?_
      refine jT.putI 18 10 oh16 rfl kp0 (by decide) rfl rfl rfl (Or.inl rfl) (by show 0 ≤ x12; omega) (by show x12 ≤ 1000; omega) (fun h23 oh23 wh23 uh23 => ?_)
      exact jT.ret oh23 rfl rfl rfl rfl
    · have c47 := of_decide_eq_false c47
      refine mj_T.pl rfl rfl rfl rfl ?_
      refine jT.getR 18 101 1 ty oh16 rfl kp1 (by decide) rfl rfl rfl (fun k24 => ?_)
      refine mj_T.pl rfl rfl rfl rfl ?_
      refine jT.iald oh16 rfl k24 rx14 ⟨by omega, by omega⟩ (fun z25 rz25 fz25 => ?_)
      refine mj_T.pl rfl rfl rfl rfl ?_
      refine jT.isub rfl (fun z26 rz26 ez26 => ?_)
      clear ez26
      iterate 2 refine mj_T.pl rfl rfl rfl rfl ?_
      have t78_28 : ∀ (x27 : Int), (-2147483648 ≤ x27 ∧ x27 ≤ 2147483647) → mj_T (D + 0) mj_m94 78 [some (.ref p0), some (.ref p1), some (.ref p2), some (.int (jn z7)), some (.int (jn z11)), some (.int (jn x12)), some (.int (jn x13)), some (.int (jn x14)), w15] [.int (jn x27), .int (jn z26)] h16 (jQ K L R g n tm [] jV0) := by
        intro x27 rx27
        refine jT.isub rfl (fun z29 rz29 ez29 => ?_)
        clear ez29
        refine mj_T.pl (loc' := [some (.ref p0), some (.ref p1), some (.ref p2), some (.int (jn z7)), some (.int (jn z11)), some (.int (jn x12)), some (.int (jn x13)), some (.int (jn x14)), some (.int (jn z29))]) rfl rfl rfl rfl ?_
        refine mj_T.pl rfl rfl rfl rfl ?_
        have t91_31 : ∀ (x30 : Int), (0 ≤ x30 ∧ x30 ≤ 1) → mj_T (D + 0) mj_m94 91 [some (.ref p0), some (.ref p1), some (.ref p2), some (.int (jn z7)), some (.int (jn z11)), some (.int (jn x12)), some (.int (jn x13)), some (.int (jn x14)), some (.int (jn z29))] [.int (jn x30)] h16 (jQ K L R g n tm [] jV0) := by
          intro x30 ax30
          have rx30 : -2147483648 ≤ x30 ∧ x30 ≤ 2147483647 := ⟨by omega, by omega⟩
          refine mj_T.pl (loc' := [some (.ref p0), some (.ref p1), some (.ref p2), some (.int (jn z7)), some (.int (jn z11)), some (.int (jn x12)), some (.int (jn x30)), some (.int (jn x14)), some (.int (jn z29))]) rfl rfl rfl rfl ?_
          refine mj_T.pl rfl rfl rfl rfl ?_
          refine jT.getR 18 101 1 ty oh16 rfl kp0 (by decide) rfl rfl rfl (fun k32 => ?_)
          iterate 3 refine mj_T.pl rfl rfl rfl rfl ?_
          refine jT.ldcI rfl ?_
          refine jT.imul rfl (fun z33 rz33 ez33 => ?_)
          clear ez33
          refine jT.iadd rfl (fun z34 rz34 ez34 => ?_)
          clear ez34
          refine jT.iast oh16 rfl k32 rx14 ⟨by omega, by omega⟩ rz34 (fun h35 oh35 uh35 => ?_)
          refine mj_T.pl rfl rfl rfl rfl ?_
          refine jT.getR 18 101 1 ty oh35 rfl kp0 (by decide) rfl rfl rfl (fun k36 => ?_)
          refine mj_T.pl rfl rfl rfl rfl ?_
          refine jT.iald oh35 rfl k36 rx14 ⟨by omega, by omega⟩ (fun z37 rz37 fz37 => ?_)
          refine jT.if0 rfl rz37 (fun c115 => ?_) (fun c115 => ?_)
          · have c115 := of_decide_eq_true c115
            refine mj_T.pl rfl rfl rfl rfl ?_
            refine mj_T.pl (loc' := [some (.ref p0), some (.ref p1), some (.ref p2), some (.int (jn z7)), some (.int (jn z11)), some (.int (jn x12)), some (.int (jn x30)), some (.int (jn x14)), some (.int (jn z29))]) rfl rfl rfl rfl ?_
            refine jT.iinc rfl rfl (fun z38 rz38 ez38 => ?_)
            replace ez38 := ez38 ⟨by omega, by omega⟩
            refine mj_T.eq (loc2 := [some (.ref p0), some (.ref p1), some (.ref p2), some (.int (jn z7)), some (.int (jn z11)), some (.int (jn x12)), some (.int (jn x30)), some (.int (jn z38)), some (.int (jn z29))]) ?_ rfl rfl rfl rfl
            refine mj_T.pl rfl rfl rfl rfl ?_
            exact ih21 ((2147483647 - z38 : Int).toNat) (by omega) x12 x30 z38 (some (.int (jn z29))) h35 rx12 ⟨by omega, by omega⟩ rz38 oh35 ((uh35 p1 1).trans f17) ((uh35 p2 1).trans f18) (by omega) (by omega) rfl
          · have c115 := of_decide_eq_false c115
            iterate 2 refine mj_T.pl rfl rfl rfl rfl ?_
            refine jT.iadd rfl (fun z39 rz39 ez39 => ?_)
            replace ez39 := ez39 ⟨by omega, by omega⟩
            refine mj_T.pl rfl rfl rfl rfl ?_
            refine mj_T.pl (loc' := [some (.ref p0), some (.ref p1), some (.ref p2), some (.int (jn z7)), some (.int (jn z11)), some (.int (jn z39)), some (.int (jn x30)), some (.int (jn x14)), some (.int (jn z29))]) rfl rfl rfl rfl ?_
            refine jT.iinc rfl rfl (fun z40 rz40 ez40 => ?_)
            replace ez40 := ez40 ⟨by omega, by omega⟩
            refine mj_T.eq (loc2 := [some (.ref p0), some (.ref p1), some (.ref p2), some (.int (jn z7)), some (.int (jn z11)), some (.int (jn z39)), some (.int (jn x30)), some (.int (jn z40)), some (.int (jn z29))]) ?_ rfl rfl rfl rfl
            refine mj_T.pl rfl rfl rfl rfl ?_
            exact ih21 ((2147483647 - z40 : Int).toNat) (by omega) z39 x30 z40 (some (.int (jn z29))) h35 rz39 ⟨by omega, by omega⟩ rz40 oh35 ((uh35 p1 1).trans f17) ((uh35 p2 1).trans f18) (by omega) (by omega) rfl
        refine jT.if0 rfl rz29 (fun c83 => ?_) (fun c83 => ?_)
        · have c83 := of_decide_eq_true c83
          refine mj_T.pl rfl rfl rfl rfl ?_
          exact t91_31 0 ⟨by omega, by omega⟩
        · have c83 := of_decide_eq_false c83
          iterate 2 refine mj_T.pl rfl rfl rfl rfl ?_
          exact t91_31 1 ⟨by omega, by omega⟩
      refine jT.icmp rfl rx14 rz11 (fun c64 => ?_) (fun c64 => ?_)
      · have c64 := of_decide_eq_true c64
        refine mj_T.pl rfl rfl rfl rfl ?_
        exact t78_28 0 ⟨by decide, by decide⟩
      · have c64 := of_decide_eq_false c64
        refine mj_T.pl rfl rfl rfl rfl ?_
        refine jT.getR 18 101 1 ty oh16 rfl kp2 (by decide) rfl rfl rfl (fun k41 => ?_)
        refine mj_T.pl rfl rfl rfl rfl ?_
        refine jT.iald oh16 rfl k41 rx14 ⟨by omega, by omega⟩ (fun z42 rz42 fz42 => ?_)
        refine mj_T.pl rfl rfl rfl rfl ?_
        exact t78_28 z42 rz42
  exact t44_19 _ 0 0 0 none h ⟨by decide, by decide⟩ ⟨by omega, by omega⟩ ⟨by decide, by decide⟩ o fz1.symm fz8.symm (by omega) (by omega) rfl
-- PolyRegisters$Wide.plus(LPolyRegisters$Wide;I)V
theorem jc_91 {D n : Nat} {tm : Int} {h g : mj_H} {K L : Nat → Nat} {R : Nat → Nat → Nat} {p0 : Nat} {p1 : Nat} {p2 : Int} (ty : jTY K L R) (hg : g.length ≤ n) (o : jO K L R g n tm h) (kp0 : K p0 = 18) (kp1 : K p1 = 18) (rp2 : -2147483648 ≤ p2 ∧ p2 ≤ 2147483647) : mj_Ok (D + 2) 91 [.ref p0, .ref p1, .int (jn p2)] h (jQ K L R g n tm [] jV0) := by
  refine mj_Ok.of (M := mj_m91) (loc := [some (.ref p0), some (.ref p1), some (.int (jn p2)), none]) rfl rfl rfl ?_
  refine mj_T.pl rfl rfl rfl rfl ?_
  refine jT.getI 18 0 o rfl kp1 (by decide) rfl rfl rfl (fun z1 (az1 : (-2147483648) ≤ z1) (bz1 : z1 ≤ 2147483647) fz1 => ?_)
  have rz1 : -2147483648 ≤ z1 ∧ z1 ≤ 2147483647 := ⟨by omega, by omega⟩
  refine mj_T.pl rfl rfl rfl rfl ?_
  refine jT.imul rfl (fun z2 rz2 ez2 => ?_)
  clear ez2
  refine mj_T.pl (loc' := [some (.ref p0), some (.ref p1), some (.int (jn p2)), some (.int (jn z2))]) rfl rfl rfl rfl ?_
  refine mj_T.pl rfl rfl rfl rfl ?_
  refine jT.if0 rfl rz2 (fun c8 => ?_) (fun c8 => ?_)
  · have c8 := jne1 c8
    refine mj_T.pl rfl rfl rfl rfl ?_
    refine jT.getI 18 0 o rfl kp0 (by decide) rfl rfl rfl (fun z3 (az3 : (-2147483648) ≤ z3) (bz3 : z3 ≤ 2147483647) fz3 => ?_)
    have rz3 : -2147483648 ≤ z3 ∧ z3 ≤ 2147483647 := ⟨by omega, by omega⟩
    have t76_5 : ∀ (h4 : mj_H), (jO K L R g n tm h4) → mj_T (D + 1) mj_m91 76 [some (.ref p0), some (.ref p1), some (.int (jn p2)), some (.int (jn z2))] [] h4 (jQ K L R g n tm [] jV0) := by
      intro h4 oh4
      iterate 2 refine mj_T.pl rfl rfl rfl rfl ?_
      refine jT.getI 18 10 oh4 rfl kp0 (by decide) rfl rfl rfl (fun z6 (az6 : 0 ≤ z6) (bz6 : z6 ≤ 1000) fz6 => ?_)
      have rz6 : -2147483648 ≤ z6 ∧ z6 ≤ 2147483647 := ⟨by omega, by omega⟩
      refine jT.if0 rfl rz6 (fun c81 => ?_) (fun c81 => ?_)
      · have c81 := jne1 c81
        refine mj_T.pl rfl rfl rfl rfl ?_
        refine jT.getI 18 0 oh4 rfl kp0 (by decide) rfl rfl rfl (fun z7 (az7 : (-2147483648) ≤ z7) (bz7 : z7 ≤ 2147483647) fz7 => ?_)
        have rz7 : -2147483648 ≤ z7 ∧ z7 ≤ 2147483647 := ⟨by omega, by omega⟩
        refine jT.putI 18 0 oh4 rfl kp0 (by decide) rfl rfl rfl (Or.inl rfl) (by show (-2147483648) ≤ z7; omega) (by show z7 ≤ 2147483647; omega) (fun h8 oh8 wh8 uh8 => ?_)
        exact jT.ret oh8 rfl rfl rfl rfl
      · have c81 := jne2 c81
        iterate 2 refine mj_T.pl rfl rfl rfl rfl ?_
        refine jT.putI 18 0 oh4 rfl kp0 (by decide) rfl rfl rfl (Or.inl rfl) (by show (-2147483648) ≤ 0; omega) (by show 0 ≤ 2147483647; omega) (fun h9 oh9 wh9 uh9 => ?_)
        exact jT.ret oh9 rfl rfl rfl rfl
    refine jT.if0 rfl rz3 (fun c16 => ?_) (fun c16 => ?_)
    · have c16 := jne1 c16
      refine mj_T.pl rfl rfl rfl rfl ?_
      refine jT.getK 18 0 o rfl kp0 (by decide) rfl rfl rfl fz3.symm ?_
      refine mj_T.pl rfl rfl rfl rfl ?_
      refine jT.icmp rfl rz3 rz2 (fun c37 => ?_) (fun c37 => ?_)
      · have c37 := jne1 c37
        iterate 2 refine mj_T.pl rfl rfl rfl rfl ?_
        refine jT.callp rfl rfl (Nat.le_of_ble_eq_true rfl) (Nat.le_of_ble_eq_true rfl) (jrv_of o kp0 (by decide) rfl (by decide) rfl _) rfl (mj_Ok.up (Nat.add_le_add_left (by decide) D) (jc_92 (D := D) ty hg o kp0 kp1)) rfl rfl (fun v10 qv10 => ?_)
        obtain ⟨z11, az11, bz11, rfl⟩ := qv10
        have rz11 : -2147483648 ≤ z11 ∧ z11 ≤ 2147483647 := ⟨by omega, by omega⟩
        refine mj_T.eq (pc2 := 53) (st2 := [.int (jn z11)]) ?_ rfl rfl rfl rfl
        refine jT.if0 rfl rz11 (fun c53 => ?_) (fun c53 => ?_)
        · have c53 := of_decide_eq_true c53
          iterate 3 refine mj_T.pl rfl rfl rfl rfl ?_
          refine jT.call rfl rfl (Nat.le_of_ble_eq_true rfl) (Nat.le_of_ble_eq_true rfl) (jrv_of o kp0 (by decide) rfl (by decide) rfl _) rfl (mj_Ok.up (Nat.add_le_add_left (by decide) D) (jc_94 (D := D) ty hg o kp0 kp0 kp1)) rfl rfl (fun v12 h13 qv12 oh13 => ?_)
          obtain rfl : v12 = none := qv12
          refine mj_T.eq (pc2 := 76) (st2 := []) ?_ rfl rfl rfl rfl
          exact t76_5 h13 oh13
        · have c53 := of_decide_eq_false c53
          iterate 3 refine mj_T.pl rfl rfl rfl rfl ?_
          refine jT.call rfl rfl (Nat.le_of_ble_eq_true rfl) (Nat.le_of_ble_eq_true rfl) (jrv_of o kp0 (by decide) rfl (by decide) rfl _) rfl (mj_Ok.up (Nat.add_le_add_left (by decide) D) (jc_94 (D := D) ty hg o kp0 kp1 kp0)) rfl rfl (fun v14 h15 qv14 oh15 => ?_)
          obtain rfl : v14 = none := qv14
          refine mj_T.eq (pc2 := 62) (st2 := []) ?_ rfl rfl rfl rfl
          iterate 2 refine mj_T.pl rfl rfl rfl rfl ?_
          refine jT.putI 18 0 oh15 rfl kp0 (by decide) rfl rfl rfl (Or.inl rfl) (by show (-2147483648) ≤ z2; omega) (by show z2 ≤ 2147483647; omega) (fun h16 oh16 wh16 uh16 => ?_)
          refine mj_T.pl rfl rfl rfl rfl ?_
          exact t76_5 h16 oh16
      · have c37 := jne2 c37
        iterate 2 refine mj_T.pl rfl rfl rfl rfl ?_
        refine jT.call rfl rfl (Nat.le_of_ble_eq_true rfl) (Nat.le_of_ble_eq_true rfl) (jrv_of o kp0 (by decide) rfl (by decide) rfl _) rfl (mj_Ok.up (Nat.add_le_add_left (by decide) D) (jc_93 (D := D) ty hg o kp0 kp1)) rfl rfl (fun v17 h18 qv17 oh18 => ?_)
        obtain rfl : v17 = none := qv17
        refine mj_T.eq (pc2 := 45) (st2 := []) ?_ rfl rfl rfl rfl
        refine mj_T.pl rfl rfl rfl rfl ?_
        exact t76_5 h18 oh18
    · have c16 := jne2 c16
      iterate 2 refine mj_T.pl rfl rfl rfl rfl ?_
      refine jT.call rfl rfl (Nat.le_of_ble_eq_true rfl) (Nat.le_of_ble_eq_true rfl) (jrv_of o kp0 (by decide) rfl (by decide) rfl _) rfl (mj_Ok.up (Nat.add_le_add_left (by decide) D) (jc_87 (D := D) ty hg o kp0 kp1)) rfl rfl (fun v19 h20 qv19 oh20 => ?_)
      obtain rfl : v19 = none := qv19
      refine mj_T.eq (pc2 := 24) (st2 := []) ?_ rfl rfl rfl rfl
      iterate 2 refine mj_T.pl rfl rfl rfl rfl ?_
      refine jT.putI 18 0 oh20 rfl kp0 (by decide) rfl rfl rfl (Or.inl rfl) (by show (-2147483648) ≤ z2; omega) (by show z2 ≤ 2147483647; omega) (fun h21 oh21 wh21 uh21 => ?_)
      refine mj_T.pl rfl rfl rfl rfl ?_
      exact t76_5 h21 oh21
  · have c8 := jne2 c8
    exact jT.ret o rfl rfl rfl rfl
