/-! The class by kinds: its methods. -/
-- PolyRegisters$Wide.scale(J)V
theorem jc_96 {D n : Nat} {tm : Int} {h g : mj_H} {K L : Nat → Nat} {R : Nat → Nat → Nat} {p0 : Nat} {p1 : Int} (ty : jTY K L R) (hg : g.length ≤ n) (o : jO K L R g n tm h) (kp0 : K p0 = 18) (jp1 : jR p1) : mj_Ok (D + 1) 96 [.ref p0, .long (jl p1)] h (jQ K L R g n tm [] jV0) := by
  refine mj_Ok.of (M := mj_m96) (loc := [some (.ref p0), some (.long (jl p1)), none, none, none, none, none, none]) rfl rfl rfl ?_
  refine jT.lc 0 rfl rfl ?_
  refine mj_T.pl (loc' := [some (.ref p0), some (.long (jl p1)), none, some (.long (jl ((0 : Nat) : Int))), none, none, none, none]) rfl rfl rfl rfl ?_
  refine mj_T.pl rfl rfl rfl rfl ?_
  refine mj_T.pl (loc' := [some (.ref p0), some (.long (jl p1)), none, some (.long (jl ((0 : Nat) : Int))), none, some (.int (jn 0)), none, none]) rfl rfl rfl rfl ?_
  have t5_5 : ∀ (k6 : Nat) (y1 : Int) (x2 : Int) (w3 : Option Value) (h4 : mj_H), (jR y1) → (-2147483648 ≤ x2 ∧ x2 ≤ 2147483647) → (jO K L R g n tm h4) → (0 ≤ x2) → (2147483647 - x2 : Int).toNat = k6 → mj_T (D + 0) mj_m96 5 [some (.ref p0), some (.long (jl p1)), none, some (.long (jl y1)), none, some (.int (jn x2)), w3, none] [] h4 (jQ K L R g n tm [] jV0) := by
    refine jInd (fun k6 ih7 => ?_)
    intro y1 x2 w3 h4 jy1 rx2 oh4 ix2 hm8
    refine mj_T.pl rfl rfl rfl rfl ?_
    refine mj_T.pl rfl rfl rfl rfl ?_
    refine jT.getR 18 101 1 ty oh4 rfl kp0 (by decide) rfl rfl rfl (fun k9 => ?_)
    refine jT.alen 1 ty oh4 rfl k9 (by decide) (by decide) (fun z10 ez10 (az10 : 0 ≤ z10) (bz10 : z10 ≤ 1000) => ?_)
    have rz10 : -2147483648 ≤ z10 ∧ z10 ≤ 2147483647 := ⟨by omega, by omega⟩
    refine jT.icmp rfl rx2 rz10 (fun c12 => ?_) (fun c12 => ?_)
    · have c12 := of_decide_eq_true c12
      exact jT.ret oh4 rfl rfl rfl rfl
    · have c12 := of_decide_eq_false c12
      iterate 2 refine mj_T.pl rfl rfl rfl rfl ?_
      refine jT.getI 18 10 oh4 rfl kp0 (by decide) rfl rfl rfl (fun z11 (az11 : 0 ≤ z11) (bz11 : z11 ≤ 1000) fz11 => ?_)
      have rz11 : -2147483648 ≤ z11 ∧ z11 ≤ 2147483647 := ⟨by omega, by omega⟩
      have t30_12 : mj_T (D + 0) mj_m96 30 [some (.ref p0), some (.long (jl p1)), none, some (.long (jl y1)), none, some (.int (jn x2)), w3, none] [] h4 (jQ K L R g n tm [] jV0) := by
        iterate 2 refine mj_T.pl rfl rfl rfl rfl ?_
        refine jT.getK 18 10 oh4 rfl kp0 (by decide) rfl rfl rfl fz11.symm ?_
        have t53_14 : ∀ (y13 : Int), (jR y13) → mj_T (D + 0) mj_m96 53 [some (.ref p0), some (.long (jl p1)), none, some (.long (jl y1)), none, some (.int (jn x2)), w3, none] [.long (jl y13)] h4 (jQ K L R g n tm [] jV0) := by
          intro y13 jy13
          refine mj_T.pl rfl rfl rfl rfl ?_
          refine jT.ladd rfl (fun z15 jz15 _ => ?_)
          refine mj_T.pl (loc' := [some (.ref p0), some (.long (jl p1)), none, some (.long (jl y1)), none, some (.int (jn x2)), some (.long (jl z15)), none]) rfl rfl rfl rfl ?_
          refine mj_T.pl rfl rfl rfl rfl ?_
          refine jT.getR 18 101 1 ty oh4 rfl kp0 (by decide) rfl rfl rfl (fun k16 => ?_)
          iterate 2 refine mj_T.pl rfl rfl rfl rfl ?_
          refine jT.ldcL rfl ?_
          refine jT.lrem rfl ⟨by decide, by decide⟩ (by decide) (fun z17 jz17 => ?_)
          refine jT.l2i rfl (fun z18 rz18 _ => ?_)
          refine jT.iast oh4 rfl k16 rx2 ⟨by omega, by omega⟩ rz18 (fun h19 oh19 uh19 => ?_)
          refine mj_T.pl rfl rfl rfl rfl ?_
          refine jT.ldcL rfl ?_
          refine jT.ldiv rfl ⟨by decide, by decide⟩ (by decide) (fun z20 jz20 => ?_)
          refine mj_T.pl (loc' := [some (.ref p0), some (.long (jl p1)), none, some (.long (jl z20)), none, some (.int (jn x2)), some (.long (jl z15)), none]) rfl rfl rfl rfl ?_
          iterate 3 refine mj_T.pl rfl rfl rfl rfl ?_
          refine jT.getK 18 10 oh19 rfl kp0 (by decide) rfl rfl rfl ((uh19 p0 1).trans fz11.symm) ?_
          refine jT.icmp rfl rx2 rz11 (fun c85 => ?_) (fun c85 => ?_)
          · have c85 := of_decide_eq_true c85
            refine mj_T.pl rfl rfl rfl rfl ?_
            refine jT.getK 18 10 oh19 rfl kp0 (by decide) rfl rfl rfl ((uh19 p0 1).trans fz11.symm) ?_
            refine jT.putI 18 10 oh19 rfl kp0 (by decide) rfl rfl rfl (Or.inl rfl) (by show 0 ≤ z11; omega) (by show z11 ≤ 1000; omega) (fun h21 oh21 wh21 uh21 => ?_)
            refine jT.iinc rfl rfl (fun z22 rz22 ez22 => ?_)
            replace ez22 := ez22 ⟨by omega, by omega⟩
            refine mj_T.eq (loc2 := [some (.ref p0), some (.long (jl p1)), none, some (.long (jl z20)), none, some (.int (jn z22)), some (.long (jl z15)), none]) ?_ rfl rfl rfl rfl
            refine mj_T.pl rfl rfl rfl rfl ?_
            exact ih7 ((2147483647 - z22 : Int).toNat) (by omega) z20 z22 (some (.long (jl z15))) h21 jz20 rz22 oh21 (by omega) rfl
          · have c85 := of_decide_eq_false c85
            iterate 2 refine mj_T.pl rfl rfl rfl rfl ?_
            refine jT.iadd rfl (fun z23 rz23 ez23 => ?_)
            replace ez23 := ez23 ⟨by omega, by omega⟩
            refine mj_T.pl rfl rfl rfl rfl ?_
            refine jT.putI 18 10 oh19 rfl kp0 (by decide) rfl rfl rfl (Or.inl rfl) (by show 0 ≤ z23; omega) (by show z23 ≤ 1000; omega) (fun h24 oh24 wh24 uh24 => ?_)
            refine jT.iinc rfl rfl (fun z25 rz25 ez25 => ?_)
            replace ez25 := ez25 ⟨by omega, by omega⟩
            refine mj_T.eq (loc2 := [some (.ref p0), some (.long (jl p1)), none, some (.long (jl z20)), none, some (.int (jn z25)), some (.long (jl z15)), none]) ?_ rfl rfl rfl rfl
            refine mj_T.pl rfl rfl rfl rfl ?_
            exact ih7 ((2147483647 - z25 : Int).toNat) (by omega) z20 z25 (some (.long (jl z15))) h24 jz20 rz25 oh24 (by omega) rfl
        refine jT.icmp rfl rx2 rz11 (fun c36 => ?_) (fun c36 => ?_)
        · have c36 := of_decide_eq_true c36
          refine jT.lc 0 rfl rfl ?_
          exact t53_14 ((0 : Nat) : Int) ⟨by decide, by decide⟩
        · have c36 := of_decide_eq_false c36
          refine mj_T.pl rfl rfl rfl rfl ?_
          refine jT.getR 18 101 1 ty oh4 rfl kp0 (by decide) rfl rfl rfl (fun k26 => ?_)
          refine mj_T.pl rfl rfl rfl rfl ?_
          refine jT.iald oh4 rfl k26 rx2 ⟨by omega, by omega⟩ (fun z27 rz27 fz27 => ?_)
          refine jT.i2l rfl rz27 ?_
          have j28 : jR z27 := ⟨by omega, by omega⟩
          refine mj_T.pl rfl rfl rfl rfl ?_
          refine jT.lmul rfl (fun z29 jz29 _ => ?_)
          refine mj_T.pl rfl rfl rfl rfl ?_
          exact t53_14 z29 jz29
      refine jT.icmp rfl rx2 rz11 (fun c21 => ?_) (fun c21 => ?_)
      · have c21 := of_decide_eq_true c21
        exact t30_12 
      · have c21 := of_decide_eq_false c21
        refine mj_T.pl rfl rfl rfl rfl ?_
        refine jT.lc 0 rfl rfl ?_
        refine mj_T.lif rfl rfl jy1 ⟨by decide, by decide⟩ (fun c26 => ?_) (fun c26 => ?_)
        · have c26 := of_decide_eq_true c26
          exact jT.ret oh4 rfl rfl rfl rfl
        · have c26 := of_decide_eq_false c26
          exact t30_12 
  exact t5_5 _ ((0 : Nat) : Int) 0 none h ⟨by decide, by decide⟩ ⟨by decide, by decide⟩ o (by omega) rfl
-- PolyRegisters$Wide.cut(J)V
theorem jc_97 {D n : Nat} {tm : Int} {h g : mj_H} {K L : Nat → Nat} {R : Nat → Nat → Nat} {p0 : Nat} {p1 : Int} (ty : jTY K L R) (hg : g.length ≤ n) (o : jO K L R g n tm h) (kp0 : K p0 = 18) (jp1 : jR p1) : mj_Ok (D + 1) 97 [.ref p0, .long (jl p1)] h (jQ K L R g n tm [] jV0) := by
  refine mj_Ok.of (M := mj_m97) (loc := [some (.ref p0), some (.long (jl p1)), none, none, none, none, none, none, none]) rfl rfl rfl ?_
  refine jT.lc 0 rfl rfl ?_
  refine mj_T.pl (loc' := [some (.ref p0), some (.long (jl p1)), none, some (.long (jl ((0 : Nat) : Int))), none, none, none, none, none]) rfl rfl rfl rfl ?_
  refine mj_T.pl rfl rfl rfl rfl ?_
  refine mj_T.pl (loc' := [some (.ref p0), some (.long (jl p1)), none, some (.long (jl ((0 : Nat) : Int))), none, some (.int (jn 0)), none, none, none]) rfl rfl rfl rfl ?_
  refine mj_T.pl rfl rfl rfl rfl ?_
  refine jT.getI 18 10 o rfl kp0 (by decide) rfl rfl rfl (fun z1 (az1 : 0 ≤ z1) (bz1 : z1 ≤ 1000) fz1 => ?_)
  have rz1 : -2147483648 ≤ z1 ∧ z1 ≤ 2147483647 := ⟨by omega, by omega⟩
  refine mj_T.pl rfl rfl rfl rfl ?_
  refine jT.getR 18 101 1 ty o rfl kp0 (by decide) rfl rfl rfl (fun k2 => ?_)
  refine jT.alen 1 ty o rfl k2 (by decide) (by decide) (fun z3 ez3 (az3 : 0 ≤ z3) (bz3 : z3 ≤ 1000) => ?_)
  have rz3 : -2147483648 ≤ z3 ∧ z3 ≤ 2147483647 := ⟨by omega, by omega⟩
  refine jT.imin rfl rfl (Nat.le_of_ble_eq_true rfl) rz1 rz3 (fun z4 ez4 => ?_)
  have rz4 : -2147483648 ≤ z4 ∧ z4 ≤ 2147483647 := ⟨by omega, by omega⟩
  refine mj_T.pl rfl rfl rfl rfl ?_
  refine jT.isub rfl (fun z5 rz5 ez5 => ?_)
  replace ez5 := ez5 ⟨by omega, by omega⟩
  refine mj_T.pl (loc' := [some (.ref p0), some (.long (jl p1)), none, some (.long (jl ((0 : Nat) : Int))), none, some (.int (jn 0)), some (.int (jn z5)), none, none]) rfl rfl rfl rfl ?_
  have t21_12 : ∀ (k13 : Nat) (y6 : Int) (x7 : Int) (x8 : Int) (w9 : Option Value) (h10 : mj_H), (jR y6) → (-2147483648 ≤ x7 ∧ x7 ≤ 2147483647) → (-2147483648 ≤ x8 ∧ x8 ≤ 2147483647) → (jO K L R g n tm h10) → (jfI h10 p0 1 = z1) → (x8 ≤ z5) → (0 ≤ x7 ∧ x7 ≤ 1000) → (x8 + 1 : Int).toNat = k13 → mj_T (D + 0) mj_m97 21 [some (.ref p0), some (.long (jl p1)), none, some (.long (jl y6)), none, some (.int (jn x7)), some (.int (jn x8)), w9, none] [] h10 (jQ K L R g n tm [] jV0) := by
    refine jInd (fun k13 ih14 => ?_)
    intro y6 x7 x8 w9 h10 jy6 rx7 rx8 oh10 f11 ix8 ivx8 hm15
    refine mj_T.pl rfl rfl rfl rfl ?_
    have t97_16 : mj_T (D + 0) mj_m97 97 [some (.ref p0), some (.long (jl p1)), none, some (.long (jl y6)), none, some (.int (jn x7)), some (.int (jn x8)), w9, none] [] h10 (jQ K L R g n tm [] jV0) := by
      iterate 2 refine mj_T.pl rfl rfl rfl rfl ?_
      refine jT.putI 18 10 oh10 rfl kp0 (by decide) rfl rfl rfl (Or.inl rfl) (by show 0 ≤ x7; omega) (by show x7 ≤ 1000; omega) (fun h17 oh17 wh17 uh17 => ?_)
      iterate 2 refine mj_T.pl rfl rfl rfl rfl ?_
      refine jT.getK 18 10 oh17 rfl kp0 (by decide) rfl rfl rfl wh17 ?_
      refine jT.if0 rfl rx7 (fun c108 => ?_) (fun c108 => ?_)
      · have c108 := jne1 c108
        refine mj_T.pl rfl rfl rfl rfl ?_
        refine jT.getI 18 0 oh17 rfl kp0 (by decide) rfl rfl rfl (fun z18 (az18 : (-2147483648) ≤ z18) (bz18 : z18 ≤ 2147483647) fz18 => ?_)
        have rz18 : -2147483648 ≤ z18 ∧ z18 ≤ 2147483647 := ⟨by omega, by omega⟩
        refine jT.putI 18 0 oh17 rfl kp0 (by decide) rfl rfl rfl (Or.inl rfl) (by show (-2147483648) ≤ z18; omega) (by show z18 ≤ 2147483647; omega) (fun h19 oh19 wh19 uh19 => ?_)
        exact jT.ret oh19 rfl rfl rfl rfl
      · have c108 := jne2 c108
        iterate 2 refine mj_T.pl rfl rfl rfl rfl ?_
        refine jT.putI 18 0 oh17 rfl kp0 (by decide) rfl rfl rfl (Or.inl rfl) (by show (-2147483648) ≤ 0; omega) (by show 0 ≤ 2147483647; omega) (fun h20 oh20 wh20 uh20 => ?_)
        exact jT.ret oh20 rfl rfl rfl rfl
    refine jT.if0 rfl rx8 (fun c23 => ?_) (fun c23 => ?_)
    · have c23 := of_decide_eq_true c23
      exact t97_16 
    · have c23 := of_decide_eq_false c23
      refine mj_T.pl rfl rfl rfl rfl ?_
      refine jT.lc 0 rfl rfl ?_
      refine mj_T.lif rfl rfl jp1 ⟨by decide, by decide⟩ (fun c28 => ?_) (fun c28 => ?_)
      · have c28 := of_decide_eq_true c28
        exact t97_16 
      · have c28 := of_decide_eq_false c28
        refine mj_T.pl rfl rfl rfl rfl ?_
        refine jT.ldcL rfl ?_
        refine jT.lmul rfl (fun z21 jz21 _ => ?_)
        refine mj_T.pl rfl rfl rfl rfl ?_
        refine jT.getR 18 101 1 ty oh10 rfl kp0 (by decide) rfl rfl rfl (fun k22 => ?_)
        refine mj_T.pl rfl rfl rfl rfl ?_
        refine jT.iald oh10 rfl k22 rx8 ⟨by omega, by omega⟩ (fun z23 rz23 fz23 => ?_)
        refine jT.i2l rfl rz23 ?_
        have j24 : jR z23 := ⟨by omega, by omega⟩
        refine jT.ladd rfl (fun z25 jz25 _ => ?_)
        refine mj_T.pl (loc' := [some (.ref p0), some (.long (jl p1)), none, some (.long (jl y6)), none, some (.int (jn x7)), some (.int (jn x8)), some (.long (jl z25)), none]) rfl rfl rfl rfl ?_
        refine mj_T.pl rfl rfl rfl rfl ?_
        refine jT.getR 18 101 1 ty oh10 rfl kp0 (by decide) rfl rfl rfl (fun k26 => ?_)
        iterate 3 refine mj_T.pl rfl rfl rfl rfl ?_
        refine jT.ldiv rfl jp1 (by omega) (fun z27 jz27 => ?_)
        refine jT.l2i rfl (fun z28 rz28 _ => ?_)
        refine jT.iast oh10 rfl k26 rx8 ⟨by omega, by omega⟩ rz28 (fun h29 oh29 uh29 => ?_)
        iterate 2 refine mj_T.pl rfl rfl rfl rfl ?_
        refine jT.lrem rfl jp1 (by omega) (fun z30 jz30 => ?_)
        refine mj_T.pl (loc' := [some (.ref p0), some (.long (jl p1)), none, some (.long (jl z30)), none, some (.int (jn x7)), some (.int (jn x8)), some (.long (jl z25)), none]) rfl rfl rfl rfl ?_
        refine mj_T.pl rfl rfl rfl rfl ?_
        refine jT.if0 rfl rx7 (fun c67 => ?_) (fun c67 => ?_)
        · have c67 := jne1 c67
          refine mj_T.pl rfl rfl rfl rfl ?_
          refine mj_T.pl (loc' := [some (.ref p0), some (.long (jl p1)), none, some (.long (jl z30)), none, some (.int (jn x7)), some (.int (jn x8)), some (.long (jl z25)), none]) rfl rfl rfl rfl ?_
          refine jT.iinc rfl rfl (fun z31 rz31 ez31 => ?_)
          replace ez31 := ez31 ⟨by omega, by omega⟩
          refine mj_T.eq (loc2 := [some (.ref p0), some (.long (jl p1)), none, some (.long (jl z30)), none, some (.int (jn x7)), some (.int (jn z31)), some (.long (jl z25)), none]) ?_ rfl rfl rfl rfl
          refine mj_T.pl rfl rfl rfl rfl ?_
          exact ih14 ((z31 + 1 : Int).toNat) (by omega) z30 x7 z31 (some (.long (jl z25))) h29 jz30 rx7 rz31 oh29 ((uh29 p0 1).trans f11) (by omega) (by omega) rfl
        · have c67 := jne2 c67
          refine mj_T.pl rfl rfl rfl rfl ?_
          refine jT.getR 18 101 1 ty oh29 rfl kp0 (by decide) rfl rfl rfl (fun k32 => ?_)
          refine mj_T.pl rfl rfl rfl rfl ?_
          refine jT.iald oh29 rfl k32 rx8 ⟨by omega, by omega⟩ (fun z33 rz33 fz33 => ?_)
          refine jT.if0 rfl rz33 (fun c77 => ?_) (fun c77 => ?_)
          · have c77 := of_decide_eq_true c77
            refine mj_T.pl rfl rfl rfl rfl ?_
            refine mj_T.pl (loc' := [some (.ref p0), some (.long (jl p1)), none, some (.long (jl z30)), none, some (.int (jn x7)), some (.int (jn x8)), some (.long (jl z25)), none]) rfl rfl rfl rfl ?_
            refine jT.iinc rfl rfl (fun z34 rz34 ez34 => ?_)
            replace ez34 := ez34 ⟨by omega, by omega⟩
            refine mj_T.eq (loc2 := [some (.ref p0), some (.long (jl p1)), none, some (.long (jl z30)), none, some (.int (jn x7)), some (.int (jn z34)), some (.long (jl z25)), none]) ?_ rfl rfl rfl rfl
            refine mj_T.pl rfl rfl rfl rfl ?_
            exact ih14 ((z34 + 1 : Int).toNat) (by omega) z30 x7 z34 (some (.long (jl z25))) h29 jz30 rx7 rz34 oh29 ((uh29 p0 1).trans f11) (by omega) (by omega) rfl
          · have c77 := of_decide_eq_false c77
            iterate 2 refine mj_T.pl rfl rfl rfl rfl ?_
            refine jT.iadd rfl (fun z35 rz35 ez35 => ?_)
            replace ez35 := ez35 ⟨by omega, by omega⟩
            refine mj_T.pl rfl rfl rfl rfl ?_
            refine mj_T.pl (loc' := [some (.ref p0), some (.long (jl p1)), none, some (.long (jl z30)), none, some (.int (jn z35)), some (.int (jn x8)), some (.long (jl z25)), none]) rfl rfl rfl rfl ?_
            refine jT.iinc rfl rfl (fun z36 rz36 ez36 => ?_)
            replace ez36 := ez36 ⟨by omega, by omega⟩
            refine mj_T.eq (loc2 := [some (.ref p0), some (.long (jl p1)), none, some (.long (jl z30)), none, some (.int (jn z35)), some (.int (jn z36)), some (.long (jl z25)), none]) ?_ rfl rfl rfl rfl
            refine mj_T.pl rfl rfl rfl rfl ?_
            exact ih14 ((z36 + 1 : Int).toNat) (by omega) z30 z35 z36 (some (.long (jl z25))) h29 jz30 rz35 rz36 oh29 ((uh29 p0 1).trans f11) (by omega) (by omega) rfl
  exact t21_12 _ ((0 : Nat) : Int) 0 z5 none h ⟨by decide, by decide⟩ ⟨by decide, by decide⟩ rz5 o fz1.symm (by omega) (by omega) rfl
-- PolyRegisters$Wide.digitCount()I
theorem jc_98 {D n : Nat} {tm : Int} {h g : mj_H} {K L : Nat → Nat} {R : Nat → Nat → Nat} {p0 : Nat} (ty : jTY K L R) (hg : g.length ≤ n) (o : jO K L R g n tm h) (kp0 : K p0 = 18) : mj_Ok (D + 2) 98 [.ref p0] h (jQp K L R g n tm h [] (jVi (-2147483648) 2147483647)) := by
  refine mj_Ok.of (M := mj_m98) (loc := [some (.ref p0), none, none, none]) rfl rfl rfl ?_
  refine mj_T.pl rfl rfl rfl rfl ?_
  refine jT.getI 18 10 o rfl kp0 (by decide) rfl rfl rfl (fun z1 (az1 : 0 ≤ z1) (bz1 : z1 ≤ 1000) fz1 => ?_)
  have rz1 : -2147483648 ≤ z1 ∧ z1 ≤ 2147483647 := ⟨by omega, by omega⟩
  have t20_3 : ∀ (x2 : Int), (-2147483648 ≤ x2 ∧ x2 ≤ 2147483647) → mj_T (D + 1) mj_m98 20 [some (.ref p0), none, none, none] [.int (jn x2)] h (jQp K L R g n tm h [] (jVi (-2147483648) 2147483647)) := by
    intro x2 rx2
    refine mj_T.pl (loc' := [some (.ref p0), some (.int (jn x2)), none, none]) rfl rfl rfl rfl ?_
    iterate 2 refine mj_T.pl rfl rfl rfl rfl ?_
    refine jT.getK 18 10 o rfl kp0 (by decide) rfl rfl rfl fz1.symm ?_
    refine mj_T.pl rfl rfl rfl rfl ?_
    refine jT.isub rfl (fun z4 rz4 ez4 => ?_)
    replace ez4 := ez4 ⟨by omega, by omega⟩
    refine jT.callpp rfl rfl (Nat.le_of_ble_eq_true rfl) (Nat.le_of_ble_eq_true rfl) (jrv_of o kp0 (by decide) rfl (by decide) rfl _) rfl (mj_Ok.up (Nat.add_le_add_left (by decide) D) (jc_89 (D := D) ty hg o kp0 rz4)) rfl rfl (fun v5 qv5 => ?_)
    obtain ⟨z6, az6, bz6, rfl⟩ := qv5
    have rz6 : -2147483648 ≤ z6 ∧ z6 ≤ 2147483647 := ⟨by omega, by omega⟩
    refine mj_T.eq (pc2 := 31) (st2 := [.int (jn z6)]) ?_ rfl rfl rfl rfl
    refine mj_T.pl (loc' := [some (.ref p0), some (.int (jn x2)), some (.int (jn z6)), none]) rfl rfl rfl rfl ?_
    refine mj_T.pl rfl rfl rfl rfl ?_
    refine mj_T.pl (loc' := [some (.ref p0), some (.int (jn x2)), some (.int (jn z6)), some (.int (jn 0))]) rfl rfl rfl rfl ?_
    have t34_10 : ∀ (k11 : Nat) (x7 : Int) (x8 : Int) (x9 : Int), (-2147483648 ≤ x7 ∧ x7 ≤ 2147483647) → (-2147483648 ≤ x8 ∧ x8 ≤ 2147483647) → (-2147483648 ≤ x9 ∧ x9 ≤ 2147483647) → (0 ≤ x9) → (2147483647 - x9 : Int).toNat = k11 → mj_T (D + 1) mj_m98 34 [some (.ref p0), some (.int (jn x7)), some (.int (jn x8)), some (.int (jn x9))] [] h (jQp K L R g n tm h [] (jVi (-2147483648) 2147483647)) := by
      refine jInd (fun k11 ih12 => ?_)
      intro x7 x8 x9 rx7 rx8 rx9 ix9 hm13
      refine mj_T.pl rfl rfl rfl rfl ?_
      refine mj_T.pl rfl rfl rfl rfl ?_
      refine jT.icmp rfl rx9 ⟨by decide, by decide⟩ (fun c37 => ?_) (fun c37 => ?_)
      · have c37 := of_decide_eq_true c37
        refine mj_T.pl rfl rfl rfl rfl ?_
        exact jT.retp rfl rfl rfl ⟨x7, by omega, by omega, rfl⟩
      · have c37 := of_decide_eq_false c37
        refine mj_T.pl rfl rfl rfl rfl ?_
        refine jT.if0 rfl rx8 (fun c41 => ?_) (fun c41 => ?_)
        · have c41 := of_decide_eq_true c41
          refine mj_T.pl rfl rfl rfl rfl ?_
          exact jT.retp rfl rfl rfl ⟨x7, by omega, by omega, rfl⟩
        · have c41 := of_decide_eq_false c41
          iterate 2 refine mj_T.pl rfl rfl rfl rfl ?_
          refine jT.idiv rfl ⟨by decide, by decide⟩ (by decide) (fun z14 rz14 => ?_)
          refine mj_T.pl (loc' := [some (.ref p0), some (.int (jn x7)), some (.int (jn z14)), some (.int (jn x9))]) rfl rfl rfl rfl ?_
          refine jT.iinc rfl rfl (fun z15 rz15 ez15 => ?_)
          clear ez15
          refine mj_T.eq (loc2 := [some (.ref p0), some (.int (jn z15)), some (.int (jn z14)), some (.int (jn x9))]) ?_ rfl rfl rfl rfl
          refine jT.iinc rfl rfl (fun z16 rz16 ez16 => ?_)
          replace ez16 := ez16 ⟨by omega, by omega⟩
          refine mj_T.eq (loc2 := [some (.ref p0), some (.int (jn z15)), some (.int (jn z14)), some (.int (jn z16))]) ?_ rfl rfl rfl rfl
          refine mj_T.pl rfl rfl rfl rfl ?_
          exact ih12 ((2147483647 - z16 : Int).toNat) (by omega) z15 z14 z16 rz15 rz14 rz16 (by omega) rfl
    exact t34_10 _ x2 z6 0 rx2 rz6 ⟨by decide, by decide⟩ (by omega) rfl
  refine jT.if0 rfl rz1 (fun c4 => ?_) (fun c4 => ?_)
  · have c4 := jne1 c4
    refine mj_T.pl rfl rfl rfl rfl ?_
    refine jT.getK 18 10 o rfl kp0 (by decide) rfl rfl rfl fz1.symm ?_
    refine mj_T.pl rfl rfl rfl rfl ?_
    refine jT.isub rfl (fun z17 rz17 ez17 => ?_)
    replace ez17 := ez17 ⟨by omega, by omega⟩
    refine mj_T.pl rfl rfl rfl rfl ?_
    refine jT.imul rfl (fun z18 rz18 ez18 => ?_)
    clear ez18
    exact t20_3 z18 rz18
  · have c4 := jne2 c4
    iterate 2 refine mj_T.pl rfl rfl rfl rfl ?_
    exact t20_3 1 ⟨by decide, by decide⟩
-- PolyRegisters$Wide.digitAt(I)I
theorem jc_99 {D n : Nat} {tm : Int} {h g : mj_H} {K L : Nat → Nat} {R : Nat → Nat → Nat} {p0 : Nat} {p1 : Int} (ty : jTY K L R) (hg : g.length ≤ n) (o : jO K L R g n tm h) (kp0 : K p0 = 18) (rp1 : -2147483648 ≤ p1 ∧ p1 ≤ 2147483647) : mj_Ok (D + 2) 99 [.ref p0, .int (jn p1)] h (jQp K L R g n tm h [] (jVi (-2147483648) 2147483647)) := by
  refine mj_Ok.of (M := mj_m99) (loc := [some (.ref p0), some (.int (jn p1)), none, none]) rfl rfl rfl ?_
  iterate 3 refine mj_T.pl rfl rfl rfl rfl ?_
  refine jT.idiv rfl ⟨by decide, by decide⟩ (by decide) (fun z1 rz1 => ?_)
  refine jT.callpp rfl rfl (Nat.le_of_ble_eq_true rfl) (Nat.le_of_ble_eq_true rfl) (jrv_of o kp0 (by decide) rfl (by decide) rfl _) rfl (mj_Ok.up (Nat.add_le_add_left (by decide) D) (jc_89 (D := D) ty hg o kp0 rz1)) rfl rfl (fun v2 qv2 => ?_)
  obtain ⟨z3, az3, bz3, rfl⟩ := qv2
  have rz3 : -2147483648 ≤ z3 ∧ z3 ≤ 2147483647 := ⟨by omega, by omega⟩
  refine mj_T.eq (pc2 := 8) (st2 := [.int (jn z3)]) ?_ rfl rfl rfl rfl
  refine mj_T.pl (loc' := [some (.ref p0), some (.int (jn p1)), some (.int (jn z3)), none]) rfl rfl rfl rfl ?_
  iterate 2 refine mj_T.pl rfl rfl rfl rfl ?_
  refine jT.irem rfl ⟨by decide, by decide⟩ (by decide) (fun z4 rz4 => ?_)
  refine mj_T.pl (loc' := [some (.ref p0), some (.int (jn p1)), some (.int (jn z3)), some (.int (jn z4))]) rfl rfl rfl rfl ?_
  have t14_7 : ∀ (k8 : Nat) (x5 : Int) (x6 : Int), (-2147483648 ≤ x5 ∧ x5 ≤ 2147483647) → (-2147483648 ≤ x6 ∧ x6 ≤ 2147483647) → (x6 ≤ z4) → (x6 + 1 : Int).toNat = k8 → mj_T (D + 1) mj_m99 14 [some (.ref p0), some (.int (jn p1)), some (.int (jn x5)), some (.int (jn x6))] [] h (jQp K L R g n tm h [] (jVi (-2147483648) 2147483647)) := by
    refine jInd (fun k8 ih9 => ?_)
    intro x5 x6 rx5 rx6 ix6 hm10
    refine mj_T.pl rfl rfl rfl rfl ?_
    refine jT.if0 rfl rx6 (fun c15 => ?_) (fun c15 => ?_)
    · have c15 := of_decide_eq_true c15
      iterate 2 refine mj_T.pl rfl rfl rfl rfl ?_
      refine jT.irem rfl ⟨by decide, by decide⟩ (by decide) (fun z11 rz11 => ?_)
      exact jT.retp rfl rfl rfl ⟨z11, by omega, by omega, rfl⟩
    · have c15 := of_decide_eq_false c15
      iterate 2 refine mj_T.pl rfl rfl rfl rfl ?_
      refine jT.idiv rfl ⟨by decide, by decide⟩ (by decide) (fun z12 rz12 => ?_)
      refine mj_T.pl (loc' := [some (.ref p0), some (.int (jn p1)), some (.int (jn z12)), some (.int (jn x6))]) rfl rfl rfl rfl ?_
      refine jT.iinc rfl rfl (fun z13 rz13 ez13 => ?_)
      replace ez13 := ez13 ⟨by omega, by omega⟩
      refine mj_T.eq (loc2 := [some (.ref p0), some (.int (jn p1)), some (.int (jn z12)), some (.int (jn z13))]) ?_ rfl rfl rfl rfl
      refine mj_T.pl rfl rfl rfl rfl ?_
      exact ih9 ((z13 + 1 : Int).toNat) (by omega) z12 z13 rz12 rz13 (by omega) rfl
  exact t14_7 _ z3 z4 rz3 rz4 (by omega) rfl
-- PolyRegisters$Wide.lowBits()J
theorem jc_100 {D n : Nat} {tm : Int} {h g : mj_H} {K L : Nat → Nat} {R : Nat → Nat → Nat} {p0 : Nat} (ty : jTY K L R) (hg : g.length ≤ n) (o : jO K L R g n tm h) (kp0 : K p0 = 18) : mj_Ok (D + 1) 100 [.ref p0] h (jQp K L R g n tm h [] jVl) := by
  refine mj_Ok.of (M := mj_m100) (loc := [some (.ref p0), none, none, none]) rfl rfl rfl ?_
  refine jT.lc 0 rfl rfl ?_
  refine mj_T.pl (loc' := [some (.ref p0), some (.long (jl ((0 : Nat) : Int))), none, none]) rfl rfl rfl rfl ?_
  refine mj_T.pl rfl rfl rfl rfl ?_
  refine jT.getI 18 10 o rfl kp0 (by decide) rfl rfl rfl (fun z1 (az1 : 0 ≤ z1) (bz1 : z1 ≤ 1000) fz1 => ?_)
  have rz1 : -2147483648 ≤ z1 ∧ z1 ≤ 2147483647 := ⟨by omega, by omega⟩
  refine mj_T.pl rfl rfl rfl rfl ?_
  refine jT.isub rfl (fun z2 rz2 ez2 => ?_)
  replace ez2 := ez2 ⟨by omega, by omega⟩
  refine mj_T.pl (loc' := [some (.ref p0), some (.long (jl ((0 : Nat) : Int))), none, some (.int (jn z2))]) rfl rfl rfl rfl ?_
  have t9_5 : ∀ (k6 : Nat) (y3 : Int) (x4 : Int), (jR y3) → (-2147483648 ≤ x4 ∧ x4 ≤ 2147483647) → (x4 ≤ z2) → (x4 + 1 : Int).toNat = k6 → mj_T (D + 0) mj_m100 9 [some (.ref p0), some (.long (jl y3)), none, some (.int (jn x4))] [] h (jQp K L R g n tm h [] jVl) := by
    refine jInd (fun k6 ih7 => ?_)
    intro y3 x4 jy3 rx4 ix4 hm8
    refine mj_T.pl rfl rfl rfl rfl ?_
    have t42_9 : mj_T (D + 0) mj_m100 42 [some (.ref p0), some (.long (jl y3)), none, some (.int (jn x4))] [] h (jQp K L R g n tm h [] jVl) := by
      refine mj_T.pl rfl rfl rfl rfl ?_
      refine jT.getI 18 0 o rfl kp0 (by decide) rfl rfl rfl (fun z10 (az10 : (-2147483648) ≤ z10) (bz10 : z10 ≤ 2147483647) fz10 => ?_)
      have rz10 : -2147483648 ≤ z10 ∧ z10 ≤ 2147483647 := ⟨by omega, by omega⟩
      refine jT.if0 rfl rz10 (fun c46 => ?_) (fun c46 => ?_)
      · have c46 := of_decide_eq_true c46
        refine mj_T.pl rfl rfl rfl rfl ?_
        exact jT.retp rfl rfl rfl ⟨y3, jy3, rfl⟩
      · have c46 := of_decide_eq_false c46
        refine mj_T.pl rfl rfl rfl rfl ?_
        refine jT.lneg rfl (fun z11 jz11 _ => ?_)
        refine mj_T.pl rfl rfl rfl rfl ?_
        exact jT.retp rfl rfl rfl ⟨z11, jz11, rfl⟩
    refine jT.if0 rfl rx4 (fun c10 => ?_) (fun c10 => ?_)
    · have c10 := of_decide_eq_true c10
      exact t42_9 
    · have c10 := of_decide_eq_false c10
      iterate 2 refine mj_T.pl rfl rfl rfl rfl ?_
      refine jT.getR 18 101 1 ty o rfl kp0 (by decide) rfl rfl rfl (fun k12 => ?_)
      refine jT.alen 1 ty o rfl k12 (by decide) (by decide) (fun z13 ez13 (az13 : 0 ≤ z13) (bz13 : z13 ≤ 1000) => ?_)
      have rz13 : -2147483648 ≤ z13 ∧ z13 ≤ 2147483647 := ⟨by omega, by omega⟩
      refine jT.icmp rfl rx4 rz13 (fun c19 => ?_) (fun c19 => ?_)
      · have c19 := of_decide_eq_true c19
        exact t42_9 
      · have c19 := of_decide_eq_false c19
        refine mj_T.pl rfl rfl rfl rfl ?_
        refine jT.ldcL rfl ?_
        refine jT.lmul rfl (fun z14 jz14 _ => ?_)
        refine mj_T.pl rfl rfl rfl rfl ?_
        refine jT.getR 18 101 1 ty o rfl kp0 (by decide) rfl rfl rfl (fun k15 => ?_)
        refine mj_T.pl rfl rfl rfl rfl ?_
        refine jT.iald o rfl k15 rx4 ⟨by omega, by omega⟩ (fun z16 rz16 fz16 => ?_)
        refine jT.i2l rfl rz16 ?_
        have j17 : jR z16 := ⟨by omega, by omega⟩
        refine jT.ladd rfl (fun z18 jz18 _ => ?_)
        refine mj_T.pl (loc' := [some (.ref p0), some (.long (jl z18)), none, some (.int (jn x4))]) rfl rfl rfl rfl ?_
        refine jT.iinc rfl rfl (fun z19 rz19 ez19 => ?_)
        replace ez19 := ez19 ⟨by omega, by omega⟩
        refine mj_T.eq (loc2 := [some (.ref p0), some (.long (jl z18)), none, some (.int (jn z19))]) ?_ rfl rfl rfl rfl
        refine mj_T.pl rfl rfl rfl rfl ?_
        exact ih7 ((z19 + 1 : Int).toNat) (by omega) z18 z19 jz18 rz19 (by omega) rfl
  exact t9_5 _ ((0 : Nat) : Int) z2 ⟨by decide, by decide⟩ rz2 (by omega) rfl
-- PolyRegisters.areSameRows([J[J)Z
theorem jc_166 {D n : Nat} {tm : Int} {h g : mj_H} {K L : Nat → Nat} {R : Nat → Nat → Nat} {p0 : Nat} {p1 : Nat} (ty : jTY K L R) (hg : g.length ≤ n) (o : jO K L R g n tm h) (kp0 : K p0 = 2) (kp1 : K p1 = 2) : mj_Ok (D + 1) 166 [.ref p0, .ref p1] h (jQp K L R g n tm h [] (jVi 0 1)) := by
  refine mj_Ok.of (M := mj_m166) (loc := [some (.ref p0), some (.ref p1), none]) rfl rfl rfl ?_
  refine mj_T.pl rfl rfl rfl rfl ?_
  refine mj_T.pl (loc' := [some (.ref p0), some (.ref p1), some (.int (jn 0))]) rfl rfl rfl rfl ?_
  have t2_2 : ∀ (k3 : Nat) (x1 : Int), (-2147483648 ≤ x1 ∧ x1 ≤ 2147483647) → (0 ≤ x1) → (2147483647 - x1 : Int).toNat = k3 → mj_T (D + 0) mj_m166 2 [some (.ref p0), some (.ref p1), some (.int (jn x1))] [] h (jQp K L R g n tm h [] (jVi 0 1)) := by
    refine jInd (fun k3 ih4 => ?_)
    intro x1 rx1 ix1 hm5
    refine mj_T.pl rfl rfl rfl rfl ?_
    refine mj_T.pl rfl rfl rfl rfl ?_
    refine jT.alen 2 ty o rfl kp0 (by decide) (by decide) (fun z6 ez6 (az6 : 13 ≤ z6) (bz6 : z6 ≤ 13) => ?_)
    have rz6 : -2147483648 ≤ z6 ∧ z6 ≤ 2147483647 := ⟨by omega, by omega⟩
    have t32_7 : mj_T (D + 0) mj_m166 32 [some (.ref p0), some (.ref p1), some (.int (jn x1))] [] h (jQp K L R g n tm h [] (jVi 0 1)) := by
      refine mj_T.pl rfl rfl rfl rfl ?_
      refine jT.alen 2 ty o rfl kp0 (by decide) (by decide) (fun z8 ez8 (az8 : 13 ≤ z8) (bz8 : z8 ≤ 13) => ?_)
      have rz8 : -2147483648 ≤ z8 ∧ z8 ≤ 2147483647 := ⟨by omega, by omega⟩
      refine mj_T.pl rfl rfl rfl rfl ?_
      refine jT.alen 2 ty o rfl kp1 (by decide) (by decide) (fun z9 ez9 (az9 : 13 ≤ z9) (bz9 : z9 ≤ 13) => ?_)
      have rz9 : -2147483648 ≤ z9 ∧ z9 ≤ 2147483647 := ⟨by omega, by omega⟩
      refine jT.icmp rfl rz8 rz9 (fun c36 => ?_) (fun c36 => ?_)
      · have c36 := jne1 c36
        refine mj_T.pl rfl rfl rfl rfl ?_
        exact jT.retbp rfl rfl (by omega) (by omega)
      · have c36 := jne2 c36
        iterate 2 refine mj_T.pl rfl rfl rfl rfl ?_
        exact jT.retbp rfl rfl (by omega) (by omega)
    refine jT.icmp rfl rx1 rz6 (fun c5 => ?_) (fun c5 => ?_)
    · have c5 := of_decide_eq_true c5
      exact t32_7 
    · have c5 := of_decide_eq_false c5
      iterate 2 refine mj_T.pl rfl rfl rfl rfl ?_
      refine jT.alen 2 ty o rfl kp1 (by decide) (by decide) (fun z10 ez10 (az10 : 13 ≤ z10) (bz10 : z10 ≤ 13) => ?_)
      have rz10 : -2147483648 ≤ z10 ∧ z10 ≤ 2147483647 := ⟨by omega, by omega⟩
      refine jT.icmp rfl rx1 rz10 (fun c11 => ?_) (fun c11 => ?_)
      · have c11 := of_decide_eq_true c11
        exact t32_7 
      · have c11 := of_decide_eq_false c11
        iterate 2 refine mj_T.pl rfl rfl rfl rfl ?_
        refine jT.lald o rfl kp0 rx1 ⟨by omega, by omega⟩ (fun z11 jz11 => ?_)
        iterate 2 refine mj_T.pl rfl rfl rfl rfl ?_
        refine jT.lald o rfl kp1 rx1 ⟨by omega, by omega⟩ (fun z12 jz12 => ?_)
        refine mj_T.lif rfl rfl jz11 jz12 (fun c20 => ?_) (fun c20 => ?_)
        · have c20 := of_decide_eq_true c20
          refine jT.iinc rfl rfl (fun z13 rz13 ez13 => ?_)
          replace ez13 := ez13 ⟨by omega, by omega⟩
          refine mj_T.eq (loc2 := [some (.ref p0), some (.ref p1), some (.int (jn z13))]) ?_ rfl rfl rfl rfl
          refine mj_T.pl rfl rfl rfl rfl ?_
          exact ih4 ((2147483647 - z13 : Int).toNat) (by omega) z13 rz13 (by omega) rfl
        · have c20 := of_decide_eq_false c20
          refine mj_T.pl rfl rfl rfl rfl ?_
          exact jT.retbp rfl rfl (by omega) (by omega)
  exact t2_2 _ 0 ⟨by decide, by decide⟩ (by omega) rfl
-- PolyRegisters.sumRows([J[JI[J)Z
theorem jc_167 {D n : Nat} {tm : Int} {h g : mj_H} {K L : Nat → Nat} {R : Nat → Nat → Nat} {p0 : Nat} {p1 : Nat} {p2 : Int} {p3 : Nat} (ty : jTY K L R) (hg : g.length ≤ n) (o : jO K L R g n tm h) (kp0 : K p0 = 2) (kp1 : K p1 = 2) (rp2 : -2147483648 ≤ p2 ∧ p2 ≤ 2147483647) (kp3 : K p3 = 2) : mj_Ok (D + 2) 167 [.ref p0, .ref p1, .int (jn p2), .ref p3] h (jQ K L R g n tm [] (jVi 0 1)) := by
  refine mj_Ok.of (M := mj_m167) (loc := [some (.ref p0), some (.ref p1), some (.int (jn p2)), some (.ref p3), none, none]) rfl rfl rfl ?_
  refine mj_T.pl rfl rfl rfl rfl ?_
  refine mj_T.pl (loc' := [some (.ref p0), some (.ref p1), some (.int (jn p2)), some (.ref p3), some (.int (jn 1)), none]) rfl rfl rfl rfl ?_
  refine mj_T.pl rfl rfl rfl rfl ?_
  refine mj_T.pl (loc' := [some (.ref p0), some (.ref p1), some (.int (jn p2)), some (.ref p3), some (.int (jn 1)), some (.int (jn 0))]) rfl rfl rfl rfl ?_
  have t6_4 : ∀ (k5 : Nat) (x1 : Int) (x2 : Int) (h3 : mj_H), (0 ≤ x1 ∧ x1 ≤ 1) → (-2147483648 ≤ x2 ∧ x2 ≤ 2147483647) → (jO K L R g n tm h3) → (0 ≤ x2) → (2147483647 - x2 : Int).toNat = k5 → mj_T (D + 1) mj_m167 6 [some (.ref p0), some (.ref p1), some (.int (jn p2)), some (.ref p3), some (.int (jn x1)), some (.int (jn x2))] [] h3 (jQ K L R g n tm [] (jVi 0 1)) := by
    refine jInd (fun k5 ih6 => ?_)
    intro x1 x2 h3 ax1 rx2 oh3 ix2 hm7
    have rx1 : -2147483648 ≤ x1 ∧ x1 ≤ 2147483647 := ⟨by omega, by omega⟩
    refine mj_T.pl rfl rfl rfl rfl ?_
    refine mj_T.pl rfl rfl rfl rfl ?_
    refine jT.alen 2 ty oh3 rfl kp3 (by decide) (by decide) (fun z8 ez8 (az8 : 13 ≤ z8) (bz8 : z8 ≤ 13) => ?_)
    have rz8 : -2147483648 ≤ z8 ∧ z8 ≤ 2147483647 := ⟨by omega, by omega⟩
    refine jT.icmp rfl rx2 rz8 (fun c10 => ?_) (fun c10 => ?_)
    · have c10 := of_decide_eq_true c10
      refine mj_T.pl rfl rfl rfl rfl ?_
      exact jT.retb oh3 rfl rfl (by omega) (by omega)
    · have c10 := of_decide_eq_false c10
      iterate 2 refine mj_T.pl rfl rfl rfl rfl ?_
      refine jT.alen 2 ty oh3 rfl kp0 (by decide) (by decide) (fun z9 ez9 (az9 : 13 ≤ z9) (bz9 : z9 ≤ 13) => ?_)
      have rz9 : -2147483648 ≤ z9 ∧ z9 ≤ 2147483647 := ⟨by omega, by omega⟩
      refine jT.icmp rfl rx2 rz9 (fun c17 => ?_) (fun c17 => ?_)
      · have c17 := of_decide_eq_true c17
        refine mj_T.pl rfl rfl rfl rfl ?_
        exact jT.retb oh3 rfl rfl (by omega) (by omega)
      · have c17 := of_decide_eq_false c17
        iterate 2 refine mj_T.pl rfl rfl rfl rfl ?_
        refine jT.alen 2 ty oh3 rfl kp1 (by decide) (by decide) (fun z10 ez10 (az10 : 13 ≤ z10) (bz10 : z10 ≤ 13) => ?_)
        have rz10 : -2147483648 ≤ z10 ∧ z10 ≤ 2147483647 := ⟨by omega, by omega⟩
        refine jT.icmp rfl rx2 rz10 (fun c24 => ?_) (fun c24 => ?_)
        · have c24 := of_decide_eq_true c24
          refine mj_T.pl rfl rfl rfl rfl ?_
          exact jT.retb oh3 rfl rfl (by omega) (by omega)
        · have c24 := of_decide_eq_false c24
          iterate 4 refine mj_T.pl rfl rfl rfl rfl ?_
          refine jT.lald oh3 rfl kp0 rx2 ⟨by omega, by omega⟩ (fun z11 jz11 => ?_)
          refine mj_T.pl rfl rfl rfl rfl ?_
          refine jT.i2l rfl rp2 ?_
          have j12 : jR p2 := ⟨by omega, by omega⟩
          iterate 2 refine mj_T.pl rfl rfl rfl rfl ?_
          refine jT.lald oh3 rfl kp1 rx2 ⟨by omega, by omega⟩ (fun z13 jz13 => ?_)
          refine jT.lmul rfl (fun z14 jz14 _ => ?_)
          refine jT.ladd rfl (fun z15 jz15 _ => ?_)
          refine jT.last oh3 rfl kp3 rx2 ⟨by omega, by omega⟩ jz15 (fun h16 oh16 uh16 => ?_)
          refine mj_T.pl rfl rfl rfl rfl ?_
          refine jT.if0 rfl rx1 (fun c45 => ?_) (fun c45 => ?_)
          · have c45 := of_decide_eq_true c45
            refine mj_T.pl rfl rfl rfl rfl ?_
            refine mj_T.pl (loc' := [some (.ref p0), some (.ref p1), some (.int (jn p2)), some (.ref p3), some (.int (jn 0)), some (.int (jn x2))]) rfl rfl rfl rfl ?_
            refine jT.iinc rfl rfl (fun z17 rz17 ez17 => ?_)
            replace ez17 := ez17 ⟨by omega, by omega⟩
            refine mj_T.eq (loc2 := [some (.ref p0), some (.ref p1), some (.int (jn p2)), some (.ref p3), some (.int (jn 0)), some (.int (jn z17))]) ?_ rfl rfl rfl rfl
            refine mj_T.pl rfl rfl rfl rfl ?_
            exact ih6 ((2147483647 - z17 : Int).toNat) (by omega) 0 z17 h16 ⟨by omega, by omega⟩ rz17 oh16 (by omega) rfl
          · have c45 := of_decide_eq_false c45
            iterate 2 refine mj_T.pl rfl rfl rfl rfl ?_
            refine jT.lald oh16 rfl kp3 rx2 ⟨by omega, by omega⟩ (fun z18 jz18 => ?_)
            refine jT.callp rfl rfl (Nat.le_of_ble_eq_true rfl) (Nat.le_of_ble_eq_true rfl) rfl rfl (mj_Ok.up (Nat.add_le_add_left (by decide) D) (jc_161 (D := D) ty hg oh16 jz18)) rfl rfl (fun v19 qv19 => ?_)
            obtain ⟨z20, az20, bz20, rfl⟩ := qv19
            have rz20 : -2147483648 ≤ z20 ∧ z20 ≤ 2147483647 := ⟨by omega, by omega⟩
            refine mj_T.eq (pc2 := 55) (st2 := [.int (jn z20)]) ?_ rfl rfl rfl rfl
            refine jT.if0 rfl rz20 (fun c55 => ?_) (fun c55 => ?_)
            · have c55 := of_decide_eq_true c55
              refine mj_T.pl rfl rfl rfl rfl ?_
              refine mj_T.pl (loc' := [some (.ref p0), some (.ref p1), some (.int (jn p2)), some (.ref p3), some (.int (jn 0)), some (.int (jn x2))]) rfl rfl rfl rfl ?_
              refine jT.iinc rfl rfl (fun z21 rz21 ez21 => ?_)
              replace ez21 := ez21 ⟨by omega, by omega⟩
              refine mj_T.eq (loc2 := [some (.ref p0), some (.ref p1), some (.int (jn p2)), some (.ref p3), some (.int (jn 0)), some (.int (jn z21))]) ?_ rfl rfl rfl rfl
              refine mj_T.pl rfl rfl rfl rfl ?_
              exact ih6 ((2147483647 - z21 : Int).toNat) (by omega) 0 z21 h16 ⟨by omega, by omega⟩ rz21 oh16 (by omega) rfl
            · have c55 := of_decide_eq_false c55
              iterate 2 refine mj_T.pl rfl rfl rfl rfl ?_
              refine mj_T.pl (loc' := [some (.ref p0), some (.ref p1), some (.int (jn p2)), some (.ref p3), some (.int (jn 1)), some (.int (jn x2))]) rfl rfl rfl rfl ?_
              refine jT.iinc rfl rfl (fun z22 rz22 ez22 => ?_)
              replace ez22 := ez22 ⟨by omega, by omega⟩
              refine mj_T.eq (loc2 := [some (.ref p0), some (.ref p1), some (.int (jn p2)), some (.ref p3), some (.int (jn 1)), some (.int (jn z22))]) ?_ rfl rfl rfl rfl
              refine mj_T.pl rfl rfl rfl rfl ?_
              exact ih6 ((2147483647 - z22 : Int).toNat) (by omega) 1 z22 h16 ⟨by omega, by omega⟩ rz22 oh16 (by omega) rfl
  exact t6_4 _ 1 0 h ⟨by omega, by omega⟩ ⟨by decide, by decide⟩ o (by omega) rfl
-- PolyRegisters.deriveRow([J[J)Z
theorem jc_168 {D n : Nat} {tm : Int} {h g : mj_H} {K L : Nat → Nat} {R : Nat → Nat → Nat} {p0 : Nat} {p1 : Nat} (ty : jTY K L R) (hg : g.length ≤ n) (o : jO K L R g n tm h) (kp0 : K p0 = 2) (kp1 : K p1 = 2) : mj_Ok (D + 2) 168 [.ref p0, .ref p1] h (jQ K L R g n tm [] (jVi 0 1)) := by
  refine mj_Ok.of (M := mj_m168) (loc := [some (.ref p0), some (.ref p1), none]) rfl rfl rfl ?_
  refine mj_T.pl rfl rfl rfl rfl ?_
  refine jT.call rfl rfl (Nat.le_of_ble_eq_true rfl) (Nat.le_of_ble_eq_true rfl) rfl rfl (mj_Ok.up (Nat.add_le_add_left (by decide) D) (jc_165 (D := D) ty hg o kp1)) rfl rfl (fun v1 h2 qv1 oh2 => ?_)
  obtain rfl : v1 = none := qv1
  refine mj_T.eq (pc2 := 4) (st2 := []) ?_ rfl rfl rfl rfl
  refine mj_T.pl rfl rfl rfl rfl ?_
  refine mj_T.pl (loc' := [some (.ref p0), some (.ref p1), some (.int (jn 1))]) rfl rfl rfl rfl ?_
  have t6_5 : ∀ (k6 : Nat) (x3 : Int) (h4 : mj_H), (-2147483648 ≤ x3 ∧ x3 ≤ 2147483647) → (jO K L R g n tm h4) → (1 ≤ x3) → (2147483647 - x3 : Int).toNat = k6 → mj_T (D + 1) mj_m168 6 [some (.ref p0), some (.ref p1), some (.int (jn x3))] [] h4 (jQ K L R g n tm [] (jVi 0 1)) := by
    refine jInd (fun k6 ih7 => ?_)
    intro x3 h4 rx3 oh4 ix3 hm8
    refine mj_T.pl rfl rfl rfl rfl ?_
    refine mj_T.pl rfl rfl rfl rfl ?_
    refine jT.alen 2 ty oh4 rfl kp0 (by decide) (by decide) (fun z9 ez9 (az9 : 13 ≤ z9) (bz9 : z9 ≤ 13) => ?_)
    have rz9 : -2147483648 ≤ z9 ∧ z9 ≤ 2147483647 := ⟨by omega, by omega⟩
    refine jT.icmp rfl rx3 rz9 (fun c9 => ?_) (fun c9 => ?_)
    · have c9 := of_decide_eq_true c9
      refine mj_T.pl rfl rfl rfl rfl ?_
      exact jT.retb oh4 rfl rfl (by omega) (by omega)
    · have c9 := of_decide_eq_false c9
      iterate 2 refine mj_T.pl rfl rfl rfl rfl ?_
      refine jT.alen 2 ty oh4 rfl kp1 (by decide) (by decide) (fun z10 ez10 (az10 : 13 ≤ z10) (bz10 : z10 ≤ 13) => ?_)
      have rz10 : -2147483648 ≤ z10 ∧ z10 ≤ 2147483647 := ⟨by omega, by omega⟩
      refine jT.icmp rfl rx3 rz10 (fun c15 => ?_) (fun c15 => ?_)
      · have c15 := of_decide_eq_true c15
        refine mj_T.pl rfl rfl rfl rfl ?_
        exact jT.retb oh4 rfl rfl (by omega) (by omega)
      · have c15 := of_decide_eq_false c15
        iterate 2 refine mj_T.pl rfl rfl rfl rfl ?_
        refine jT.lald oh4 rfl kp0 rx3 ⟨by omega, by omega⟩ (fun z11 jz11 => ?_)
        refine jT.ldcL rfl ?_
        refine mj_T.pl rfl rfl rfl rfl ?_
        refine jT.i2l rfl rx3 ?_
        have j12 : jR x3 := ⟨by omega, by omega⟩
        refine jT.ldiv rfl j12 (by omega) (fun z13 jz13 => ?_)
        refine mj_T.lif rfl rfl jz11 jz13 (fun c27 => ?_) (fun c27 => ?_)
        · have c27 := of_decide_eq_true c27
          refine mj_T.pl rfl rfl rfl rfl ?_
          exact jT.retb oh4 rfl rfl (by omega) (by omega)
        · have c27 := of_decide_eq_false c27
          iterate 2 refine mj_T.pl rfl rfl rfl rfl ?_
          refine jT.lald oh4 rfl kp0 rx3 ⟨by omega, by omega⟩ (fun z14 jz14 => ?_)
          refine jT.ldcL rfl ?_
          refine mj_T.pl rfl rfl rfl rfl ?_
          refine jT.i2l rfl rx3 ?_
          have j15 : jR x3 := ⟨by omega, by omega⟩
          refine jT.ldiv rfl j15 (by omega) (fun z16 jz16 => ?_)
          refine jT.lneg rfl (fun z17 jz17 _ => ?_)
          refine mj_T.lif rfl rfl jz14 jz17 (fun c41 => ?_) (fun c41 => ?_)
          · have c41 := of_decide_eq_true c41
            iterate 3 refine mj_T.pl rfl rfl rfl rfl ?_
            refine jT.isub rfl (fun z18 rz18 ez18 => ?_)
            replace ez18 := ez18 ⟨by omega, by omega⟩
            iterate 2 refine mj_T.pl rfl rfl rfl rfl ?_
            refine jT.lald oh4 rfl kp0 rx3 ⟨by omega, by omega⟩ (fun z19 jz19 => ?_)
            refine mj_T.pl rfl rfl rfl rfl ?_
            refine jT.i2l rfl rx3 ?_
            have j20 : jR x3 := ⟨by omega, by omega⟩
            refine jT.lmul rfl (fun z21 jz21 _ => ?_)
            refine jT.last oh4 rfl kp1 rz18 ⟨by omega, by omega⟩ jz21 (fun h22 oh22 uh22 => ?_)
            refine jT.iinc rfl rfl (fun z23 rz23 ez23 => ?_)
            replace ez23 := ez23 ⟨by omega, by omega⟩
            refine mj_T.eq (loc2 := [some (.ref p0), some (.ref p1), some (.int (jn z23))]) ?_ rfl rfl rfl rfl
            refine mj_T.pl rfl rfl rfl rfl ?_
            exact ih7 ((2147483647 - z23 : Int).toNat) (by omega) z23 h22 rz23 oh22 (by omega) rfl
          · have c41 := of_decide_eq_false c41
            refine mj_T.pl rfl rfl rfl rfl ?_
            exact jT.retb oh4 rfl rfl (by omega) (by omega)
  exact t6_5 _ 1 h2 ⟨by decide, by decide⟩ oh2 (by omega) rfl
-- PolyRegisters.contentOf([J)J
theorem jc_169 {D n : Nat} {tm : Int} {h g : mj_H} {K L : Nat → Nat} {R : Nat → Nat → Nat} {p0 : Nat} (ty : jTY K L R) (hg : g.length ≤ n) (o : jO K L R g n tm h) (kp0 : K p0 = 2) : mj_Ok (D + 2) 169 [.ref p0] h (jQp K L R g n tm h [] jVl) := by
  refine mj_Ok.of (M := mj_m169) (loc := [some (.ref p0), none, none, none]) rfl rfl rfl ?_
  refine jT.lc 0 rfl rfl ?_
  refine mj_T.pl (loc' := [some (.ref p0), some (.long (jl ((0 : Nat) : Int))), none, none]) rfl rfl rfl rfl ?_
  refine mj_T.pl rfl rfl rfl rfl ?_
  refine mj_T.pl (loc' := [some (.ref p0), some (.long (jl ((0 : Nat) : Int))), none, some (.int (jn 0))]) rfl rfl rfl rfl ?_
  have t4_3 : ∀ (k4 : Nat) (y1 : Int) (x2 : Int), (jR y1) → (-2147483648 ≤ x2 ∧ x2 ≤ 2147483647) → (0 ≤ x2) → (2147483647 - x2 : Int).toNat = k4 → mj_T (D + 1) mj_m169 4 [some (.ref p0), some (.long (jl y1)), none, some (.int (jn x2))] [] h (jQp K L R g n tm h [] jVl) := by
    refine jInd (fun k4 ih5 => ?_)
    intro y1 x2 jy1 rx2 ix2 hm6
    refine mj_T.pl rfl rfl rfl rfl ?_
    refine mj_T.pl rfl rfl rfl rfl ?_
    refine jT.alen 2 ty o rfl kp0 (by decide) (by decide) (fun z7 ez7 (az7 : 13 ≤ z7) (bz7 : z7 ≤ 13) => ?_)
    have rz7 : -2147483648 ≤ z7 ∧ z7 ≤ 2147483647 := ⟨by omega, by omega⟩
    refine jT.icmp rfl rx2 rz7 (fun c7 => ?_) (fun c7 => ?_)
    · have c7 := of_decide_eq_true c7
      refine mj_T.pl rfl rfl rfl rfl ?_
      exact jT.retp rfl rfl rfl ⟨y1, jy1, rfl⟩
    · have c7 := of_decide_eq_false c7
      iterate 3 refine mj_T.pl rfl rfl rfl rfl ?_
      refine jT.lald o rfl kp0 rx2 ⟨by omega, by omega⟩ (fun z8 jz8 => ?_)
      refine jT.callpp rfl rfl (Nat.le_of_ble_eq_true rfl) (Nat.le_of_ble_eq_true rfl) rfl rfl (mj_Ok.up (Nat.add_le_add_left (by decide) D) (jc_171 (D := D) ty hg o jy1 jz8)) rfl rfl (fun v9 qv9 => ?_)
      obtain ⟨z10, jz10, rfl⟩ := qv9
      refine mj_T.eq (pc2 := 17) (st2 := [.long (jl z10)]) ?_ rfl rfl rfl rfl
      refine mj_T.pl (loc' := [some (.ref p0), some (.long (jl z10)), none, some (.int (jn x2))]) rfl rfl rfl rfl ?_
      refine jT.iinc rfl rfl (fun z11 rz11 ez11 => ?_)
      replace ez11 := ez11 ⟨by omega, by omega⟩
      refine mj_T.eq (loc2 := [some (.ref p0), some (.long (jl z10)), none, some (.int (jn z11))]) ?_ rfl rfl rfl rfl
      refine mj_T.pl rfl rfl rfl rfl ?_
      exact ih5 ((2147483647 - z11 : Int).toNat) (by omega) z10 z11 jz10 rz11 (by omega) rfl
  exact t4_3 _ ((0 : Nat) : Int) 0 ⟨by decide, by decide⟩ ⟨by decide, by decide⟩ (by omega) rfl
-- PolyRegisters.signedContentOf([J)J
theorem jc_170 {D n : Nat} {tm : Int} {h g : mj_H} {K L : Nat → Nat} {R : Nat → Nat → Nat} {p0 : Nat} (ty : jTY K L R) (hg : g.length ≤ n) (o : jO K L R g n tm h) (kp0 : K p0 = 2) : mj_Ok (D + 3) 170 [.ref p0] h (jQp K L R g n tm h [] jVl) := by
  refine mj_Ok.of (M := mj_m170) (loc := [some (.ref p0), none, none, none]) rfl rfl rfl ?_
  refine mj_T.pl rfl rfl rfl rfl ?_
  refine jT.callpp rfl rfl (Nat.le_of_ble_eq_true rfl) (Nat.le_of_ble_eq_true rfl) rfl rfl (mj_Ok.up (Nat.add_le_add_left (by decide) D) (jc_162 (D := D) ty hg o kp0)) rfl rfl (fun v1 qv1 => ?_)
  obtain ⟨z2, az2, bz2, rfl⟩ := qv1
  have rz2 : -2147483648 ≤ z2 ∧ z2 ≤ 2147483647 := ⟨by omega, by omega⟩
  refine mj_T.eq (pc2 := 4) (st2 := [.int (jn z2)]) ?_ rfl rfl rfl rfl
  refine mj_T.pl (loc' := [some (.ref p0), some (.int (jn z2)), none, none]) rfl rfl rfl rfl ?_
  refine mj_T.pl rfl rfl rfl rfl ?_
  refine jT.callpp rfl rfl (Nat.le_of_ble_eq_true rfl) (Nat.le_of_ble_eq_true rfl) rfl rfl (mj_Ok.up (Nat.add_le_add_left (by decide) D) (jc_169 (D := D) ty hg o kp0)) rfl rfl (fun v3 qv3 => ?_)
  obtain ⟨z4, jz4, rfl⟩ := qv3
  refine mj_T.eq (pc2 := 9) (st2 := [.long (jl z4)]) ?_ rfl rfl rfl rfl
  refine mj_T.pl (loc' := [some (.ref p0), some (.int (jn z2)), some (.long (jl z4)), none]) rfl rfl rfl rfl ?_
  refine mj_T.pl rfl rfl rfl rfl ?_
  refine jT.if0 rfl rz2 (fun c11 => ?_) (fun c11 => ?_)
  · have c11 := of_decide_eq_true c11
    refine mj_T.pl rfl rfl rfl rfl ?_
    exact jT.retp rfl rfl rfl ⟨z4, jz4, rfl⟩
  · have c11 := of_decide_eq_false c11
    iterate 2 refine mj_T.pl rfl rfl rfl rfl ?_
    have l5 : 13 ≤ (L p0 : Int) ∧ (L p0 : Int) ≤ 13 := jlen 2 ty kp0 (by decide) (by decide)
    refine jT.lald o rfl kp0 rz2 ⟨by omega, by omega⟩ (fun z6 jz6 => ?_)
    refine jT.lc 0 rfl rfl ?_
    refine mj_T.lif rfl rfl jz6 ⟨by decide, by decide⟩ (fun c18 => ?_) (fun c18 => ?_)
    · have c18 := of_decide_eq_true c18
      refine mj_T.pl rfl rfl rfl rfl ?_
      exact jT.retp rfl rfl rfl ⟨z4, jz4, rfl⟩
    · have c18 := of_decide_eq_false c18
      refine mj_T.pl rfl rfl rfl rfl ?_
      refine jT.lneg rfl (fun z7 jz7 _ => ?_)
      refine mj_T.pl rfl rfl rfl rfl ?_
      exact jT.retp rfl rfl rfl ⟨z7, jz7, rfl⟩
-- PolyRegisters.residueOf(JI)I
theorem jc_172 {D n : Nat} {tm : Int} {h g : mj_H} {K L : Nat → Nat} {R : Nat → Nat → Nat} {p0 : Int} {p1 : Int} (ty : jTY K L R) (hg : g.length ≤ n) (o : jO K L R g n tm h) (jp0 : jR p0) (rp1 : -2147483648 ≤ p1 ∧ p1 ≤ 2147483647) : mj_Ok (D + 1) 172 [.long (jl p0), .int (jn p1)] h (jQp K L R g n tm h [] (jVi (-2147483648) 2147483647)) := by
  refine mj_Ok.of (M := mj_m172) (loc := [some (.long (jl p0)), none, some (.int (jn p1)), none, none]) rfl rfl rfl ?_
  refine mj_T.pl rfl rfl rfl rfl ?_
  have t12_2 : ∀ (y1 : Int), (jR y1) → mj_T (D + 0) mj_m172 12 [some (.long (jl p0)), none, some (.int (jn p1)), none, none] [.long (jl y1)] h (jQp K L R g n tm h [] (jVi (-2147483648) 2147483647)) := by
    intro y1 jy1
    refine mj_T.pl (loc' := [some (.long (jl p0)), none, some (.int (jn p1)), some (.long (jl y1)), none]) rfl rfl rfl rfl ?_
    refine mj_T.pl rfl rfl rfl rfl ?_
    refine jT.lc 0 rfl rfl ?_
    refine mj_T.lif rfl rfl jy1 ⟨by decide, by decide⟩ (fun c15 => ?_) (fun c15 => ?_)
    · have c15 := of_decide_eq_true c15
      refine mj_T.pl rfl rfl rfl rfl ?_
      refine jT.l2i rfl (fun z3 rz3 _ => ?_)
      exact jT.retp rfl rfl rfl ⟨z3, by omega, by omega, rfl⟩
    · have c15 := of_decide_eq_false c15
      iterate 2 refine mj_T.pl rfl rfl rfl rfl ?_
      refine jT.i2l rfl rp1 ?_
      have j4 : jR p1 := ⟨by omega, by omega⟩
      refine jT.ladd rfl (fun z5 jz5 _ => ?_)
      refine mj_T.pl rfl rfl rfl rfl ?_
      refine jT.l2i rfl (fun z6 rz6 _ => ?_)
      exact jT.retp rfl rfl rfl ⟨z6, by omega, by omega, rfl⟩
  refine jT.if0 rfl rp1 (fun c1 => ?_) (fun c1 => ?_)
  · have c1 := of_decide_eq_true c1
    iterate 2 refine mj_T.pl rfl rfl rfl rfl ?_
    refine jT.i2l rfl rp1 ?_
    have j7 : jR p1 := ⟨by omega, by omega⟩
    refine jT.lrem rfl j7 (by omega) (fun z8 jz8 => ?_)
    exact t12_2 z8 jz8
  · have c1 := of_decide_eq_false c1
    refine jT.lc 0 rfl rfl ?_
    refine mj_T.pl rfl rfl rfl rfl ?_
    exact t12_2 ((0 : Nat) : Int) ⟨by decide, by decide⟩
-- PolyRegisters.valueBy([JII)I
theorem jc_173 {D n : Nat} {tm : Int} {h g : mj_H} {K L : Nat → Nat} {R : Nat → Nat → Nat} {p0 : Nat} {p1 : Int} {p2 : Int} (ty : jTY K L R) (hg : g.length ≤ n) (o : jO K L R g n tm h) (kp0 : K p0 = 2) (rp1 : -2147483648 ≤ p1 ∧ p1 ≤ 2147483647) (rp2 : -2147483648 ≤ p2 ∧ p2 ≤ 2147483647) : mj_Ok (D + 2) 173 [.ref p0, .int (jn p1), .int (jn p2)] h (jQp K L R g n tm h [] (jVi (-2147483648) 2147483647)) := by
  refine mj_Ok.of (M := mj_m173) (loc := [some (.ref p0), some (.int (jn p1)), some (.int (jn p2)), none, none]) rfl rfl rfl ?_
  refine mj_T.pl rfl rfl rfl rfl ?_
  refine mj_T.pl (loc' := [some (.ref p0), some (.int (jn p1)), some (.int (jn p2)), some (.int (jn 0)), none]) rfl rfl rfl rfl ?_
  refine mj_T.pl rfl rfl rfl rfl ?_
  refine jT.alen 2 ty o rfl kp0 (by decide) (by decide) (fun z1 ez1 (az1 : 13 ≤ z1) (bz1 : z1 ≤ 13) => ?_)
  have rz1 : -2147483648 ≤ z1 ∧ z1 ≤ 2147483647 := ⟨by omega, by omega⟩
  refine mj_T.pl rfl rfl rfl rfl ?_
  refine jT.isub rfl (fun z2 rz2 ez2 => ?_)
  replace ez2 := ez2 ⟨by omega, by omega⟩
  refine mj_T.pl (loc' := [some (.ref p0), some (.int (jn p1)), some (.int (jn p2)), some (.int (jn 0)), some (.int (jn z2))]) rfl rfl rfl rfl ?_
  have t8_5 : ∀ (k6 : Nat) (x3 : Int) (x4 : Int), (-2147483648 ≤ x3 ∧ x3 ≤ 2147483647) → (-2147483648 ≤ x4 ∧ x4 ≤ 2147483647) → (x4 ≤ z2) → (x4 + 1 : Int).toNat = k6 → mj_T (D + 1) mj_m173 8 [some (.ref p0), some (.int (jn p1)), some (.int (jn p2)), some (.int (jn x3)), some (.int (jn x4))] [] h (jQp K L R g n tm h [] (jVi (-2147483648) 2147483647)) := by
    refine jInd (fun k6 ih7 => ?_)
    intro x3 x4 rx3 rx4 ix4 hm8
    refine mj_T.pl rfl rfl rfl rfl ?_
    refine jT.if0 rfl rx4 (fun c10 => ?_) (fun c10 => ?_)
    · have c10 := of_decide_eq_true c10
      refine mj_T.pl rfl rfl rfl rfl ?_
      exact jT.retp rfl rfl rfl ⟨x3, by omega, by omega, rfl⟩
    · have c10 := of_decide_eq_false c10
      refine mj_T.pl rfl rfl rfl rfl ?_
      refine jT.i2l rfl rx3 ?_
      have j9 : jR x3 := ⟨by omega, by omega⟩
      refine mj_T.pl rfl rfl rfl rfl ?_
      refine jT.i2l rfl rp1 ?_
      have j10 : jR p1 := ⟨by omega, by omega⟩
      refine jT.lmul rfl (fun z11 jz11 _ => ?_)
      iterate 2 refine mj_T.pl rfl rfl rfl rfl ?_
      refine jT.lald o rfl kp0 rx4 ⟨by omega, by omega⟩ (fun z12 jz12 => ?_)
      refine mj_T.pl rfl rfl rfl rfl ?_
      refine jT.callpp rfl rfl (Nat.le_of_ble_eq_true rfl) (Nat.le_of_ble_eq_true rfl) rfl rfl (mj_Ok.up (Nat.add_le_add_left (by decide) D) (jc_172 (D := D) ty hg o jz12 rp2)) rfl rfl (fun v13 qv13 => ?_)
      obtain ⟨z14, az14, bz14, rfl⟩ := qv13
      have rz14 : -2147483648 ≤ z14 ∧ z14 ≤ 2147483647 := ⟨by omega, by omega⟩
      refine mj_T.eq (pc2 := 26) (st2 := [.int (jn z14), .long (jl z11)]) ?_ rfl rfl rfl rfl
      refine jT.i2l rfl rz14 ?_
      have j15 : jR z14 := ⟨by omega, by omega⟩
      refine jT.ladd rfl (fun z16 jz16 _ => ?_)
      refine mj_T.pl rfl rfl rfl rfl ?_
      refine jT.callpp rfl rfl (Nat.le_of_ble_eq_true rfl) (Nat.le_of_ble_eq_true rfl) rfl rfl (mj_Ok.up (Nat.add_le_add_left (by decide) D) (jc_172 (D := D) ty hg o jz16 rp2)) rfl rfl (fun v17 qv17 => ?_)
      obtain ⟨z18, az18, bz18, rfl⟩ := qv17
      have rz18 : -2147483648 ≤ z18 ∧ z18 ≤ 2147483647 := ⟨by omega, by omega⟩
      refine mj_T.eq (pc2 := 32) (st2 := [.int (jn z18)]) ?_ rfl rfl rfl rfl
      refine mj_T.pl (loc' := [some (.ref p0), some (.int (jn p1)), some (.int (jn p2)), some (.int (jn z18)), some (.int (jn x4))]) rfl rfl rfl rfl ?_
      refine jT.iinc rfl rfl (fun z19 rz19 ez19 => ?_)
      replace ez19 := ez19 ⟨by omega, by omega⟩
      refine mj_T.eq (loc2 := [some (.ref p0), some (.int (jn p1)), some (.int (jn p2)), some (.int (jn z18)), some (.int (jn z19))]) ?_ rfl rfl rfl rfl
      refine mj_T.pl rfl rfl rfl rfl ?_
      exact ih7 ((z19 + 1 : Int).toNat) (by omega) z18 z19 rz18 rz19 (by omega) rfl
  exact t8_5 _ 0 z2 ⟨by decide, by decide⟩ rz2 (by omega) rfl
