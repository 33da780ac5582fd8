/-! The class by kinds: its methods. -/
-- PolyRegisters$Wide.setProduct(LPolyRegisters$Wide;LPolyRegisters$Wide;)V
theorem jc_95 {D n : Nat} {tm : Int} {h g : mj_H} {K L : Nat → Nat} {R : Nat → Nat → Nat} {p0 : Nat} {p1 : Nat} {p2 : Nat} (ty : jTY K L R) (hg : g.length ≤ n) (o : jO K L R g n tm h) (kp0 : K p0 = 18) (kp1 : K p1 = 18) (kp2 : K p2 = 18) : mj_Ok (D + 1) 95 [.ref p0, .ref p1, .ref p2] h (jQ K L R g n tm [] jV0) := by
  refine mj_Ok.of (M := mj_m95) (loc := [some (.ref p0), some (.ref p1), some (.ref p2), none, none, none, none, none, none, none, none, none, none, none, none]) rfl rfl rfl ?_
  refine mj_T.pl rfl rfl rfl rfl ?_
  refine jT.getI 18 10 o rfl kp1 (by decide) rfl rfl rfl (fun z1 (az1 : 0 ≤ z1) (bz1 : z1 ≤ 1000) fz1 => ?_)
  have rz1 : -2147483648 ≤ z1 ∧ z1 ≤ 2147483647 := ⟨by omega, by omega⟩
  refine mj_T.pl rfl rfl rfl rfl ?_
  refine jT.getR 18 101 1 ty o rfl kp1 (by decide) rfl rfl rfl (fun k2 => ?_)
  refine jT.alen 1 ty o rfl k2 (by decide) (by decide) (fun z3 ez3 (az3 : 0 ≤ z3) (bz3 : z3 ≤ 1000) => ?_)
  have rz3 : -2147483648 ≤ z3 ∧ z3 ≤ 2147483647 := ⟨by omega, by omega⟩
  refine jT.imin rfl rfl (Nat.le_of_ble_eq_true rfl) rz1 rz3 (fun z4 ez4 => ?_)
  have rz4 : -2147483648 ≤ z4 ∧ z4 ≤ 2147483647 := ⟨by omega, by omega⟩
  refine mj_T.pl (loc' := [some (.ref p0), some (.ref p1), some (.ref p2), some (.int (jn z4)), none, none, none, none, none, none, none, none, none, none, none]) rfl rfl rfl rfl ?_
  refine mj_T.pl rfl rfl rfl rfl ?_
  refine jT.getI 18 10 o rfl kp2 (by decide) rfl rfl rfl (fun z5 (az5 : 0 ≤ z5) (bz5 : z5 ≤ 1000) fz5 => ?_)
  have rz5 : -2147483648 ≤ z5 ∧ z5 ≤ 2147483647 := ⟨by omega, by omega⟩
  refine mj_T.pl rfl rfl rfl rfl ?_
  refine jT.getR 18 101 1 ty o rfl kp2 (by decide) rfl rfl rfl (fun k6 => ?_)
  refine jT.alen 1 ty o rfl k6 (by decide) (by decide) (fun z7 ez7 (az7 : 0 ≤ z7) (bz7 : z7 ≤ 1000) => ?_)
  have rz7 : -2147483648 ≤ z7 ∧ z7 ≤ 2147483647 := ⟨by omega, by omega⟩
  refine jT.imin rfl rfl (Nat.le_of_ble_eq_true rfl) rz5 rz7 (fun z8 ez8 => ?_)
  have rz8 : -2147483648 ≤ z8 ∧ z8 ≤ 2147483647 := ⟨by omega, by omega⟩
  refine mj_T.pl (loc' := [some (.ref p0), some (.ref p1), some (.ref p2), some (.int (jn z4)), some (.int (jn z8)), none, none, none, none, none, none, none, none, none, none]) rfl rfl rfl rfl ?_
  iterate 2 refine mj_T.pl rfl rfl rfl rfl ?_
  refine jT.iadd rfl (fun z9 rz9 ez9 => ?_)
  replace ez9 := ez9 ⟨by omega, by omega⟩
  refine mj_T.pl rfl rfl rfl rfl ?_
  refine jT.getR 18 101 1 ty o rfl kp0 (by decide) rfl rfl rfl (fun k10 => ?_)
  refine jT.alen 1 ty o rfl k10 (by decide) (by decide) (fun z11 ez11 (az11 : 0 ≤ z11) (bz11 : z11 ≤ 1000) => ?_)
  have rz11 : -2147483648 ≤ z11 ∧ z11 ≤ 2147483647 := ⟨by omega, by omega⟩
  refine jT.imin rfl rfl (Nat.le_of_ble_eq_true rfl) rz9 rz11 (fun z12 ez12 => ?_)
  have rz12 : -2147483648 ≤ z12 ∧ z12 ≤ 2147483647 := ⟨by omega, by omega⟩
  refine mj_T.pl (loc' := [some (.ref p0), some (.ref p1), some (.ref p2), some (.int (jn z4)), some (.int (jn z8)), some (.int (jn z12)), none, none, none, none, none, none, none, none, none]) rfl rfl rfl rfl ?_
  refine jT.lc 0 rfl rfl ?_
  refine mj_T.pl (loc' := [some (.ref p0), some (.ref p1), some (.ref p2), some (.int (jn z4)), some (.int (jn z8)), some (.int (jn z12)), some (.long (jl ((0 : Nat) : Int))), none, none, none, none, none, none, none, none]) rfl rfl rfl rfl ?_
  iterate 2 refine mj_T.pl rfl rfl rfl rfl ?_
  refine jT.putI 18 10 o rfl kp0 (by decide) rfl rfl rfl (Or.inl rfl) (by show 0 ≤ 0; omega) (by show 0 ≤ 1000; omega) (fun h13 oh13 wh13 uh13 => ?_)
  refine mj_T.pl rfl rfl rfl rfl ?_
  refine mj_T.pl (loc' := [some (.ref p0), some (.ref p1), some (.ref p2), some (.int (jn z4)), some (.int (jn z8)), some (.int (jn z12)), some (.long (jl ((0 : Nat) : Int))), none, some (.int (jn 0)), none, none, none, none, none, none]) rfl rfl rfl rfl ?_
  have t52_21 : ∀ (k22 : Nat) (y14 : Int) (x15 : Int) (w16 : Option Value) (w17 : Option Value) (w18 : Option Value) (w19 : Option Value) (h20 : mj_H), (jR y14) → (-2147483648 ≤ x15 ∧ x15 ≤ 2147483647) → (jO K L R g n tm h20) → (0 ≤ x15) → (2147483647 - x15 : Int).toNat = k22 → mj_T (D + 0) mj_m95 52 [some (.ref p0), some (.ref p1), some (.ref p2), some (.int (jn z4)), some (.int (jn z8)), some (.int (jn z12)), some (.long (jl y14)), none, some (.int (jn x15)), w16, none, w17, none, w18, w19] [] h20 (jQ K L R g n tm [] jV0) := by
    refine jInd (fun k22 ih23 => ?_)
    intro y14 x15 w16 w17 w18 w19 h20 jy14 rx15 oh20 ix15 hm24
    refine mj_T.pl rfl rfl rfl rfl ?_
    refine mj_T.pl rfl rfl rfl rfl ?_
    refine jT.icmp rfl rx15 rz12 (fun c56 => ?_) (fun c56 => ?_)
    · have c56 := of_decide_eq_true c56
      iterate 2 refine mj_T.pl rfl rfl rfl rfl ?_
      refine jT.getI 18 10 oh20 rfl kp0 (by decide) rfl rfl rfl (fun z25 (az25 : 0 ≤ z25) (bz25 : z25 ≤ 1000) fz25 => ?_)
      have rz25 : -2147483648 ≤ z25 ∧ z25 ≤ 2147483647 := ⟨by omega, by omega⟩
      refine jT.if0 rfl rz25 (fun c213 => ?_) (fun c213 => ?_)
      · have c213 := jne1 c213
        refine mj_T.pl rfl rfl rfl rfl ?_
        refine jT.getI 18 0 oh20 rfl kp1 (by decide) rfl rfl rfl (fun z26 (az26 : (-2147483648) ≤ z26) (bz26 : z26 ≤ 2147483647) fz26 => ?_)
        have rz26 : -2147483648 ≤ z26 ∧ z26 ≤ 2147483647 := ⟨by omega, by omega⟩
        refine mj_T.pl rfl rfl rfl rfl ?_
        refine jT.getI 18 0 oh20 rfl kp2 (by decide) rfl rfl rfl (fun z27 (az27 : (-2147483648) ≤ z27) (bz27 : z27 ≤ 2147483647) fz27 => ?_)
        have rz27 : -2147483648 ≤ z27 ∧ z27 ≤ 2147483647 := ⟨by omega, by omega⟩
        refine jT.imul rfl (fun z28 rz28 ez28 => ?_)
        clear ez28
        refine jT.putI 18 0 oh20 rfl kp0 (by decide) rfl rfl rfl (Or.inl rfl) (by show (-2147483648) ≤ z28; omega) (by show z28 ≤ 2147483647; omega) (fun h29 oh29 wh29 uh29 => ?_)
        exact jT.ret oh29 rfl rfl rfl rfl
      · have c213 := jne2 c213
        iterate 2 refine mj_T.pl rfl rfl rfl rfl ?_
        refine jT.putI 18 0 oh20 rfl kp0 (by decide) rfl rfl rfl (Or.inl rfl) (by show (-2147483648) ≤ 0; omega) (by show 0 ≤ 2147483647; omega) (fun h30 oh30 wh30 uh30 => ?_)
        exact jT.ret oh30 rfl rfl rfl rfl
    · have c56 := of_decide_eq_false c56
      refine mj_T.pl rfl rfl rfl rfl ?_
      refine mj_T.pl (loc' := [some (.ref p0), some (.ref p1), some (.ref p2), some (.int (jn z4)), some (.int (jn z8)), some (.int (jn z12)), some (.long (jl y14)), none, some (.int (jn x15)), some (.long (jl y14)), none, w17, none, w18, w19]) rfl rfl rfl rfl ?_
      refine jT.lc 0 rfl rfl ?_
      refine mj_T.pl (loc' := [some (.ref p0), some (.ref p1), some (.ref p2), some (.int (jn z4)), some (.int (jn z8)), some (.int (jn z12)), some (.long (jl y14)), none, some (.int (jn x15)), some (.long (jl y14)), none, some (.long (jl ((0 : Nat) : Int))), none, w18, w19]) rfl rfl rfl rfl ?_
      iterate 3 refine mj_T.pl rfl rfl rfl rfl ?_
      refine jT.isub rfl (fun z31 rz31 ez31 => ?_)
      replace ez31 := ez31 ⟨by omega, by omega⟩
      refine jT.imin rfl rfl (Nat.le_of_ble_eq_true rfl) rx15 rz31 (fun z32 ez32 => ?_)
      have rz32 : -2147483648 ≤ z32 ∧ z32 ≤ 2147483647 := ⟨by omega, by omega⟩
      refine mj_T.pl (loc' := [some (.ref p0), some (.ref p1), some (.ref p2), some (.int (jn z4)), some (.int (jn z8)), some (.int (jn z12)), some (.long (jl y14)), none, some (.int (jn x15)), some (.long (jl y14)), none, some (.long (jl ((0 : Nat) : Int))), none, some (.int (jn z32)), w19]) rfl rfl rfl rfl ?_
      iterate 3 refine mj_T.pl rfl rfl rfl rfl ?_
      refine jT.isub rfl (fun z33 rz33 ez33 => ?_)
      replace ez33 := ez33 ⟨by omega, by omega⟩
      refine mj_T.pl rfl rfl rfl rfl ?_
      refine jT.iadd rfl (fun z34 rz34 ez34 => ?_)
      replace ez34 := ez34 ⟨by omega, by omega⟩
      refine jT.imax rfl rfl (Nat.le_of_ble_eq_true rfl) ⟨by decide, by decide⟩ rz34 (fun z35 ez35 => ?_)
      have rz35 : -2147483648 ≤ z35 ∧ z35 ≤ 2147483647 := ⟨by omega, by omega⟩
      refine mj_T.pl (loc' := [some (.ref p0), some (.ref p1), some (.ref p2), some (.int (jn z4)), some (.int (jn z8)), some (.int (jn z12)), some (.long (jl y14)), none, some (.int (jn x15)), some (.long (jl y14)), none, some (.long (jl ((0 : Nat) : Int))), none, some (.int (jn z32)), some (.int (jn z35))]) rfl rfl rfl rfl ?_
      have t89_39 : ∀ (k40 : Nat) (y36 : Int) (y37 : Int) (x38 : Int), (jR y36) → (jR y37) → (-2147483648 ≤ x38 ∧ x38 ≤ 2147483647) → (z35 ≤ x38) → (2147483647 - x38 : Int).toNat = k40 → mj_T (D + 0) mj_m95 89 [some (.ref p0), some (.ref p1), some (.ref p2), some (.int (jn z4)), some (.int (jn z8)), some (.int (jn z12)), some (.long (jl y14)), none, some (.int (jn x15)), some (.long (jl y36)), none, some (.long (jl y37)), none, some (.int (jn z32)), some (.int (jn x38))] [] h20 (jQ K L R g n tm [] jV0) := by
        refine jInd (fun k40 ih41 => ?_)
        intro y36 y37 x38 jy36 jy37 rx38 ix38 hm42
        refine mj_T.pl rfl rfl rfl rfl ?_
        refine mj_T.pl rfl rfl rfl rfl ?_
        refine jT.icmp rfl rx38 rz32 (fun c93 => ?_) (fun c93 => ?_)
        · have c93 := of_decide_eq_true c93
          iterate 2 refine mj_T.pl rfl rfl rfl rfl ?_
          refine jT.ldcL rfl ?_
          refine jT.ldiv rfl ⟨by decide, by decide⟩ (by decide) (fun z43 jz43 => ?_)
          refine jT.ladd rfl (fun z44 jz44 _ => ?_)
          refine mj_T.pl (loc' := [some (.ref p0), some (.ref p1), some (.ref p2), some (.int (jn z4)), some (.int (jn z8)), some (.int (jn z12)), some (.long (jl z44)), none, some (.int (jn x15)), some (.long (jl y36)), none, some (.long (jl y37)), none, some (.int (jn z32)), some (.int (jn x38))]) rfl rfl rfl rfl ?_
          refine mj_T.pl rfl rfl rfl rfl ?_
          refine jT.getR 18 101 1 ty oh20 rfl kp0 (by decide) rfl rfl rfl (fun k45 => ?_)
          iterate 2 refine mj_T.pl rfl rfl rfl rfl ?_
          refine jT.ldcL rfl ?_
          refine jT.lrem rfl ⟨by decide, by decide⟩ (by decide) (fun z46 jz46 => ?_)
          refine jT.l2i rfl (fun z47 rz47 _ => ?_)
          refine jT.iast oh20 rfl k45 rx15 ⟨by omega, by omega⟩ rz47 (fun h48 oh48 uh48 => ?_)
          iterate 2 refine mj_T.pl rfl rfl rfl rfl ?_
          refine jT.getR 18 101 1 ty oh48 rfl kp0 (by decide) rfl rfl rfl (fun k49 => ?_)
          refine mj_T.pl rfl rfl rfl rfl ?_
          refine jT.iald oh48 rfl k49 rx15 ⟨by omega, by omega⟩ (fun z50 rz50 fz50 => ?_)
          refine jT.if0 rfl rz50 (fun c185 => ?_) (fun c185 => ?_)
          · have c185 := of_decide_eq_true c185
            refine mj_T.pl rfl rfl rfl rfl ?_
            refine jT.getI 18 10 oh48 rfl kp0 (by decide) rfl rfl rfl (fun z51 (az51 : 0 ≤ z51) (bz51 : z51 ≤ 1000) fz51 => ?_)
            have rz51 : -2147483648 ≤ z51 ∧ z51 ≤ 2147483647 := ⟨by omega, by omega⟩
            refine jT.putI 18 10 oh48 rfl kp0 (by decide) rfl rfl rfl (Or.inl rfl) (by show 0 ≤ z51; omega) (by show z51 ≤ 1000; omega) (fun h52 oh52 wh52 uh52 => ?_)
            refine jT.iinc rfl rfl (fun z53 rz53 ez53 => ?_)
            replace ez53 := ez53 ⟨by omega, by omega⟩
            refine mj_T.eq (loc2 := [some (.ref p0), some (.ref p1), some (.ref p2), some (.int (jn z4)), some (.int (jn z8)), some (.int (jn z12)), some (.long (jl z44)), none, some (.int (jn z53)), some (.long (jl y36)), none, some (.long (jl y37)), none, some (.int (jn z32)), some (.int (jn x38))]) ?_ rfl rfl rfl rfl
            refine mj_T.pl rfl rfl rfl rfl ?_
            exact ih23 ((2147483647 - z53 : Int).toNat) (by omega) z44 z53 (some (.long (jl y36))) (some (.long (jl y37))) (some (.int (jn z32))) (some (.int (jn x38))) h52 jz44 rz53 oh52 (by omega) rfl
          · have c185 := of_decide_eq_false c185
            iterate 2 refine mj_T.pl rfl rfl rfl rfl ?_
            refine jT.iadd rfl (fun z54 rz54 ez54 => ?_)
            replace ez54 := ez54 ⟨by omega, by omega⟩
            refine mj_T.pl rfl rfl rfl rfl ?_
            refine jT.putI 18 10 oh48 rfl kp0 (by decide) rfl rfl rfl (Or.inl rfl) (by show 0 ≤ z54; omega) (by show z54 ≤ 1000; omega) (fun h55 oh55 wh55 uh55 => ?_)
            refine jT.iinc rfl rfl (fun z56 rz56 ez56 => ?_)
            replace ez56 := ez56 ⟨by omega, by omega⟩
            refine mj_T.eq (loc2 := [some (.ref p0), some (.ref p1), some (.ref p2), some (.int (jn z4)), some (.int (jn z8)), some (.int (jn z12)), some (.long (jl z44)), none, some (.int (jn z56)), some (.long (jl y36)), none, some (.long (jl y37)), none, some (.int (jn z32)), some (.int (jn x38))]) ?_ rfl rfl rfl rfl
            refine mj_T.pl rfl rfl rfl rfl ?_
            exact ih23 ((2147483647 - z56 : Int).toNat) (by omega) z44 z56 (some (.long (jl y36))) (some (.long (jl y37))) (some (.int (jn z32))) (some (.int (jn x38))) h55 jz44 rz56 oh55 (by omega) rfl
        · have c93 := of_decide_eq_false c93
          iterate 2 refine mj_T.pl rfl rfl rfl rfl ?_
          refine jT.getR 18 101 1 ty oh20 rfl kp1 (by decide) rfl rfl rfl (fun k57 => ?_)
          refine mj_T.pl rfl rfl rfl rfl ?_
          refine jT.iald oh20 rfl k57 rx38 ⟨by omega, by omega⟩ (fun z58 rz58 fz58 => ?_)
          refine jT.i2l rfl rz58 ?_
          have j59 : jR z58 := ⟨by omega, by omega⟩
          refine mj_T.pl rfl rfl rfl rfl ?_
          refine jT.getR 18 101 1 ty oh20 rfl kp2 (by decide) rfl rfl rfl (fun k60 => ?_)
          iterate 2 refine mj_T.pl rfl rfl rfl rfl ?_
          refine jT.isub rfl (fun z61 rz61 ez61 => ?_)
          replace ez61 := ez61 ⟨by omega, by omega⟩
          refine jT.iald oh20 rfl k60 rz61 ⟨by omega, by omega⟩ (fun z62 rz62 fz62 => ?_)
          refine jT.i2l rfl rz62 ?_
          have j63 : jR z62 := ⟨by omega, by omega⟩
          refine jT.lmul rfl (fun z64 jz64 _ => ?_)
          refine jT.ladd rfl (fun z65 jz65 _ => ?_)
          refine mj_T.pl (loc' := [some (.ref p0), some (.ref p1), some (.ref p2), some (.int (jn z4)), some (.int (jn z8)), some (.int (jn z12)), some (.long (jl y14)), none, some (.int (jn x15)), some (.long (jl z65)), none, some (.long (jl y37)), none, some (.int (jn z32)), some (.int (jn x38))]) rfl rfl rfl rfl ?_
          refine mj_T.pl rfl rfl rfl rfl ?_
          refine jT.ldcL rfl ?_
          refine mj_T.lif rfl rfl jz65 ⟨by decide, by decide⟩ (fun c126 => ?_) (fun c126 => ?_)
          · have c126 := of_decide_eq_true c126
            refine jT.iinc rfl rfl (fun z66 rz66 ez66 => ?_)
            replace ez66 := ez66 ⟨by omega, by omega⟩
            refine mj_T.eq (loc2 := [some (.ref p0), some (.ref p1), some (.ref p2), some (.int (jn z4)), some (.int (jn z8)), some (.int (jn z12)), some (.long (jl y14)), none, some (.int (jn x15)), some (.long (jl z65)), none, some (.long (jl y37)), none, some (.int (jn z32)), some (.int (jn z66))]) ?_ rfl rfl rfl rfl
            refine mj_T.pl rfl rfl rfl rfl ?_
            exact ih41 ((2147483647 - z66 : Int).toNat) (by omega) z65 y37 z66 jz65 jy37 rz66 (by omega) rfl
          · have c126 := of_decide_eq_false c126
            refine mj_T.pl rfl rfl rfl rfl ?_
            refine jT.ldcL rfl ?_
            refine jT.lsub rfl (fun z67 jz67 _ => ?_)
            refine mj_T.pl (loc' := [some (.ref p0), some (.ref p1), some (.ref p2), some (.int (jn z4)), some (.int (jn z8)), some (.int (jn z12)), some (.long (jl y14)), none, some (.int (jn x15)), some (.long (jl z67)), none, some (.long (jl y37)), none, some (.int (jn z32)), some (.int (jn x38))]) rfl rfl rfl rfl ?_
            refine mj_T.pl rfl rfl rfl rfl ?_
            refine jT.ldcL rfl ?_
            refine jT.ladd rfl (fun z68 jz68 _ => ?_)
            refine mj_T.pl (loc' := [some (.ref p0), some (.ref p1), some (.ref p2), some (.int (jn z4)), some (.int (jn z8)), some (.int (jn z12)), some (.long (jl y14)), none, some (.int (jn x15)), some (.long (jl z67)), none, some (.long (jl z68)), none, some (.int (jn z32)), some (.int (jn x38))]) rfl rfl rfl rfl ?_
            refine jT.iinc rfl rfl (fun z69 rz69 ez69 => ?_)
            replace ez69 := ez69 ⟨by omega, by omega⟩
            refine mj_T.eq (loc2 := [some (.ref p0), some (.ref p1), some (.ref p2), some (.int (jn z4)), some (.int (jn z8)), some (.int (jn z12)), some (.long (jl y14)), none, some (.int (jn x15)), some (.long (jl z67)), none, some (.long (jl z68)), none, some (.int (jn z32)), some (.int (jn z69))]) ?_ rfl rfl rfl rfl
            refine mj_T.pl rfl rfl rfl rfl ?_
            exact ih41 ((2147483647 - z69 : Int).toNat) (by omega) z67 z68 z69 jz67 jz68 rz69 (by omega) rfl
      exact t89_39 _ y14 ((0 : Nat) : Int) z35 jy14 ⟨by decide, by decide⟩ rz35 (by omega) rfl
  exact t52_21 _ ((0 : Nat) : Int) 0 none none none none h13 ⟨by decide, by decide⟩ ⟨by decide, by decide⟩ oh13 (by omega) rfl
-- PolyRegisters$Divisor.prepare(LPolyRegisters$Wide;)V
theorem jc_30 {D n : Nat} {tm : Int} {h g : mj_H} {K L : Nat → Nat} {R : Nat → Nat → Nat} {p0 : Nat} {p1 : Nat} (ty : jTY K L R) (hg : g.length ≤ n) (o : jO K L R g n tm h) (kp0 : K p0 = 12) (kp1 : K p1 = 18) : mj_Ok (D + 1) 30 [.ref p0, .ref p1] h (jQ K L R g n tm [] jV0) := by
  refine mj_Ok.of (M := mj_m30) (loc := [some (.ref p0), some (.ref p1), none, none, none, none, none, none]) rfl rfl rfl ?_
  refine mj_T.pl rfl rfl rfl rfl ?_
  refine jT.getR 18 101 1 ty o rfl kp1 (by decide) rfl rfl rfl (fun k1 => ?_)
  refine mj_T.pl (loc' := [some (.ref p0), some (.ref p1), some (.ref (R p1 0)), none, none, none, none, none]) rfl rfl rfl rfl ?_
  iterate 2 refine mj_T.pl rfl rfl rfl rfl ?_
  refine jT.getI 18 10 o rfl kp1 (by decide) rfl rfl rfl (fun z2 (az2 : 0 ≤ z2) (bz2 : z2 ≤ 1000) fz2 => ?_)
  have rz2 : -2147483648 ≤ z2 ∧ z2 ≤ 2147483647 := ⟨by omega, by omega⟩
  refine mj_T.pl rfl rfl rfl rfl ?_
  refine jT.getR 12 101 1 ty o rfl kp0 (by decide) rfl rfl rfl (fun k3 => ?_)
  have lk3 : L (R p0 0) = 60 := ty.2.2.2.1 p0 kp0
  refine jT.alen 1 ty o rfl k3 (by decide) (by decide) (fun z4 ez4 (az4 : 0 ≤ z4) (bz4 : z4 ≤ 1000) => ?_)
  have rz4 : -2147483648 ≤ z4 ∧ z4 ≤ 2147483647 := ⟨by omega, by omega⟩
  refine mj_T.pl rfl rfl rfl rfl ?_
  refine jT.alen 1 ty o rfl k1 (by decide) (by decide) (fun z5 ez5 (az5 : 0 ≤ z5) (bz5 : z5 ≤ 1000) => ?_)
  have rz5 : -2147483648 ≤ z5 ∧ z5 ≤ 2147483647 := ⟨by omega, by omega⟩
  refine jT.imin rfl rfl (Nat.le_of_ble_eq_true rfl) rz4 rz5 (fun z6 ez6 => ?_)
  have rz6 : -2147483648 ≤ z6 ∧ z6 ≤ 2147483647 := ⟨by omega, by omega⟩
  refine jT.imin rfl rfl (Nat.le_of_ble_eq_true rfl) rz2 rz6 (fun z7 ez7 => ?_)
  have rz7 : -2147483648 ≤ z7 ∧ z7 ≤ 2147483647 := ⟨by omega, by omega⟩
  refine jT.putI 12 8 o rfl kp0 (by decide) rfl rfl rfl (Or.inl rfl) (by show 0 ≤ z7; omega) (by show z7 ≤ 60; omega) (fun h8 oh8 wh8 uh8 => ?_)
  iterate 2 refine mj_T.pl rfl rfl rfl rfl ?_
  refine jT.getI 18 0 oh8 rfl kp1 (by decide) rfl rfl rfl (fun z9 (az9 : (-2147483648) ≤ z9) (bz9 : z9 ≤ 2147483647) fz9 => ?_)
  have rz9 : -2147483648 ≤ z9 ∧ z9 ≤ 2147483647 := ⟨by omega, by omega⟩
  refine jT.putI 12 0 oh8 rfl kp0 (by decide) rfl rfl rfl (Or.inl rfl) (by show (-2147483648) ≤ z9; omega) (by show z9 ≤ 2147483647; omega) (fun h10 oh10 wh10 uh10 => ?_)
  iterate 2 refine mj_T.pl rfl rfl rfl rfl ?_
  refine jT.getK 12 8 oh10 rfl kp0 (by decide) rfl rfl rfl ((uh10 p0 1 (Or.inr (by decide))).trans wh8) ?_
  refine jT.if0 rfl rz7 (fun c39 => ?_) (fun c39 => ?_)
  · have c39 := of_decide_eq_true c39
    refine jT.lc 1 rfl rfl ?_
    refine jT.putL 12 ⟨by decide, by decide⟩ oh10 rfl kp0 (by decide) rfl rfl (fun h11 oh11 uh11 => ?_)
    refine jT.lc 0 rfl rfl ?_
    refine mj_T.pl (loc' := [some (.ref p0), some (.ref p1), some (.ref (R p1 0)), some (.long (jl ((0 : Nat) : Int))), none, none, none, none]) rfl rfl rfl rfl ?_
    refine mj_T.pl rfl rfl rfl rfl ?_
    refine mj_T.pl (loc' := [some (.ref p0), some (.ref p1), some (.ref (R p1 0)), some (.long (jl ((0 : Nat) : Int))), none, some (.int (jn 0)), none, none]) rfl rfl rfl rfl ?_
    have t80_18 : ∀ (k19 : Nat) (y12 : Int) (x13 : Int) (w14 : Option Value) (h15 : mj_H), (jR y12) → (-2147483648 ≤ x13 ∧ x13 ≤ 2147483647) → (jO K L R g n tm h15) → (jfI h15 p0 1 = z7) → (jfI h15 p0 2 = z9) → (0 ≤ x13) → (2147483647 - x13 : Int).toNat = k19 → mj_T (D + 0) mj_m30 80 [some (.ref p0), some (.ref p1), some (.ref (R p1 0)), some (.long (jl y12)), none, some (.int (jn x13)), w14, none] [] h15 (jQ K L R g n tm [] jV0) := by
      refine jInd (fun k19 ih20 => ?_)
      intro y12 x13 w14 h15 jy12 rx13 oh15 f16 f17 ix13 hm21
      refine mj_T.pl rfl rfl rfl rfl ?_
      refine mj_T.pl rfl rfl rfl rfl ?_
      refine jT.getK 12 8 oh15 rfl kp0 (by decide) rfl rfl rfl f16 ?_
      refine jT.icmp rfl rx13 rz7 (fun c86 => ?_) (fun c86 => ?_)
      · have c86 := of_decide_eq_true c86
        exact jT.ret oh15 rfl rfl rfl rfl
      · have c86 := of_decide_eq_false c86
        iterate 2 refine mj_T.pl rfl rfl rfl rfl ?_
        refine jT.iald oh15 rfl k1 rx13 ⟨by omega, by omega⟩ (fun z22 rz22 fz22 => ?_)
        refine jT.i2l rfl rz22 ?_
        have j23 : jR z22 := ⟨by omega, by omega⟩
        refine mj_T.pl rfl rfl rfl rfl ?_
        refine jT.getL 12 oh15 rfl kp0 (by decide) rfl rfl (fun z24 jz24 => ?_)
        refine jT.lmul rfl (fun z25 jz25 _ => ?_)
        refine mj_T.pl rfl rfl rfl rfl ?_
        refine jT.ladd rfl (fun z26 jz26 _ => ?_)
        refine mj_T.pl (loc' := [some (.ref p0), some (.ref p1), some (.ref (R p1 0)), some (.long (jl y12)), none, some (.int (jn x13)), some (.long (jl z26)), none]) rfl rfl rfl rfl ?_
        refine mj_T.pl rfl rfl rfl rfl ?_
        refine jT.getR 12 101 1 ty oh15 rfl kp0 (by decide) rfl rfl rfl (fun k27 => ?_)
        iterate 2 refine mj_T.pl rfl rfl rfl rfl ?_
        refine jT.ldcL rfl ?_
        refine jT.lrem rfl ⟨by decide, by decide⟩ (by decide) (fun z28 jz28 => ?_)
        refine jT.l2i rfl (fun z29 rz29 _ => ?_)
        refine jT.iast oh15 rfl k27 rx13 ⟨by omega, by omega⟩ rz29 (fun h30 oh30 uh30 => ?_)
        refine mj_T.pl rfl rfl rfl rfl ?_
        refine jT.ldcL rfl ?_
        refine jT.ldiv rfl ⟨by decide, by decide⟩ (by decide) (fun z31 jz31 => ?_)
        refine mj_T.pl (loc' := [some (.ref p0), some (.ref p1), some (.ref (R p1 0)), some (.long (jl z31)), none, some (.int (jn x13)), some (.long (jl z26)), none]) rfl rfl rfl rfl ?_
        refine jT.iinc rfl rfl (fun z32 rz32 ez32 => ?_)
        replace ez32 := ez32 ⟨by omega, by omega⟩
        refine mj_T.eq (loc2 := [some (.ref p0), some (.ref p1), some (.ref (R p1 0)), some (.long (jl z31)), none, some (.int (jn z32)), some (.long (jl z26)), none]) ?_ rfl rfl rfl rfl
        refine mj_T.pl rfl rfl rfl rfl ?_
        exact ih20 ((2147483647 - z32 : Int).toNat) (by omega) z31 z32 (some (.long (jl z26))) h30 jz31 rz32 oh30 ((uh30 p0 1).trans f16) ((uh30 p0 2).trans f17) (by omega) rfl
    exact t80_18 _ ((0 : Nat) : Int) 0 none h11 ⟨by decide, by decide⟩ ⟨by decide, by decide⟩ oh11 ((uh11 p0 1 (Or.inr (by decide))).trans ((uh10 p0 1 (Or.inr (by decide))).trans wh8)) ((uh11 p0 2 (Or.inr (by decide))).trans wh10) (by omega) rfl
  · have c39 := of_decide_eq_false c39
    iterate 2 refine mj_T.pl rfl rfl rfl rfl ?_
    refine jT.getK 12 8 oh10 rfl kp0 (by decide) rfl rfl rfl ((uh10 p0 1 (Or.inr (by decide))).trans wh8) ?_
    refine mj_T.pl rfl rfl rfl rfl ?_
    refine jT.isub rfl (fun z33 rz33 ez33 => ?_)
    replace ez33 := ez33 ⟨by omega, by omega⟩
    refine jT.iald oh10 rfl k1 rz33 ⟨by omega, by omega⟩ (fun z34 rz34 fz34 => ?_)
    refine jT.if0 rfl rz34 (fun c50 => ?_) (fun c50 => ?_)
    · have c50 := of_decide_eq_true c50
      refine jT.lc 1 rfl rfl ?_
      refine jT.putL 12 ⟨by decide, by decide⟩ oh10 rfl kp0 (by decide) rfl rfl (fun h35 oh35 uh35 => ?_)
      refine jT.lc 0 rfl rfl ?_
      refine mj_T.pl (loc' := [some (.ref p0), some (.ref p1), some (.ref (R p1 0)), some (.long (jl ((0 : Nat) : Int))), none, none, none, none]) rfl rfl rfl rfl ?_
      refine mj_T.pl rfl rfl rfl rfl ?_
      refine mj_T.pl (loc' := [some (.ref p0), some (.ref p1), some (.ref (R p1 0)), some (.long (jl ((0 : Nat) : Int))), none, some (.int (jn 0)), none, none]) rfl rfl rfl rfl ?_
      have t80_42 : ∀ (k43 : Nat) (y36 : Int) (x37 : Int) (w38 : Option Value) (h39 : mj_H), (jR y36) → (-2147483648 ≤ x37 ∧ x37 ≤ 2147483647) → (jO K L R g n tm h39) → (jfI h39 p0 1 = z7) → (jfI h39 p0 2 = z9) → (0 ≤ x37) → (2147483647 - x37 : Int).toNat = k43 → mj_T (D + 0) mj_m30 80 [some (.ref p0), some (.ref p1), some (.ref (R p1 0)), some (.long (jl y36)), none, some (.int (jn x37)), w38, none] [] h39 (jQ K L R g n tm [] jV0) := by
        refine jInd (fun k43 ih44 => ?_)
        intro y36 x37 w38 h39 jy36 rx37 oh39 f40 f41 ix37 hm45
        refine mj_T.pl rfl rfl rfl rfl ?_
        refine mj_T.pl rfl rfl rfl rfl ?_
        refine jT.getK 12 8 oh39 rfl kp0 (by decide) rfl rfl rfl f40 ?_
        refine jT.icmp rfl rx37 rz7 (fun c86 => ?_) (fun c86 => ?_)
        · have c86 := of_decide_eq_true c86
          exact jT.ret oh39 rfl rfl rfl rfl
        · have c86 := of_decide_eq_false c86
          iterate 2 refine mj_T.pl rfl rfl rfl rfl ?_
          refine jT.iald oh39 rfl k1 rx37 ⟨by omega, by omega⟩ (fun z46 rz46 fz46 => ?_)
          refine jT.i2l rfl rz46 ?_
          have j47 : jR z46 := ⟨by omega, by omega⟩
          refine mj_T.pl rfl rfl rfl rfl ?_
          refine jT.getL 12 oh39 rfl kp0 (by decide) rfl rfl (fun z48 jz48 => ?_)
          refine jT.lmul rfl (fun z49 jz49 _ => ?_)
          refine mj_T.pl rfl rfl rfl rfl ?_
          refine jT.ladd rfl (fun z50 jz50 _ => ?_)
          refine mj_T.pl (loc' := [some (.ref p0), some (.ref p1), some (.ref (R p1 0)), some (.long (jl y36)), none, some (.int (jn x37)), some (.long (jl z50)), none]) rfl rfl rfl rfl ?_
          refine mj_T.pl rfl rfl rfl rfl ?_
          refine jT.getR 12 101 1 ty oh39 rfl kp0 (by decide) rfl rfl rfl (fun k51 => ?_)
          iterate 2 refine mj_T.pl rfl rfl rfl rfl ?_
          refine jT.ldcL rfl ?_
          refine jT.lrem rfl ⟨by decide, by decide⟩ (by decide) (fun z52 jz52 => ?_)
          refine jT.l2i rfl (fun z53 rz53 _ => ?_)
          refine jT.iast oh39 rfl k51 rx37 ⟨by omega, by omega⟩ rz53 (fun h54 oh54 uh54 => ?_)
          refine mj_T.pl rfl rfl rfl rfl ?_
          refine jT.ldcL rfl ?_
          refine jT.ldiv rfl ⟨by decide, by decide⟩ (by decide) (fun z55 jz55 => ?_)
          refine mj_T.pl (loc' := [some (.ref p0), some (.ref p1), some (.ref (R p1 0)), some (.long (jl z55)), none, some (.int (jn x37)), some (.long (jl z50)), none]) rfl rfl rfl rfl ?_
          refine jT.iinc rfl rfl (fun z56 rz56 ez56 => ?_)
          replace ez56 := ez56 ⟨by omega, by omega⟩
          refine mj_T.eq (loc2 := [some (.ref p0), some (.ref p1), some (.ref (R p1 0)), some (.long (jl z55)), none, some (.int (jn z56)), some (.long (jl z50)), none]) ?_ rfl rfl rfl rfl
          refine mj_T.pl rfl rfl rfl rfl ?_
          exact ih44 ((2147483647 - z56 : Int).toNat) (by omega) z55 z56 (some (.long (jl z50))) h54 jz55 rz56 oh54 ((uh54 p0 1).trans f40) ((uh54 p0 2).trans f41) (by omega) rfl
      exact t80_42 _ ((0 : Nat) : Int) 0 none h35 ⟨by decide, by decide⟩ ⟨by decide, by decide⟩ oh35 ((uh35 p0 1 (Or.inr (by decide))).trans ((uh10 p0 1 (Or.inr (by decide))).trans wh8)) ((uh35 p0 2 (Or.inr (by decide))).trans wh10) (by omega) rfl
    · have c50 := of_decide_eq_false c50
      refine jT.ldcL rfl ?_
      iterate 2 refine mj_T.pl rfl rfl rfl rfl ?_
      refine jT.getK 12 8 oh10 rfl kp0 (by decide) rfl rfl rfl ((uh10 p0 1 (Or.inr (by decide))).trans wh8) ?_
      refine mj_T.pl rfl rfl rfl rfl ?_
      refine jT.isub rfl (fun z57 rz57 ez57 => ?_)
      replace ez57 := ez57 ⟨by omega, by omega⟩
      refine jT.iald oh10 rfl k1 rz57 ⟨by omega, by omega⟩ (fun z58 rz58 fz58 => ?_)
      have gz58 : z58 = z34 := fz58.trans ((congrArg (fun t : Int => jaI h10 (R p1 0) t.toNat) (show z57 = z33 by omega)).trans fz34.symm)
      refine jT.i2l rfl rz58 ?_
      have j59 : jR z58 := ⟨by omega, by omega⟩
      refine jT.lc 1 rfl rfl ?_
      refine jT.ladd rfl (fun z60 jz60 ez60 => ?_)
      replace ez60 := ez60 ⟨by omega, by omega⟩
      refine jT.ldiv rfl jz60 (by omega) (fun z61 jz61 => ?_)
      refine mj_T.pl rfl rfl rfl rfl ?_
      refine jT.putL 12 jz61 oh10 rfl kp0 (by decide) rfl rfl (fun h62 oh62 uh62 => ?_)
      refine jT.lc 0 rfl rfl ?_
      refine mj_T.pl (loc' := [some (.ref p0), some (.ref p1), some (.ref (R p1 0)), some (.long (jl ((0 : Nat) : Int))), none, none, none, none]) rfl rfl rfl rfl ?_
      refine mj_T.pl rfl rfl rfl rfl ?_
      refine mj_T.pl (loc' := [some (.ref p0), some (.ref p1), some (.ref (R p1 0)), some (.long (jl ((0 : Nat) : Int))), none, some (.int (jn 0)), none, none]) rfl rfl rfl rfl ?_
      have t80_69 : ∀ (k70 : Nat) (y63 : Int) (x64 : Int) (w65 : Option Value) (h66 : mj_H), (jR y63) → (-2147483648 ≤ x64 ∧ x64 ≤ 2147483647) → (jO K L R g n tm h66) → (jfI h66 p0 1 = z7) → (jfI h66 p0 2 = z9) → (0 ≤ x64) → (2147483647 - x64 : Int).toNat = k70 → mj_T (D + 0) mj_m30 80 [some (.ref p0), some (.ref p1), some (.ref (R p1 0)), some (.long (jl y63)), none, some (.int (jn x64)), w65, none] [] h66 (jQ K L R g n tm [] jV0) := by
        refine jInd (fun k70 ih71 => ?_)
        intro y63 x64 w65 h66 jy63 rx64 oh66 f67 f68 ix64 hm72
        refine mj_T.pl rfl rfl rfl rfl ?_
        refine mj_T.pl rfl rfl rfl rfl ?_
        refine jT.getK 12 8 oh66 rfl kp0 (by decide) rfl rfl rfl f67 ?_
        refine jT.icmp rfl rx64 rz7 (fun c86 => ?_) (fun c86 => ?_)
        · have c86 := of_decide_eq_true c86
          exact jT.ret oh66 rfl rfl rfl rfl
        · have c86 := of_decide_eq_false c86
          iterate 2 refine mj_T.pl rfl rfl rfl rfl ?_
          refine jT.iald oh66 rfl k1 rx64 ⟨by omega, by omega⟩ (fun z73 rz73 fz73 => ?_)
          refine jT.i2l rfl rz73 ?_
          have j74 : jR z73 := ⟨by omega, by omega⟩
          refine mj_T.pl rfl rfl rfl rfl ?_
          refine jT.getL 12 oh66 rfl kp0 (by decide) rfl rfl (fun z75 jz75 => ?_)
          refine jT.lmul rfl (fun z76 jz76 _ => ?_)
          refine mj_T.pl rfl rfl rfl rfl ?_
          refine jT.ladd rfl (fun z77 jz77 _ => ?_)
          refine mj_T.pl (loc' := [some (.ref p0), some (.ref p1), some (.ref (R p1 0)), some (.long (jl y63)), none, some (.int (jn x64)), some (.long (jl z77)), none]) rfl rfl rfl rfl ?_
          refine mj_T.pl rfl rfl rfl rfl ?_
          refine jT.getR 12 101 1 ty oh66 rfl kp0 (by decide) rfl rfl rfl (fun k78 => ?_)
          iterate 2 refine mj_T.pl rfl rfl rfl rfl ?_
          refine jT.ldcL rfl ?_
          refine jT.lrem rfl ⟨by decide, by decide⟩ (by decide) (fun z79 jz79 => ?_)
          refine jT.l2i rfl (fun z80 rz80 _ => ?_)
          refine jT.iast oh66 rfl k78 rx64 ⟨by omega, by omega⟩ rz80 (fun h81 oh81 uh81 => ?_)
          refine mj_T.pl rfl rfl rfl rfl ?_
          refine jT.ldcL rfl ?_
          refine jT.ldiv rfl ⟨by decide, by decide⟩ (by decide) (fun z82 jz82 => ?_)
          refine mj_T.pl (loc' := [some (.ref p0), some (.ref p1), some (.ref (R p1 0)), some (.long (jl z82)), none, some (.int (jn x64)), some (.long (jl z77)), none]) rfl rfl rfl rfl ?_
          refine jT.iinc rfl rfl (fun z83 rz83 ez83 => ?_)
          replace ez83 := ez83 ⟨by omega, by omega⟩
          refine mj_T.eq (loc2 := [some (.ref p0), some (.ref p1), some (.ref (R p1 0)), some (.long (jl z82)), none, some (.int (jn z83)), some (.long (jl z77)), none]) ?_ rfl rfl rfl rfl
          refine mj_T.pl rfl rfl rfl rfl ?_
          exact ih71 ((2147483647 - z83 : Int).toNat) (by omega) z82 z83 (some (.long (jl z77))) h81 jz82 rz83 oh81 ((uh81 p0 1).trans f67) ((uh81 p0 2).trans f68) (by omega) rfl
      exact t80_69 _ ((0 : Nat) : Int) 0 none h62 ⟨by decide, by decide⟩ ⟨by decide, by decide⟩ oh62 ((uh62 p0 1 (Or.inr (by decide))).trans ((uh10 p0 1 (Or.inr (by decide))).trans wh8)) ((uh62 p0 2 (Or.inr (by decide))).trans wh10) (by omega) rfl
-- PolyRegisters$Divisor.guess(LPolyRegisters$Wide;I)J
theorem jc_32 {D n : Nat} {tm : Int} {h g : mj_H} {K L : Nat → Nat} {R : Nat → Nat → Nat} {p0 : Nat} {p1 : Nat} {p2 : Int} (ty : jTY K L R) (hg : g.length ≤ n) (o : jO K L R g n tm h) (kp0 : K p0 = 12) (kp1 : K p1 = 18) (rp2 : -2147483648 ≤ p2 ∧ p2 ≤ 2147483647) : mj_Ok (D + 1) 32 [.ref p0, .ref p1, .int (jn p2)] h (jQp K L R g n tm h [] jVl) := by
  refine mj_Ok.of (M := mj_m32) (loc := [some (.ref p0), some (.ref p1), some (.int (jn p2)), none, none, none, none, none, none, none, none, none, none, none, none, none, none, none, none]) rfl rfl rfl ?_
  refine mj_T.pl rfl rfl rfl rfl ?_
  refine jT.getR 18 101 1 ty o rfl kp1 (by decide) rfl rfl rfl (fun k1 => ?_)
  refine mj_T.pl (loc' := [some (.ref p0), some (.ref p1), some (.int (jn p2)), some (.ref (R p1 0)), none, none, none, none, none, none, none, none, none, none, none, none, none, none, none]) rfl rfl rfl rfl ?_
  iterate 2 refine mj_T.pl rfl rfl rfl rfl ?_
  refine jT.icmp rfl rp2 ⟨by decide, by decide⟩ (fun c7 => ?_) (fun c7 => ?_)
  · have c7 := of_decide_eq_true c7
    refine jT.lc 0 rfl rfl ?_
    exact jT.retp rfl rfl rfl ⟨((0 : Nat) : Int), ⟨by decide, by decide⟩, rfl⟩
  · have c7 := of_decide_eq_false c7
    iterate 2 refine mj_T.pl rfl rfl rfl rfl ?_
    refine jT.alen 1 ty o rfl k1 (by decide) (by decide) (fun z2 ez2 (az2 : 0 ≤ z2) (bz2 : z2 ≤ 1000) => ?_)
    have rz2 : -2147483648 ≤ z2 ∧ z2 ≤ 2147483647 := ⟨by omega, by omega⟩
    refine jT.icmp rfl rp2 rz2 (fun c13 => ?_) (fun c13 => ?_)
    · have c13 := of_decide_eq_true c13
      refine jT.lc 0 rfl rfl ?_
      exact jT.retp rfl rfl rfl ⟨((0 : Nat) : Int), ⟨by decide, by decide⟩, rfl⟩
    · have c13 := of_decide_eq_false c13
      refine mj_T.pl rfl rfl rfl rfl ?_
      refine jT.getI 12 8 o rfl kp0 (by decide) rfl rfl rfl (fun z3 (az3 : 0 ≤ z3) (bz3 : z3 ≤ 60) fz3 => ?_)
      have rz3 : -2147483648 ≤ z3 ∧ z3 ≤ 2147483647 := ⟨by omega, by omega⟩
      refine mj_T.pl rfl rfl rfl rfl ?_
      refine jT.icmp rfl rz3 ⟨by decide, by decide⟩ (fun c21 => ?_) (fun c21 => ?_)
      · have c21 := of_decide_eq_true c21
        refine jT.lc 0 rfl rfl ?_
        exact jT.retp rfl rfl rfl ⟨((0 : Nat) : Int), ⟨by decide, by decide⟩, rfl⟩
      · have c21 := of_decide_eq_false c21
        refine mj_T.pl rfl rfl rfl rfl ?_
        refine jT.getK 12 8 o rfl kp0 (by decide) rfl rfl rfl fz3.symm ?_
        refine mj_T.pl rfl rfl rfl rfl ?_
        refine jT.getR 12 101 1 ty o rfl kp0 (by decide) rfl rfl rfl (fun k4 => ?_)
        have lk4 : L (R p0 0) = 60 := ty.2.2.2.1 p0 kp0
        refine jT.alen 1 ty o rfl k4 (by decide) (by decide) (fun z5 ez5 (az5 : 0 ≤ z5) (bz5 : z5 ≤ 1000) => ?_)
        have rz5 : -2147483648 ≤ z5 ∧ z5 ≤ 2147483647 := ⟨by omega, by omega⟩
        refine jT.icmp rfl rz3 rz5 (fun c33 => ?_) (fun c33 => ?_)
        · have c33 := of_decide_eq_true c33
          refine jT.lc 0 rfl rfl ?_
          exact jT.retp rfl rfl rfl ⟨((0 : Nat) : Int), ⟨by decide, by decide⟩, rfl⟩
        · have c33 := of_decide_eq_false c33
          refine mj_T.pl rfl rfl rfl rfl ?_
          refine jT.getR 12 101 1 ty o rfl kp0 (by decide) rfl rfl rfl (fun k6 => ?_)
          refine mj_T.pl rfl rfl rfl rfl ?_
          refine jT.getK 12 8 o rfl kp0 (by decide) rfl rfl rfl fz3.symm ?_
          refine mj_T.pl rfl rfl rfl rfl ?_
          refine jT.isub rfl (fun z7 rz7 ez7 => ?_)
          replace ez7 := ez7 ⟨by omega, by omega⟩
          refine jT.iald o rfl k6 rz7 ⟨by omega, by omega⟩ (fun z8 rz8 fz8 => ?_)
          refine mj_T.pl rfl rfl rfl rfl ?_
          refine jT.icmp rfl rz8 ⟨by decide, by decide⟩ (fun c48 => ?_) (fun c48 => ?_)
          · have c48 := of_decide_eq_true c48
            refine mj_T.pl rfl rfl rfl rfl ?_
            refine jT.getR 12 101 1 ty o rfl kp0 (by decide) rfl rfl rfl (fun k9 => ?_)
            refine mj_T.pl rfl rfl rfl rfl ?_
            refine jT.getK 12 8 o rfl kp0 (by decide) rfl rfl rfl fz3.symm ?_
            refine mj_T.pl rfl rfl rfl rfl ?_
            refine jT.isub rfl (fun z10 rz10 ez10 => ?_)
            replace ez10 := ez10 ⟨by omega, by omega⟩
            refine jT.iald o rfl k9 rz10 ⟨by omega, by omega⟩ (fun z11 rz11 fz11 => ?_)
            have gz11 : z11 = z8 := fz11.trans ((congrArg (fun t : Int => jaI h (R p0 0) t.toNat) (show z10 = z7 by omega)).trans fz8.symm)
            refine jT.i2l rfl rz11 ?_
            have j12 : jR z11 := ⟨by omega, by omega⟩
            refine mj_T.pl (loc' := [some (.ref p0), some (.ref p1), some (.int (jn p2)), some (.ref (R p1 0)), some (.long (jl z11)), none, none, none, none, none, none, none, none, none, none, none, none, none, none]) rfl rfl rfl rfl ?_
            refine mj_T.pl rfl rfl rfl rfl ?_
            refine jT.getK 12 8 o rfl kp0 (by decide) rfl rfl rfl fz3.symm ?_
            refine mj_T.pl rfl rfl rfl rfl ?_
            have t91_14 : ∀ (y13 : Int), (jR y13) → mj_T (D + 0) mj_m32 91 [some (.ref p0), some (.ref p1), some (.int (jn p2)), some (.ref (R p1 0)), some (.long (jl z11)), none, none, none, none, none, none, none, none, none, none, none, none, none, none] [.long (jl y13)] h (jQp K L R g n tm h [] jVl) := by
              intro y13 jy13
              refine mj_T.pl (loc' := [some (.ref p0), some (.ref p1), some (.int (jn p2)), some (.ref (R p1 0)), some (.long (jl z11)), none, some (.long (jl y13)), none, none, none, none, none, none, none, none, none, none, none, none]) rfl rfl rfl rfl ?_
              iterate 2 refine mj_T.pl rfl rfl rfl rfl ?_
              refine jT.getI 18 10 o rfl kp1 (by decide) rfl rfl rfl (fun z15 (az15 : 0 ≤ z15) (bz15 : z15 ≤ 1000) fz15 => ?_)
              have rz15 : -2147483648 ≤ z15 ∧ z15 ≤ 2147483647 := ⟨by omega, by omega⟩
              have t115_17 : ∀ (y16 : Int), (jR y16) → mj_T (D + 0) mj_m32 115 [some (.ref p0), some (.ref p1), some (.int (jn p2)), some (.ref (R p1 0)), some (.long (jl z11)), none, some (.long (jl y13)), none, none, none, none, none, none, none, none, none, none, none, none] [.long (jl y16)] h (jQp K L R g n tm h [] jVl) := by
                intro y16 jy16
                refine mj_T.pl (loc' := [some (.ref p0), some (.ref p1), some (.int (jn p2)), some (.ref (R p1 0)), some (.long (jl z11)), none, some (.long (jl y13)), none, some (.long (jl y16)), none, none, none, none, none, none, none, none, none, none]) rfl rfl rfl rfl ?_
                refine mj_T.pl rfl rfl rfl rfl ?_
                refine jT.ldcL rfl ?_
                refine jT.lmul rfl (fun z18 jz18 _ => ?_)
                iterate 3 refine mj_T.pl rfl rfl rfl rfl ?_
                refine jT.isub rfl (fun z19 rz19 ez19 => ?_)
                replace ez19 := ez19 ⟨by omega, by omega⟩
                refine jT.iald o rfl k1 rz19 ⟨by omega, by omega⟩ (fun z20 rz20 fz20 => ?_)
                refine jT.i2l rfl rz20 ?_
                have j21 : jR z20 := ⟨by omega, by omega⟩
                refine jT.ladd rfl (fun z22 jz22 _ => ?_)
                refine mj_T.pl (loc' := [some (.ref p0), some (.ref p1), some (.int (jn p2)), some (.ref (R p1 0)), some (.long (jl z11)), none, some (.long (jl y13)), none, some (.long (jl y16)), none, some (.long (jl z22)), none, none, none, none, none, none, none, none]) rfl rfl rfl rfl ?_
                refine mj_T.pl rfl rfl rfl rfl ?_
                refine jT.getK 12 8 o rfl kp0 (by decide) rfl rfl rfl fz3.symm ?_
                refine mj_T.pl rfl rfl rfl rfl ?_
                have t155_24 : ∀ (y23 : Int), (jR y23) → mj_T (D + 0) mj_m32 155 [some (.ref p0), some (.ref p1), some (.int (jn p2)), some (.ref (R p1 0)), some (.long (jl z11)), none, some (.long (jl y13)), none, some (.long (jl y16)), none, some (.long (jl z22)), none, none, none, none, none, none, none, none] [.long (jl y23)] h (jQp K L R g n tm h [] jVl) := by
                  intro y23 jy23
                  refine mj_T.pl (loc' := [some (.ref p0), some (.ref p1), some (.int (jn p2)), some (.ref (R p1 0)), some (.long (jl z11)), none, some (.long (jl y13)), none, some (.long (jl y16)), none, some (.long (jl z22)), none, some (.long (jl y23)), none, none, none, none, none, none]) rfl rfl rfl rfl ?_
                  iterate 2 refine mj_T.pl rfl rfl rfl rfl ?_
                  refine jT.ldiv rfl j12 (by omega) (fun z25 jz25 => ?_)
                  refine mj_T.pl (loc' := [some (.ref p0), some (.ref p1), some (.int (jn p2)), some (.ref (R p1 0)), some (.long (jl z11)), none, some (.long (jl y13)), none, some (.long (jl y16)), none, some (.long (jl z22)), none, some (.long (jl y23)), none, some (.long (jl z25)), none, none, none, none]) rfl rfl rfl rfl ?_
                  iterate 2 refine mj_T.pl rfl rfl rfl rfl ?_
                  refine jT.lrem rfl j12 (by omega) (fun z26 jz26 => ?_)
                  refine mj_T.pl (loc' := [some (.ref p0), some (.ref p1), some (.int (jn p2)), some (.ref (R p1 0)), some (.long (jl z11)), none, some (.long (jl y13)), none, some (.long (jl y16)), none, some (.long (jl z22)), none, some (.long (jl y23)), none, some (.long (jl z25)), none, some (.long (jl z26)), none, none]) rfl rfl rfl rfl ?_
                  refine mj_T.pl rfl rfl rfl rfl ?_
                  refine mj_T.pl (loc' := [some (.ref p0), some (.ref p1), some (.int (jn p2)), some (.ref (R p1 0)), some (.long (jl z11)), none, some (.long (jl y13)), none, some (.long (jl y16)), none, some (.long (jl z22)), none, some (.long (jl y23)), none, some (.long (jl z25)), none, some (.long (jl z26)), none, some (.int (jn 0))]) rfl rfl rfl rfl ?_
                  have t174_30 : ∀ (k31 : Nat) (y27 : Int) (y28 : Int) (x29 : Int), (jR y27) → (jR y28) → (-2147483648 ≤ x29 ∧ x29 ≤ 2147483647) → (0 ≤ x29) → (2147483647 - x29 : Int).toNat = k31 → mj_T (D + 0) mj_m32 174 [some (.ref p0), some (.ref p1), some (.int (jn p2)), some (.ref (R p1 0)), some (.long (jl z11)), none, some (.long (jl y13)), none, some (.long (jl y16)), none, some (.long (jl z22)), none, some (.long (jl y23)), none, some (.long (jl y27)), none, some (.long (jl y28)), none, some (.int (jn x29))] [] h (jQp K L R g n tm h [] jVl) := by
                    refine jInd (fun k31 ih32 => ?_)
                    intro y27 y28 x29 jy27 jy28 rx29 ix29 hm33
                    refine mj_T.pl rfl rfl rfl rfl ?_
                    refine mj_T.pl rfl rfl rfl rfl ?_
                    refine jT.icmp rfl rx29 ⟨by decide, by decide⟩ (fun c177 => ?_) (fun c177 => ?_)
                    · have c177 := of_decide_eq_true c177
                      refine mj_T.pl rfl rfl rfl rfl ?_
                      exact jT.retp rfl rfl rfl ⟨y27, jy27, rfl⟩
                    · have c177 := of_decide_eq_false c177
                      refine mj_T.pl rfl rfl rfl rfl ?_
                      refine jT.ldcL rfl ?_
                      refine mj_T.lif rfl rfl jy28 ⟨by decide, by decide⟩ (fun c185 => ?_) (fun c185 => ?_)
                      · have c185 := of_decide_eq_true c185
                        refine mj_T.pl rfl rfl rfl rfl ?_
                        exact jT.retp rfl rfl rfl ⟨y27, jy27, rfl⟩
                      · have c185 := of_decide_eq_false c185
                        refine mj_T.pl rfl rfl rfl rfl ?_
                        refine jT.ldcL rfl ?_
                        refine mj_T.lif rfl rfl jy27 ⟨by decide, by decide⟩ (fun c194 => ?_) (fun c194 => ?_)
                        · have c194 := of_decide_eq_true c194
                          refine mj_T.pl rfl rfl rfl rfl ?_
                          refine jT.lc 1 rfl rfl ?_
                          refine jT.lsub rfl (fun z34 jz34 _ => ?_)
                          refine mj_T.pl (loc' := [some (.ref p0), some (.ref p1), some (.int (jn p2)), some (.ref (R p1 0)), some (.long (jl z11)), none, some (.long (jl y13)), none, some (.long (jl y16)), none, some (.long (jl z22)), none, some (.long (jl y23)), none, some (.long (jl z34)), none, some (.long (jl y28)), none, some (.int (jn x29))]) rfl rfl rfl rfl ?_
                          iterate 2 refine mj_T.pl rfl rfl rfl rfl ?_
                          refine jT.ladd rfl (fun z35 jz35 _ => ?_)
                          refine mj_T.pl (loc' := [some (.ref p0), some (.ref p1), some (.int (jn p2)), some (.ref (R p1 0)), some (.long (jl z11)), none, some (.long (jl y13)), none, some (.long (jl y16)), none, some (.long (jl z22)), none, some (.long (jl y23)), none, some (.long (jl z34)), none, some (.long (jl z35)), none, some (.int (jn x29))]) rfl rfl rfl rfl ?_
                          refine jT.iinc rfl rfl (fun z36 rz36 ez36 => ?_)
                          replace ez36 := ez36 ⟨by omega, by omega⟩
                          refine mj_T.eq (loc2 := [some (.ref p0), some (.ref p1), some (.int (jn p2)), some (.ref (R p1 0)), some (.long (jl z11)), none, some (.long (jl y13)), none, some (.long (jl y16)), none, some (.long (jl z22)), none, some (.long (jl y23)), none, some (.long (jl z34)), none, some (.long (jl z35)), none, some (.int (jn z36))]) ?_ rfl rfl rfl rfl
                          refine mj_T.pl rfl rfl rfl rfl ?_
                          exact ih32 ((2147483647 - z36 : Int).toNat) (by omega) z34 z35 z36 jz34 jz35 rz36 (by omega) rfl
                        · have c194 := of_decide_eq_false c194
                          iterate 2 refine mj_T.pl rfl rfl rfl rfl ?_
                          refine jT.lmul rfl (fun z37 jz37 _ => ?_)
                          refine mj_T.pl rfl rfl rfl rfl ?_
                          refine jT.ldcL rfl ?_
                          refine jT.lmul rfl (fun z38 jz38 _ => ?_)
                          refine mj_T.pl rfl rfl rfl rfl ?_
                          refine jT.ladd rfl (fun z39 jz39 _ => ?_)
                          refine mj_T.lif rfl rfl jz37 jz39 (fun c212 => ?_) (fun c212 => ?_)
                          · have c212 := of_decide_eq_true c212
                            refine jT.iinc rfl rfl (fun z40 rz40 ez40 => ?_)
                            replace ez40 := ez40 ⟨by omega, by omega⟩
                            refine mj_T.eq (loc2 := [some (.ref p0), some (.ref p1), some (.int (jn p2)), some (.ref (R p1 0)), some (.long (jl z11)), none, some (.long (jl y13)), none, some (.long (jl y16)), none, some (.long (jl z22)), none, some (.long (jl y23)), none, some (.long (jl y27)), none, some (.long (jl y28)), none, some (.int (jn z40))]) ?_ rfl rfl rfl rfl
                            refine mj_T.pl rfl rfl rfl rfl ?_
                            exact ih32 ((2147483647 - z40 : Int).toNat) (by omega) y27 y28 z40 jy27 jy28 rz40 (by omega) rfl
                          · have c212 := of_decide_eq_false c212
                            refine mj_T.pl rfl rfl rfl rfl ?_
                            refine jT.lc 1 rfl rfl ?_
                            refine jT.lsub rfl (fun z41 jz41 _ => ?_)
                            refine mj_T.pl (loc' := [some (.ref p0), some (.ref p1), some (.int (jn p2)), some (.ref (R p1 0)), some (.long (jl z11)), none, some (.long (jl y13)), none, some (.long (jl y16)), none, some (.long (jl z22)), none, some (.long (jl y23)), none, some (.long (jl z41)), none, some (.long (jl y28)), none, some (.int (jn x29))]) rfl rfl rfl rfl ?_
                            iterate 2 refine mj_T.pl rfl rfl rfl rfl ?_
                            refine jT.ladd rfl (fun z42 jz42 _ => ?_)
                            refine mj_T.pl (loc' := [some (.ref p0), some (.ref p1), some (.int (jn p2)), some (.ref (R p1 0)), some (.long (jl z11)), none, some (.long (jl y13)), none, some (.long (jl y16)), none, some (.long (jl z22)), none, some (.long (jl y23)), none, some (.long (jl z41)), none, some (.long (jl z42)), none, some (.int (jn x29))]) rfl rfl rfl rfl ?_
                            refine jT.iinc rfl rfl (fun z43 rz43 ez43 => ?_)
                            replace ez43 := ez43 ⟨by omega, by omega⟩
                            refine mj_T.eq (loc2 := [some (.ref p0), some (.ref p1), some (.int (jn p2)), some (.ref (R p1 0)), some (.long (jl z11)), none, some (.long (jl y13)), none, some (.long (jl y16)), none, some (.long (jl z22)), none, some (.long (jl y23)), none, some (.long (jl z41)), none, some (.long (jl z42)), none, some (.int (jn z43))]) ?_ rfl rfl rfl rfl
                            refine mj_T.pl rfl rfl rfl rfl ?_
                            exact ih32 ((2147483647 - z43 : Int).toNat) (by omega) z41 z42 z43 jz41 jz42 rz43 (by omega) rfl
                  exact t174_30 _ z25 z26 0 jz25 jz26 ⟨by decide, by decide⟩ (by omega) rfl
                have t154_44 : mj_T (D + 0) mj_m32 154 [some (.ref p0), some (.ref p1), some (.int (jn p2)), some (.ref (R p1 0)), some (.long (jl z11)), none, some (.long (jl y13)), none, some (.long (jl y16)), none, some (.long (jl z22)), none, none, none, none, none, none, none, none] [] h (jQp K L R g n tm h [] jVl) := by
                  refine jT.lc 0 rfl rfl ?_
                  exact t155_24 ((0 : Nat) : Int) ⟨by decide, by decide⟩
                refine jT.icmp rfl rz3 ⟨by decide, by decide⟩ (fun c137 => ?_) (fun c137 => ?_)
                · have c137 := of_decide_eq_true c137
                  exact t154_44 
                · have c137 := of_decide_eq_false c137
                  iterate 2 refine mj_T.pl rfl rfl rfl rfl ?_
                  refine jT.icmp rfl rp2 ⟨by decide, by decide⟩ (fun c142 => ?_) (fun c142 => ?_)
                  · have c142 := of_decide_eq_true c142
                    exact t154_44 
                  · have c142 := of_decide_eq_false c142
                    iterate 3 refine mj_T.pl rfl rfl rfl rfl ?_
                    refine jT.isub rfl (fun z45 rz45 ez45 => ?_)
                    replace ez45 := ez45 ⟨by omega, by omega⟩
                    refine jT.iald o rfl k1 rz45 ⟨by omega, by omega⟩ (fun z46 rz46 fz46 => ?_)
                    refine jT.i2l rfl rz46 ?_
                    have j47 : jR z46 := ⟨by omega, by omega⟩
                    refine mj_T.pl rfl rfl rfl rfl ?_
                    exact t155_24 z46 j47
              have t114_48 : mj_T (D + 0) mj_m32 114 [some (.ref p0), some (.ref p1), some (.int (jn p2)), some (.ref (R p1 0)), some (.long (jl z11)), none, some (.long (jl y13)), none, none, none, none, none, none, none, none, none, none, none, none] [] h (jQp K L R g n tm h [] jVl) := by
                refine jT.lc 0 rfl rfl ?_
                exact t115_17 ((0 : Nat) : Int) ⟨by decide, by decide⟩
              refine jT.icmp rfl rp2 rz15 (fun c98 => ?_) (fun c98 => ?_)
              · have c98 := of_decide_eq_true c98
                exact t114_48 
              · have c98 := of_decide_eq_false c98
                iterate 2 refine mj_T.pl rfl rfl rfl rfl ?_
                refine jT.alen 1 ty o rfl k1 (by decide) (by decide) (fun z49 ez49 (az49 : 0 ≤ z49) (bz49 : z49 ≤ 1000) => ?_)
                have rz49 : -2147483648 ≤ z49 ∧ z49 ≤ 2147483647 := ⟨by omega, by omega⟩
                refine jT.icmp rfl rp2 rz49 (fun c104 => ?_) (fun c104 => ?_)
                · have c104 := of_decide_eq_true c104
                  exact t114_48 
                · have c104 := of_decide_eq_false c104
                  iterate 2 refine mj_T.pl rfl rfl rfl rfl ?_
                  refine jT.iald o rfl k1 rp2 ⟨by omega, by omega⟩ (fun z50 rz50 fz50 => ?_)
                  refine jT.i2l rfl rz50 ?_
                  have j51 : jR z50 := ⟨by omega, by omega⟩
                  refine mj_T.pl rfl rfl rfl rfl ?_
                  exact t115_17 z50 j51
            refine jT.icmp rfl rz3 ⟨by decide, by decide⟩ (fun c72 => ?_) (fun c72 => ?_)
            · have c72 := of_decide_eq_true c72
              refine jT.lc 0 rfl rfl ?_
              exact t91_14 ((0 : Nat) : Int) ⟨by decide, by decide⟩
            · have c72 := of_decide_eq_false c72
              refine mj_T.pl rfl rfl rfl rfl ?_
              refine jT.getR 12 101 1 ty o rfl kp0 (by decide) rfl rfl rfl (fun k52 => ?_)
              refine mj_T.pl rfl rfl rfl rfl ?_
              refine jT.getK 12 8 o rfl kp0 (by decide) rfl rfl rfl fz3.symm ?_
              refine mj_T.pl rfl rfl rfl rfl ?_
              refine jT.isub rfl (fun z53 rz53 ez53 => ?_)
              replace ez53 := ez53 ⟨by omega, by omega⟩
              refine jT.iald o rfl k52 rz53 ⟨by omega, by omega⟩ (fun z54 rz54 fz54 => ?_)
              refine jT.i2l rfl rz54 ?_
              have j55 : jR z54 := ⟨by omega, by omega⟩
              refine mj_T.pl rfl rfl rfl rfl ?_
              exact t91_14 z54 j55
          · have c48 := of_decide_eq_false c48
            refine jT.lc 0 rfl rfl ?_
            exact jT.retp rfl rfl rfl ⟨((0 : Nat) : Int), ⟨by decide, by decide⟩, rfl⟩
-- PolyRegisters$Divisor.takeAway(LPolyRegisters$Wide;IJ)Z
theorem jc_33 {D n : Nat} {tm : Int} {h g : mj_H} {K L : Nat → Nat} {R : Nat → Nat → Nat} {p0 : Nat} {p1 : Nat} {p2 : Int} {p3 : Int} (ty : jTY K L R) (hg : g.length ≤ n) (o : jO K L R g n tm h) (kp0 : K p0 = 12) (kp1 : K p1 = 18) (rp2 : -2147483648 ≤ p2 ∧ p2 ≤ 2147483647) (jp3 : jR p3) (pre0 : 0 ≤ p2 ∧ p2 ≤ 1000) : mj_Ok (D + 1) 33 [.ref p0, .ref p1, .int (jn p2), .long (jl p3)] h (jQ K L R g n tm [] (jVi 0 1)) := by
  refine mj_Ok.of (M := mj_m33) (loc := [some (.ref p0), some (.ref p1), some (.int (jn p2)), some (.long (jl p3)), none, none, none, none, none, none, none, none, none, none]) rfl rfl rfl ?_
  refine mj_T.pl rfl rfl rfl rfl ?_
  refine jT.getR 18 101 1 ty o rfl kp1 (by decide) rfl rfl rfl (fun k1 => ?_)
  refine mj_T.pl (loc' := [some (.ref p0), some (.ref p1), some (.int (jn p2)), some (.long (jl p3)), none, some (.ref (R p1 0)), none, none, none, none, none, none, none, none]) rfl rfl rfl rfl ?_
  iterate 2 refine mj_T.pl rfl rfl rfl rfl ?_
  refine jT.getI 12 8 o rfl kp0 (by decide) rfl rfl rfl (fun z2 (az2 : 0 ≤ z2) (bz2 : z2 ≤ 60) fz2 => ?_)
  have rz2 : -2147483648 ≤ z2 ∧ z2 ≤ 2147483647 := ⟨by omega, by omega⟩
  refine jT.iadd rfl (fun z3 rz3 ez3 => ?_)
  replace ez3 := ez3 ⟨by omega, by omega⟩
  refine mj_T.pl (loc' := [some (.ref p0), some (.ref p1), some (.int (jn p2)), some (.long (jl p3)), none, some (.ref (R p1 0)), some (.int (jn z3)), none, none, none, none, none, none, none]) rfl rfl rfl rfl ?_
  refine jT.lc 0 rfl rfl ?_
  refine mj_T.pl (loc' := [some (.ref p0), some (.ref p1), some (.int (jn p2)), some (.long (jl p3)), none, some (.ref (R p1 0)), some (.int (jn z3)), some (.long (jl ((0 : Nat) : Int))), none, none, none, none, none, none]) rfl rfl rfl rfl ?_
  iterate 2 refine mj_T.pl rfl rfl rfl rfl ?_
  refine jT.imax rfl rfl (Nat.le_of_ble_eq_true rfl) rp2 ⟨by decide, by decide⟩ (fun z4 ez4 => ?_)
  have rz4 : -2147483648 ≤ z4 ∧ z4 ≤ 2147483647 := ⟨by omega, by omega⟩
  refine mj_T.pl (loc' := [some (.ref p0), some (.ref p1), some (.int (jn p2)), some (.long (jl p3)), none, some (.ref (R p1 0)), some (.int (jn z3)), some (.long (jl ((0 : Nat) : Int))), none, some (.int (jn z4)), none, none, none, none]) rfl rfl rfl rfl ?_
  have t24_11 : ∀ (k12 : Nat) (y5 : Int) (x6 : Int) (w7 : Option Value) (w8 : Option Value) (h9 : mj_H), (jR y5) → (-2147483648 ≤ x6 ∧ x6 ≤ 2147483647) → (jO K L R g n tm h9) → (jfI h9 p0 1 = z2) → (z4 ≤ x6) → (2147483647 - x6 : Int).toNat = k12 → mj_T (D + 0) mj_m33 24 [some (.ref p0), some (.ref p1), some (.int (jn p2)), some (.long (jl p3)), none, some (.ref (R p1 0)), some (.int (jn z3)), some (.long (jl y5)), none, some (.int (jn x6)), w7, none, w8, none] [] h9 (jQ K L R g n tm [] (jVi 0 1)) := by
    refine jInd (fun k12 ih13 => ?_)
    intro y5 x6 w7 w8 h9 jy5 rx6 oh9 f10 ix6 hm14
    refine mj_T.pl rfl rfl rfl rfl ?_
    refine mj_T.pl rfl rfl rfl rfl ?_
    have t123_15 : mj_T (D + 0) mj_m33 123 [some (.ref p0), some (.ref p1), some (.int (jn p2)), some (.long (jl p3)), none, some (.ref (R p1 0)), some (.int (jn z3)), some (.long (jl y5)), none, some (.int (jn x6)), w7, none, w8, none] [] h9 (jQ K L R g n tm [] (jVi 0 1)) := by
      refine mj_T.pl rfl rfl rfl rfl ?_
      have t145_16 : mj_T (D + 0) mj_m33 145 [some (.ref p0), some (.ref p1), some (.int (jn p2)), some (.long (jl p3)), none, some (.ref (R p1 0)), some (.int (jn z3)), some (.long (jl y5)), none, some (.int (jn x6)), w7, none, w8, none] [] h9 (jQ K L R g n tm [] (jVi 0 1)) := by
        refine mj_T.pl rfl rfl rfl rfl ?_
        refine jT.lc 0 rfl rfl ?_
        refine mj_T.lif rfl rfl jy5 ⟨by decide, by decide⟩ (fun c148 => ?_) (fun c148 => ?_)
        · have c148 := jne1 c148
          refine mj_T.pl rfl rfl rfl rfl ?_
          exact jT.retb oh9 rfl rfl (by omega) (by omega)
        · have c148 := jne2 c148
          iterate 2 refine mj_T.pl rfl rfl rfl rfl ?_
          exact jT.retb oh9 rfl rfl (by omega) (by omega)
      refine jT.if0 rfl rz3 (fun c125 => ?_) (fun c125 => ?_)
      · have c125 := of_decide_eq_true c125
        exact t145_16 
      · have c125 := of_decide_eq_false c125
        iterate 2 refine mj_T.pl rfl rfl rfl rfl ?_
        refine jT.getI 18 10 oh9 rfl kp1 (by decide) rfl rfl rfl (fun z17 (az17 : 0 ≤ z17) (bz17 : z17 ≤ 1000) fz17 => ?_)
        have rz17 : -2147483648 ≤ z17 ∧ z17 ≤ 2147483647 := ⟨by omega, by omega⟩
        refine jT.icmp rfl rz3 rz17 (fun c134 => ?_) (fun c134 => ?_)
        · have c134 := of_decide_eq_true c134
          exact t145_16 
        · have c134 := of_decide_eq_false c134
          iterate 2 refine mj_T.pl rfl rfl rfl rfl ?_
          refine jT.alen 1 ty oh9 rfl k1 (by decide) (by decide) (fun z18 ez18 (az18 : 0 ≤ z18) (bz18 : z18 ≤ 1000) => ?_)
          have rz18 : -2147483648 ≤ z18 ∧ z18 ≤ 2147483647 := ⟨by omega, by omega⟩
          refine jT.icmp rfl rz3 rz18 (fun c142 => ?_) (fun c142 => ?_)
          · have c142 := of_decide_eq_true c142
            iterate 2 refine mj_T.pl rfl rfl rfl rfl ?_
            refine jT.iald oh9 rfl k1 rz3 ⟨by omega, by omega⟩ (fun z19 rz19 fz19 => ?_)
            refine jT.i2l rfl rz19 ?_
            have j20 : jR z19 := ⟨by omega, by omega⟩
            refine mj_T.pl rfl rfl rfl rfl ?_
            refine mj_T.lif rfl rfl j20 jy5 (fun c166 => ?_) (fun c166 => ?_)
            · have c166 := of_decide_eq_true c166
              refine mj_T.pl rfl rfl rfl rfl ?_
              refine mj_T.pl (loc' := [some (.ref p0), some (.ref p1), some (.int (jn p2)), some (.long (jl p3)), none, some (.ref (R p1 0)), some (.int (jn z3)), some (.long (jl y5)), none, some (.int (jn 0)), w7, none, w8, none]) rfl rfl rfl rfl ?_
              iterate 3 refine mj_T.pl rfl rfl rfl rfl ?_
              refine jT.iast oh9 rfl k1 rz3 ⟨by omega, by omega⟩ ⟨by decide, by decide⟩ (fun h21 oh21 uh21 => ?_)
              refine mj_T.pl rfl rfl rfl rfl ?_
              exact jT.retb oh21 rfl rfl (by omega) (by omega)
            · have c166 := of_decide_eq_false c166
              iterate 2 refine mj_T.pl rfl rfl rfl rfl ?_
              refine mj_T.pl (loc' := [some (.ref p0), some (.ref p1), some (.int (jn p2)), some (.long (jl p3)), none, some (.ref (R p1 0)), some (.int (jn z3)), some (.long (jl y5)), none, some (.int (jn 1)), w7, none, w8, none]) rfl rfl rfl rfl ?_
              iterate 3 refine mj_T.pl rfl rfl rfl rfl ?_
              refine jT.iast oh9 rfl k1 rz3 ⟨by omega, by omega⟩ ⟨by decide, by decide⟩ (fun h22 oh22 uh22 => ?_)
              refine mj_T.pl rfl rfl rfl rfl ?_
              exact jT.retb oh22 rfl rfl (by omega) (by omega)
          · have c142 := of_decide_eq_false c142
            exact t145_16 
    refine jT.icmp rfl rx6 rz3 (fun c28 => ?_) (fun c28 => ?_)
    · have c28 := of_decide_eq_true c28
      exact t123_15 
    · have c28 := of_decide_eq_false c28
      iterate 2 refine mj_T.pl rfl rfl rfl rfl ?_
      refine jT.alen 1 ty oh9 rfl k1 (by decide) (by decide) (fun z23 ez23 (az23 : 0 ≤ z23) (bz23 : z23 ≤ 1000) => ?_)
      have rz23 : -2147483648 ≤ z23 ∧ z23 ≤ 2147483647 := ⟨by omega, by omega⟩
      refine jT.icmp rfl rx6 rz23 (fun c36 => ?_) (fun c36 => ?_)
      · have c36 := of_decide_eq_true c36
        exact t123_15 
      · have c36 := of_decide_eq_false c36
        iterate 2 refine mj_T.pl rfl rfl rfl rfl ?_
        refine jT.getR 12 101 1 ty oh9 rfl kp0 (by decide) rfl rfl rfl (fun k24 => ?_)
        have lk24 : L (R p0 0) = 60 := ty.2.2.2.1 p0 kp0
        iterate 2 refine mj_T.pl rfl rfl rfl rfl ?_
        refine jT.isub rfl (fun z25 rz25 ez25 => ?_)
        replace ez25 := ez25 ⟨by omega, by omega⟩
        refine jT.iald oh9 rfl k24 rz25 ⟨by omega, by omega⟩ (fun z26 rz26 fz26 => ?_)
        refine jT.i2l rfl rz26 ?_
        have j27 : jR z26 := ⟨by omega, by omega⟩
        refine jT.lmul rfl (fun z28 jz28 _ => ?_)
        refine mj_T.pl rfl rfl rfl rfl ?_
        refine jT.ladd rfl (fun z29 jz29 _ => ?_)
        refine mj_T.pl (loc' := [some (.ref p0), some (.ref p1), some (.int (jn p2)), some (.long (jl p3)), none, some (.ref (R p1 0)), some (.int (jn z3)), some (.long (jl y5)), none, some (.int (jn x6)), some (.long (jl z29)), none, w8, none]) rfl rfl rfl rfl ?_
        iterate 2 refine mj_T.pl rfl rfl rfl rfl ?_
        refine jT.iald oh9 rfl k1 rx6 ⟨by omega, by omega⟩ (fun z30 rz30 fz30 => ?_)
        refine jT.i2l rfl rz30 ?_
        have j31 : jR z30 := ⟨by omega, by omega⟩
        refine mj_T.pl rfl rfl rfl rfl ?_
        refine jT.ldcL rfl ?_
        refine jT.lrem rfl ⟨by decide, by decide⟩ (by decide) (fun z32 jz32 => ?_)
        refine jT.lsub rfl (fun z33 jz33 _ => ?_)
        refine mj_T.pl (loc' := [some (.ref p0), some (.ref p1), some (.int (jn p2)), some (.long (jl p3)), none, some (.ref (R p1 0)), some (.int (jn z3)), some (.long (jl y5)), none, some (.int (jn x6)), some (.long (jl z29)), none, some (.long (jl z33)), none]) rfl rfl rfl rfl ?_
        refine mj_T.pl rfl rfl rfl rfl ?_
        refine jT.ldcL rfl ?_
        refine jT.ldiv rfl ⟨by decide, by decide⟩ (by decide) (fun z34 jz34 => ?_)
        refine mj_T.pl rfl rfl rfl rfl ?_
        refine jT.lc 0 rfl rfl ?_
        have t89_36 : ∀ (x35 : Int), (0 ≤ x35 ∧ x35 ≤ 1) → mj_T (D + 0) mj_m33 89 [some (.ref p0), some (.ref p1), some (.int (jn p2)), some (.long (jl p3)), none, some (.ref (R p1 0)), some (.int (jn z3)), some (.long (jl y5)), none, some (.int (jn x6)), some (.long (jl z29)), none, some (.long (jl z33)), none] [.int (jn x35), .long (jl z34)] h9 (jQ K L R g n tm [] (jVi 0 1)) := by
          intro x35 ax35
          have rx35 : -2147483648 ≤ x35 ∧ x35 ≤ 2147483647 := ⟨by omega, by omega⟩
          refine jT.i2l rfl rx35 ?_
          have j37 : jR x35 := ⟨by omega, by omega⟩
          refine jT.ladd rfl (fun z38 jz38 _ => ?_)
          refine mj_T.pl (loc' := [some (.ref p0), some (.ref p1), some (.int (jn p2)), some (.long (jl p3)), none, some (.ref (R p1 0)), some (.int (jn z3)), some (.long (jl z38)), none, some (.int (jn x6)), some (.long (jl z29)), none, some (.long (jl z33)), none]) rfl rfl rfl rfl ?_
          iterate 3 refine mj_T.pl rfl rfl rfl rfl ?_
          refine jT.lc 0 rfl rfl ?_
          refine mj_T.lif rfl rfl jz33 ⟨by decide, by decide⟩ (fun c100 => ?_) (fun c100 => ?_)
          · have c100 := of_decide_eq_true c100
            refine mj_T.pl rfl rfl rfl rfl ?_
            refine jT.l2i rfl (fun z39 rz39 _ => ?_)
            refine jT.iast oh9 rfl k1 rx6 ⟨by omega, by omega⟩ rz39 (fun h40 oh40 uh40 => ?_)
            refine jT.iinc rfl rfl (fun z41 rz41 ez41 => ?_)
            replace ez41 := ez41 ⟨by omega, by omega⟩
            refine mj_T.eq (loc2 := [some (.ref p0), some (.ref p1), some (.int (jn p2)), some (.long (jl p3)), none, some (.ref (R p1 0)), some (.int (jn z3)), some (.long (jl z38)), none, some (.int (jn z41)), some (.long (jl z29)), none, some (.long (jl z33)), none]) ?_ rfl rfl rfl rfl
            refine mj_T.pl rfl rfl rfl rfl ?_
            exact ih13 ((2147483647 - z41 : Int).toNat) (by omega) z38 z41 (some (.long (jl z29))) (some (.long (jl z33))) h40 jz38 rz41 oh40 ((uh40 p0 1).trans f10) (by omega) rfl
          · have c100 := of_decide_eq_false c100
            refine mj_T.pl rfl rfl rfl rfl ?_
            refine jT.ldcL rfl ?_
            refine jT.ladd rfl (fun z42 jz42 _ => ?_)
            refine mj_T.pl rfl rfl rfl rfl ?_
            refine jT.l2i rfl (fun z43 rz43 _ => ?_)
            refine jT.iast oh9 rfl k1 rx6 ⟨by omega, by omega⟩ rz43 (fun h44 oh44 uh44 => ?_)
            refine jT.iinc rfl rfl (fun z45 rz45 ez45 => ?_)
            replace ez45 := ez45 ⟨by omega, by omega⟩
            refine mj_T.eq (loc2 := [some (.ref p0), some (.ref p1), some (.int (jn p2)), some (.long (jl p3)), none, some (.ref (R p1 0)), some (.int (jn z3)), some (.long (jl z38)), none, some (.int (jn z45)), some (.long (jl z29)), none, some (.long (jl z33)), none]) ?_ rfl rfl rfl rfl
            refine mj_T.pl rfl rfl rfl rfl ?_
            exact ih13 ((2147483647 - z45 : Int).toNat) (by omega) z38 z45 (some (.long (jl z29))) (some (.long (jl z33))) h44 jz38 rz45 oh44 ((uh44 p0 1).trans f10) (by omega) rfl
        refine mj_T.lif rfl rfl jz33 ⟨by decide, by decide⟩ (fun c80 => ?_) (fun c80 => ?_)
        · have c80 := of_decide_eq_true c80
          refine mj_T.pl rfl rfl rfl rfl ?_
          exact t89_36 0 ⟨by omega, by omega⟩
        · have c80 := of_decide_eq_false c80
          iterate 2 refine mj_T.pl rfl rfl rfl rfl ?_
          exact t89_36 1 ⟨by omega, by omega⟩
  exact t24_11 _ ((0 : Nat) : Int) z4 none none h ⟨by decide, by decide⟩ rz4 o fz2.symm (by omega) rfl
-- PolyRegisters$Divisor.putBack(LPolyRegisters$Wide;I)V
theorem jc_34 {D n : Nat} {tm : Int} {h g : mj_H} {K L : Nat → Nat} {R : Nat → Nat → Nat} {p0 : Nat} {p1 : Nat} {p2 : Int} (ty : jTY K L R) (hg : g.length ≤ n) (o : jO K L R g n tm h) (kp0 : K p0 = 12) (kp1 : K p1 = 18) (rp2 : -2147483648 ≤ p2 ∧ p2 ≤ 2147483647) (pre0 : 0 ≤ p2 ∧ p2 ≤ 1000) : mj_Ok (D + 1) 34 [.ref p0, .ref p1, .int (jn p2)] h (jQ K L R g n tm [] jV0) := by
  refine mj_Ok.of (M := mj_m34) (loc := [some (.ref p0), some (.ref p1), some (.int (jn p2)), none, none, none, none]) rfl rfl rfl ?_
  refine mj_T.pl rfl rfl rfl rfl ?_
  refine jT.getR 18 101 1 ty o rfl kp1 (by decide) rfl rfl rfl (fun k1 => ?_)
  refine mj_T.pl (loc' := [some (.ref p0), some (.ref p1), some (.int (jn p2)), some (.ref (R p1 0)), none, none, none]) rfl rfl rfl rfl ?_
  refine mj_T.pl rfl rfl rfl rfl ?_
  refine mj_T.pl (loc' := [some (.ref p0), some (.ref p1), some (.int (jn p2)), some (.ref (R p1 0)), some (.int (jn 0)), none, none]) rfl rfl rfl rfl ?_
  iterate 2 refine mj_T.pl rfl rfl rfl rfl ?_
  refine jT.imax rfl rfl (Nat.le_of_ble_eq_true rfl) rp2 ⟨by decide, by decide⟩ (fun z2 ez2 => ?_)
  have rz2 : -2147483648 ≤ z2 ∧ z2 ≤ 2147483647 := ⟨by omega, by omega⟩
  refine mj_T.pl (loc' := [some (.ref p0), some (.ref p1), some (.int (jn p2)), some (.ref (R p1 0)), some (.int (jn 0)), some (.int (jn z2)), none]) rfl rfl rfl rfl ?_
  have t15_7 : ∀ (k8 : Nat) (x3 : Int) (x4 : Int) (w5 : Option Value) (h6 : mj_H), (0 ≤ x3 ∧ x3 ≤ 1) → (-2147483648 ≤ x4 ∧ x4 ≤ 2147483647) → (jO K L R g n tm h6) → (z2 ≤ x4) → (2147483647 - x4 : Int).toNat = k8 → mj_T (D + 0) mj_m34 15 [some (.ref p0), some (.ref p1), some (.int (jn p2)), some (.ref (R p1 0)), some (.int (jn x3)), some (.int (jn x4)), w5] [] h6 (jQ K L R g n tm [] jV0) := by
    refine jInd (fun k8 ih9 => ?_)
    intro x3 x4 w5 h6 ax3 rx4 oh6 ix4 hm10
    have rx3 : -2147483648 ≤ x3 ∧ x3 ≤ 2147483647 := ⟨by omega, by omega⟩
    refine mj_T.pl rfl rfl rfl rfl ?_
    iterate 2 refine mj_T.pl rfl rfl rfl rfl ?_
    refine jT.getI 12 8 oh6 rfl kp0 (by decide) rfl rfl rfl (fun z11 (az11 : 0 ≤ z11) (bz11 : z11 ≤ 60) fz11 => ?_)
    have rz11 : -2147483648 ≤ z11 ∧ z11 ≤ 2147483647 := ⟨by omega, by omega⟩
    refine jT.iadd rfl (fun z12 rz12 ez12 => ?_)
    replace ez12 := ez12 ⟨by omega, by omega⟩
    refine jT.icmp rfl rx4 rz12 (fun c23 => ?_) (fun c23 => ?_)
    · have c23 := of_decide_eq_true c23
      exact jT.ret oh6 rfl rfl rfl rfl
    · have c23 := of_decide_eq_false c23
      iterate 2 refine mj_T.pl rfl rfl rfl rfl ?_
      refine jT.alen 1 ty oh6 rfl k1 (by decide) (by decide) (fun z13 ez13 (az13 : 0 ≤ z13) (bz13 : z13 ≤ 1000) => ?_)
      have rz13 : -2147483648 ≤ z13 ∧ z13 ≤ 2147483647 := ⟨by omega, by omega⟩
      refine jT.icmp rfl rx4 rz13 (fun c30 => ?_) (fun c30 => ?_)
      · have c30 := of_decide_eq_true c30
        exact jT.ret oh6 rfl rfl rfl rfl
      · have c30 := of_decide_eq_false c30
        iterate 2 refine mj_T.pl rfl rfl rfl rfl ?_
        refine jT.iald oh6 rfl k1 rx4 ⟨by omega, by omega⟩ (fun z14 rz14 fz14 => ?_)
        refine mj_T.pl rfl rfl rfl rfl ?_
        refine jT.getR 12 101 1 ty oh6 rfl kp0 (by decide) rfl rfl rfl (fun k15 => ?_)
        have lk15 : L (R p0 0) = 60 := ty.2.2.2.1 p0 kp0
        iterate 2 refine mj_T.pl rfl rfl rfl rfl ?_
        refine jT.isub rfl (fun z16 rz16 ez16 => ?_)
        replace ez16 := ez16 ⟨by omega, by omega⟩
        refine jT.iald oh6 rfl k15 rz16 ⟨by omega, by omega⟩ (fun z17 rz17 fz17 => ?_)
        refine jT.iadd rfl (fun z18 rz18 ez18 => ?_)
        clear ez18
        refine mj_T.pl rfl rfl rfl rfl ?_
        refine jT.iadd rfl (fun z19 rz19 ez19 => ?_)
        clear ez19
        refine mj_T.pl (loc' := [some (.ref p0), some (.ref p1), some (.int (jn p2)), some (.ref (R p1 0)), some (.int (jn x3)), some (.int (jn x4)), some (.int (jn z19))]) rfl rfl rfl rfl ?_
        refine mj_T.pl rfl rfl rfl rfl ?_
        refine jT.ldcI rfl ?_
        have t64_21 : ∀ (x20 : Int), (0 ≤ x20 ∧ x20 ≤ 1) → mj_T (D + 0) mj_m34 64 [some (.ref p0), some (.ref p1), some (.int (jn p2)), some (.ref (R p1 0)), some (.int (jn x3)), some (.int (jn x4)), some (.int (jn z19))] [.int (jn x20)] h6 (jQ K L R g n tm [] jV0) := by
          intro x20 ax20
          have rx20 : -2147483648 ≤ x20 ∧ x20 ≤ 2147483647 := ⟨by omega, by omega⟩
          refine mj_T.pl (loc' := [some (.ref p0), some (.ref p1), some (.int (jn p2)), some (.ref (R p1 0)), some (.int (jn x20)), some (.int (jn x4)), some (.int (jn z19))]) rfl rfl rfl rfl ?_
          iterate 4 refine mj_T.pl rfl rfl rfl rfl ?_
          refine jT.ldcI rfl ?_
          refine jT.imul rfl (fun z22 rz22 ez22 => ?_)
          clear ez22
          refine jT.isub rfl (fun z23 rz23 ez23 => ?_)
          clear ez23
          refine jT.iast oh6 rfl k1 rx4 ⟨by omega, by omega⟩ rz23 (fun h24 oh24 uh24 => ?_)
          refine jT.iinc rfl rfl (fun z25 rz25 ez25 => ?_)
          replace ez25 := ez25 ⟨by omega, by omega⟩
          refine mj_T.eq (loc2 := [some (.ref p0), some (.ref p1), some (.int (jn p2)), some (.ref (R p1 0)), some (.int (jn x20)), some (.int (jn z25)), some (.int (jn z19))]) ?_ rfl rfl rfl rfl
          refine mj_T.pl rfl rfl rfl rfl ?_
          exact ih9 ((2147483647 - z25 : Int).toNat) (by omega) x20 z25 (some (.int (jn z19))) h24 ⟨by omega, by omega⟩ rz25 oh24 (by omega) rfl
        refine jT.icmp rfl rz19 ⟨by decide, by decide⟩ (fun c56 => ?_) (fun c56 => ?_)
        · have c56 := of_decide_eq_true c56
          refine mj_T.pl rfl rfl rfl rfl ?_
          exact t64_21 0 ⟨by omega, by omega⟩
        · have c56 := of_decide_eq_false c56
          iterate 2 refine mj_T.pl rfl rfl rfl rfl ?_
          exact t64_21 1 ⟨by omega, by omega⟩
  exact t15_7 _ 0 z2 none h ⟨by omega, by omega⟩ rz2 o (by omega) rfl
-- PolyRegisters$Divisor.split(LPolyRegisters$Wide;LPolyRegisters$Wide;)V
theorem jc_31 {D n : Nat} {tm : Int} {h g : mj_H} {K L : Nat → Nat} {R : Nat → Nat → Nat} {p0 : Nat} {p1 : Nat} {p2 : Nat} (ty : jTY K L R) (hg : g.length ≤ n) (o : jO K L R g n tm h) (kp0 : K p0 = 12) (kp1 : K p1 = 18) (kp2 : K p2 = 18) : mj_Ok (D + 2) 31 [.ref p0, .ref p1, .ref p2] h (jQ K L R g n tm [] jV0) := by
  refine mj_Ok.of (M := mj_m31) (loc := [some (.ref p0), some (.ref p1), some (.ref p2), none, none, none, none]) rfl rfl rfl ?_
  refine mj_T.pl rfl rfl rfl rfl ?_
  refine jT.getI 18 0 o rfl kp1 (by decide) rfl rfl rfl (fun z1 (az1 : (-2147483648) ≤ z1) (bz1 : z1 ≤ 2147483647) fz1 => ?_)
  have rz1 : -2147483648 ≤ z1 ∧ z1 ≤ 2147483647 := ⟨by omega, by omega⟩
  refine mj_T.pl rfl rfl rfl rfl ?_
  refine jT.getI 12 0 o rfl kp0 (by decide) rfl rfl rfl (fun z2 (az2 : (-2147483648) ≤ z2) (bz2 : z2 ≤ 2147483647) fz2 => ?_)
  have rz2 : -2147483648 ≤ z2 ∧ z2 ≤ 2147483647 := ⟨by omega, by omega⟩
  refine jT.imul rfl (fun z3 rz3 ez3 => ?_)
  clear ez3
  refine mj_T.pl (loc' := [some (.ref p0), some (.ref p1), some (.ref p2), some (.int (jn z3)), none, none, none]) rfl rfl rfl rfl ?_
  refine mj_T.pl rfl rfl rfl rfl ?_
  refine jT.lc 0 rfl rfl ?_
  refine jT.call rfl rfl (Nat.le_of_ble_eq_true rfl) (Nat.le_of_ble_eq_true rfl) (jrv_of o kp2 (by decide) rfl (by decide) rfl _) rfl (mj_Ok.up (Nat.add_le_add_left (by decide) D) (jc_86 (D := D) ty hg o kp2 ⟨by decide, by decide⟩)) rfl rfl (fun v4 h5 qv4 oh5 => ?_)
  obtain rfl : v4 = none := qv4
  refine mj_T.eq (pc2 := 15) (st2 := []) ?_ rfl rfl rfl rfl
  refine mj_T.pl rfl rfl rfl rfl ?_
  refine jT.if0 rfl rz3 (fun c16 => ?_) (fun c16 => ?_)
  · have c16 := jne1 c16
    iterate 2 refine mj_T.pl rfl rfl rfl rfl ?_
    refine jT.getL 12 oh5 rfl kp0 (by decide) rfl rfl (fun z6 jz6 => ?_)
    refine jT.call rfl rfl (Nat.le_of_ble_eq_true rfl) (Nat.le_of_ble_eq_true rfl) (jrv_of oh5 kp1 (by decide) rfl (by decide) rfl _) rfl (mj_Ok.up (Nat.add_le_add_left (by decide) D) (jc_96 (D := D) ty hg oh5 kp1 jz6)) rfl rfl (fun v7 h8 qv7 oh8 => ?_)
    obtain rfl : v7 = none := qv7
    refine mj_T.eq (pc2 := 28) (st2 := []) ?_ rfl rfl rfl rfl
    refine mj_T.pl rfl rfl rfl rfl ?_
    refine jT.getI 18 10 oh8 rfl kp1 (by decide) rfl rfl rfl (fun z9 (az9 : 0 ≤ z9) (bz9 : z9 ≤ 1000) fz9 => ?_)
    have rz9 : -2147483648 ≤ z9 ∧ z9 ≤ 2147483647 := ⟨by omega, by omega⟩
    refine mj_T.pl rfl rfl rfl rfl ?_
    refine jT.getI 12 8 oh8 rfl kp0 (by decide) rfl rfl rfl (fun z10 (az10 : 0 ≤ z10) (bz10 : z10 ≤ 60) fz10 => ?_)
    have rz10 : -2147483648 ≤ z10 ∧ z10 ≤ 2147483647 := ⟨by omega, by omega⟩
    refine jT.isub rfl (fun z11 rz11 ez11 => ?_)
    replace ez11 := ez11 ⟨by omega, by omega⟩
    refine mj_T.pl (loc' := [some (.ref p0), some (.ref p1), some (.ref p2), some (.int (jn z3)), some (.int (jn z11)), none, none]) rfl rfl rfl rfl ?_
    have t39_15 : ∀ (k16 : Nat) (x12 : Int) (w13 : Option Value) (h14 : mj_H), (-2147483648 ≤ x12 ∧ x12 ≤ 2147483647) → (jO K L R g n tm h14) → (x12 ≤ z11) → (x12 + 1 : Int).toNat = k16 → mj_T (D + 1) mj_m31 39 [some (.ref p0), some (.ref p1), some (.ref p2), some (.int (jn z3)), some (.int (jn x12)), w13, none] [] h14 (jQ K L R g n tm [] jV0) := by
      refine jInd (fun k16 ih17 => ?_)
      intro x12 w13 h14 rx12 oh14 ix12 hm18
      refine mj_T.pl rfl rfl rfl rfl ?_
      refine jT.if0 rfl rx12 (fun c41 => ?_) (fun c41 => ?_)
      · have c41 := of_decide_eq_true c41
        iterate 2 refine mj_T.pl rfl rfl rfl rfl ?_
        refine jT.getI 18 10 oh14 rfl kp2 (by decide) rfl rfl rfl (fun z19 (az19 : 0 ≤ z19) (bz19 : z19 ≤ 1000) fz19 => ?_)
        have rz19 : -2147483648 ≤ z19 ∧ z19 ≤ 2147483647 := ⟨by omega, by omega⟩
        have t111_21 : ∀ (x20 : Int), (-2147483648 ≤ x20 ∧ x20 ≤ 2147483647) → mj_T (D + 1) mj_m31 111 [some (.ref p0), some (.ref p1), some (.ref p2), some (.int (jn z3)), some (.int (jn x12)), w13, none] [.int (jn x20), .ref p2] h14 (jQ K L R g n tm [] jV0) := by
          intro x20 rx20
          refine jT.putI 18 0 oh14 rfl kp2 (by decide) rfl rfl rfl (Or.inl rfl) (by show (-2147483648) ≤ x20; omega) (by show x20 ≤ 2147483647; omega) (fun h22 oh22 wh22 uh22 => ?_)
          iterate 2 refine mj_T.pl rfl rfl rfl rfl ?_
          refine jT.getL 12 oh22 rfl kp0 (by decide) rfl rfl (fun z23 jz23 => ?_)
          refine jT.call rfl rfl (Nat.le_of_ble_eq_true rfl) (Nat.le_of_ble_eq_true rfl) (jrv_of oh22 kp1 (by decide) rfl (by decide) rfl _) rfl (mj_Ok.up (Nat.add_le_add_left (by decide) D) (jc_97 (D := D) ty hg oh22 kp1 jz23)) rfl rfl (fun v24 h25 qv24 oh25 => ?_)
          obtain rfl : v24 = none := qv24
          refine mj_T.eq (pc2 := 122) (st2 := []) ?_ rfl rfl rfl rfl
          exact jT.ret oh25 rfl rfl rfl rfl
        refine jT.if0 rfl rz19 (fun c103 => ?_) (fun c103 => ?_)
        · have c103 := jne1 c103
          refine mj_T.pl rfl rfl rfl rfl ?_
          exact t111_21 z3 rz3
        · have c103 := jne2 c103
          iterate 2 refine mj_T.pl rfl rfl rfl rfl ?_
          exact t111_21 0 ⟨by decide, by decide⟩
      · have c41 := of_decide_eq_false c41
        iterate 4 refine mj_T.pl rfl rfl rfl rfl ?_
        refine jT.getI 12 8 oh14 rfl kp0 (by decide) rfl rfl rfl (fun z26 (az26 : 0 ≤ z26) (bz26 : z26 ≤ 60) fz26 => ?_)
        have rz26 : -2147483648 ≤ z26 ∧ z26 ≤ 2147483647 := ⟨by omega, by omega⟩
        refine jT.iadd rfl (fun z27 rz27 ez27 => ?_)
        replace ez27 := ez27 ⟨by omega, by omega⟩
        refine jT.callp rfl rfl (Nat.le_of_ble_eq_true rfl) (Nat.le_of_ble_eq_true rfl) (jrv_of oh14 kp0 (by decide) rfl (by decide) rfl _) rfl (mj_Ok.up (Nat.add_le_add_left (by decide) D) (jc_32 (D := D) ty hg oh14 kp0 kp1 rz27)) rfl rfl (fun v28 qv28 => ?_)
        obtain ⟨z29, jz29, rfl⟩ := qv28
        refine mj_T.eq (pc2 := 56) (st2 := [.long (jl z29)]) ?_ rfl rfl rfl rfl
        refine mj_T.pl (loc' := [some (.ref p0), some (.ref p1), some (.ref p2), some (.int (jn z3)), some (.int (jn x12)), some (.long (jl z29)), none]) rfl rfl rfl rfl ?_
        iterate 4 refine mj_T.pl rfl rfl rfl rfl ?_
        refine jT.call rfl rfl (Nat.le_of_ble_eq_true rfl) (Nat.le_of_ble_eq_true rfl) (jrv_of oh14 kp0 (by decide) rfl (by decide) rfl _) rfl (mj_Ok.up (Nat.add_le_add_left (by decide) D) (jc_33 (D := D) ty hg oh14 kp0 kp1 rx12 jz29 (by omega))) rfl rfl (fun v30 h31 qv30 oh31 => ?_)
        obtain ⟨z32, az32, bz32, rfl⟩ := qv30
        have rz32 : -2147483648 ≤ z32 ∧ z32 ≤ 2147483647 := ⟨by omega, by omega⟩
        refine mj_T.eq (pc2 := 67) (st2 := [.int (jn z32)]) ?_ rfl rfl rfl rfl
        have t83_35 : ∀ (y33 : Int) (h34 : mj_H), (jR y33) → (jO K L R g n tm h34) → mj_T (D + 1) mj_m31 83 [some (.ref p0), some (.ref p1), some (.ref p2), some (.int (jn z3)), some (.int (jn x12)), some (.long (jl y33)), none] [] h34 (jQ K L R g n tm [] jV0) := by
          intro y33 h34 jy33 oh34
          iterate 3 refine mj_T.pl rfl rfl rfl rfl ?_
          refine jT.l2i rfl (fun z36 rz36 _ => ?_)
          refine jT.call rfl rfl (Nat.le_of_ble_eq_true rfl) (Nat.le_of_ble_eq_true rfl) (jrv_of oh34 kp2 (by decide) rfl (by decide) rfl _) rfl (mj_Ok.up (Nat.add_le_add_left (by decide) D) (jc_90 (D := D) ty hg oh34 kp2 rx12 rz36)) rfl rfl (fun v37 h38 qv37 oh38 => ?_)
          obtain rfl : v37 = none := qv37
          refine mj_T.eq (pc2 := 92) (st2 := []) ?_ rfl rfl rfl rfl
          refine jT.iinc rfl rfl (fun z39 rz39 ez39 => ?_)
          replace ez39 := ez39 ⟨by omega, by omega⟩
          refine mj_T.eq (loc2 := [some (.ref p0), some (.ref p1), some (.ref p2), some (.int (jn z3)), some (.int (jn z39)), some (.long (jl y33)), none]) ?_ rfl rfl rfl rfl
          refine mj_T.pl rfl rfl rfl rfl ?_
          exact ih17 ((z39 + 1 : Int).toNat) (by omega) z39 (some (.long (jl y33))) h38 rz39 oh38 (by omega) rfl
        refine jT.if0 rfl rz32 (fun c67 => ?_) (fun c67 => ?_)
        · have c67 := jne1 c67
          exact t83_35 z29 h31 jz29 oh31
        · have c67 := jne2 c67
          iterate 3 refine mj_T.pl rfl rfl rfl rfl ?_
          refine jT.call rfl rfl (Nat.le_of_ble_eq_true rfl) (Nat.le_of_ble_eq_true rfl) (jrv_of oh31 kp0 (by decide) rfl (by decide) rfl _) rfl (mj_Ok.up (Nat.add_le_add_left (by decide) D) (jc_34 (D := D) ty hg oh31 kp0 kp1 rx12 (by omega))) rfl rfl (fun v40 h41 qv40 oh41 => ?_)
          obtain rfl : v40 = none := qv40
          refine mj_T.eq (pc2 := 77) (st2 := []) ?_ rfl rfl rfl rfl
          refine mj_T.pl rfl rfl rfl rfl ?_
          refine jT.lc 1 rfl rfl ?_
          refine jT.lsub rfl (fun z42 jz42 _ => ?_)
          refine mj_T.pl (loc' := [some (.ref p0), some (.ref p1), some (.ref p2), some (.int (jn z3)), some (.int (jn x12)), some (.long (jl z42)), none]) rfl rfl rfl rfl ?_
          exact t83_35 z42 h41 jz42 oh41
    exact t39_15 _ z11 none h8 rz11 oh8 (by omega) rfl
  · have c16 := jne2 c16
    exact jT.ret oh5 rfl rfl rfl rfl
