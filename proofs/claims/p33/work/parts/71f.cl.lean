/-! The class by kinds: its methods. -/
-- PolyRegisters$Wide.setProduct(LPolyRegisters$Wide;LPolyRegisters$Wide;)V
theorem jc_95 {D n : Nat} {tm : Int} {h g : mj_H} {K L : Nat → Nat} {R : Nat → Nat → Nat} {p0 : Nat} {p1 : Nat} {p2 : Nat} (ty : jTY K L R) (hg : g.length ≤ n) (o : jO K L R g n tm h) (kp0 : K p0 = 18) (kp1 : K p1 = 18) (kp2 : K p2 = 18) : mj_Ok (D + 1) 95 [.ref p0, .ref p1, .ref p2] h (jQ K L R g n tm [] jV0) := by
  refine mj_Ok.of (M := mj_m95) (loc := [some (.ref p0), some (.ref p1), some (.ref p2), none, none, none, none, none, none, none, none, none, none, none, none]) rfl rfl rfl ?_
  refine mj_T.pl rfl rfl rfl rfl ?_
  refine jT.getI 18 10 o rfl kp1 (by decide) rfl rfl rfl (fun z1 (az1 : 0 ≤ z1) (bz1 : z1 ≤ 1000) fz1 => ?_)
  have rz1 : -2147483648 ≤ z1 ∧ z1 ≤ 2147483647 := ⟨by omega, by omega⟩
  refine mj_T.pl rfl rfl rfl rfl ?_
  refine jT.getR 18 101 1 ty o rfl kp1 (by decide) rfl rfl rfl (fun k2 => ?_)
  refine jT.alen 1 ty o rfl k2 (by decide) (by decide) (fun z3 ez3 (az3 : 0 ≤ z3) (bz3 : z3 ≤ 1000) => ?_)
  have rz3 : -2147483648 ≤ z3 ∧ z3 ≤ 2147483647 := ⟨by omega, by omega⟩
  refine jT.imin rfl rfl (Nat.le_of_ble_eq_true rfl) rz1 rz3 (fun z4 ez4 => ?_)
  have rz4 : -2147483648 ≤ z4 ∧ z4 ≤ 2147483647 := ⟨by omega, by omega⟩
  refine mj_T.pl (loc' := [some (.ref p0), some (.ref p1), some (.ref p2), some (.int (jn z4)), none, none, none, none, none, none, none, none, none, none, none]) rfl rfl rfl rfl ?_
  refine mj_T.pl rfl rfl rfl rfl ?_
  refine jT.getI 18 10 o rfl kp2 (by decide) rfl rfl rfl (fun z5 (az5 : 0 ≤ z5) (bz5 : z5 ≤ 1000) fz5 => ?_)
  have rz5 : -2147483648 ≤ z5 ∧ z5 ≤ 2147483647 := ⟨by omega, by omega⟩
  refine mj_T.pl rfl rfl rfl rfl ?_
  refine jT.getR 18 101 1 ty o rfl kp2 (by decide) rfl rfl rfl (fun k6 => ?_)
  refine jT.alen 1 ty o rfl k6 (by decide) (by decide) (fun z7 ez7 (az7 : 0 ≤ z7) (bz7 : z7 ≤ 1000) => ?_)
  have rz7 : -2147483648 ≤ z7 ∧ z7 ≤ 2147483647 := ⟨by omega, by omega⟩
  refine jT.imin rfl rfl (Nat.le_of_ble_eq_true rfl) rz5 rz7 (fun z8 ez8 => ?_)
  have rz8 : -2147483648 ≤ z8 ∧ z8 ≤ 2147483647 := ⟨by omega, by omega⟩
  refine mj_T.pl (loc' := [some (.ref p0), some (.ref p1), some (.ref p2), some (.int (jn z4)), some (.int (jn z8)), none, none, none, none, none, none, none, none, none, none]) rfl rfl rfl rfl ?_
  iterate 2 refine mj_T.pl rfl rfl rfl rfl ?_
  refine jT.iadd rfl (fun z9 rz9 ez9 => ?_)
  replace ez9 := ez9 ⟨by omega, by omega⟩
  refine mj_T.pl rfl rfl rfl rfl ?_
  refine jT.getR 18 101 1 ty o rfl kp0 (by decide) rfl rfl rfl (fun k10 => ?_)
  refine jT.alen 1 ty o rfl k10 (by decide) (by decide) (fun z11 ez11 (az11 : 0 ≤ z11) (bz11 : z11 ≤ 1000) => ?_)
  have rz11 : -2147483648 ≤ z11 ∧ z11 ≤ 2147483647 := ⟨by omega, by omega⟩
  refine jT.imin rfl rfl (Nat.le_of_ble_eq_true rfl) rz9 rz11 (fun z12 ez12 => ?_)
  have rz12 : -2147483648 ≤ z12 ∧ z12 ≤ 2147483647 := ⟨by omega, by omega⟩
  refine mj_T.pl (loc' := [some (.ref p0), some (.ref p1), some (.ref p2), some (.int (jn z4)), some (.int (jn z8)), some (.int (jn z12)), none, none, none, none, none, none, none, none, none]) rfl rfl rfl rfl ?_
  refine jT.lc 0 rfl rfl ?_
  refine mj_T.pl (loc' := [some (.ref p0), some (.ref p1), some (.ref p2), some (.int (jn z4)), some (.int (jn z8)), some (.int (jn z12)), some (.long (jl ((0 : Nat) : Int))), none, none, none, none, none, none, none, none]) rfl rfl rfl rfl ?_
  iterate 2 refine mj_T.pl rfl rfl rfl rfl ?_
  refine jT.putI 18 10 o rfl kp0 (by decide) rfl rfl rfl (Or.inl rfl) (by show 0 ≤ 0; omega) (by show 0 ≤ 1000; omega) (fun h13 oh13 wh13 uh13 => ?_)
  refine mj_T.pl rfl rfl rfl rfl ?_
  refine mj_T.pl (loc' := [some (.ref p0), some (.ref p1), some (.ref p2), some (.int (jn z4)), some (.int (jn z8)), some (.int (jn z12)), some (.long (jl ((0 : Nat) : Int))), none, some (.int (jn 0)), none, none, none, none, none, none]) rfl rfl rfl rfl ?_
  have t52_21 : ∀ (k22 : Nat) (y14 : Int) (x15 : Int) (w16 : Option Value) (w17 : Option Value) (w18 : Option Value) (w19 : Option Value) (h20 : mj_H), (jR y14) → (-2147483648 ≤ x15 ∧ x15 ≤ 2147483647) → (jO K L R g n tm h20) → (0 ≤ x15) → (2147483647 - x15 : Int).toNat = k22 → mj_T (D + 0) mj_m95 52 [some (.ref p0), some (.ref p1), some (.ref p2), some (.int (jn z4)), some (.int (jn z8)), some (.int (jn z12)), some (.long (jl y14)), none, some (.int (jn x15)), w16, none, w17, none, w18, w19] [] h20 (jQ K L R g n tm [] jV0) := by
    refine jInd (fun k22 ih23 => ?_)
    intro y14 x15 w16 w17 w18 w19 h20 jy14 rx15 oh20 ix15 hm24
    refine mj_T.pl rfl rfl rfl rfl ?_
    refine mj_T.pl rfl rfl rfl rfl ?_
    refine jT.icmp rfl rx15 rz12 (fun c56 => ?_) (fun c56 => ?_)
    · have c56 := of_decide_eq_true c56
      iterate 2 refine mj_T.pl rfl rfl rfl rfl ?_
      refine jT.getI 18 10 oh20 rfl kp0 (by decide) rfl rfl rfl (fun z25 (az25 : 0 ≤ z25) (bz25 : z25 ≤ 1000) fz25 => ?_)
      have rz25 : -2147483648 ≤ z25 ∧ z25 ≤ 2147483647 := ⟨by omega, by omega⟩
      refine jT.if0 rfl rz25 (fun c213 => ?_) (fun c213 => ?_)
      · have c213 := jne1 c213
        refine mj_T.pl rfl rfl rfl rfl ?_
        refine jT.getI 18 0 oh20 rfl kp1 (by decide) rfl rfl rfl (fun z26 (az26 : (-2147483648) ≤ z26) (bz26 : z26 ≤ 2147483647) fz26 => ?_)
        have rz26 : -2147483648 ≤ z26 ∧ z26 ≤ 2147483647 := ⟨by omega, by omega⟩
        refine mj_T.pl rfl rfl rfl rfl ?_
        refine jT.getI 18 0 oh20 rfl kp2 (by decide) rfl rfl rfl (fun z27 (az27 : (-2147483648) ≤ z27) (bz27 : z27 ≤ 2147483647) fz27 => ?_)
        have rz27 : -2147483648 ≤ z27 ∧ z27 ≤ 2147483647 := ⟨by omega, by omega⟩
        refine jT.imul rfl (fun z28 rz28 ez28 => ?_)
        clear ez28
        refine jT.putI 18 0 oh20 rfl kp0 (by decide) rfl rfl rfl (Or.inl rfl) (by show (-2147483648) ≤ z28; omega) (by show z28 ≤ 2147483647; omega) (fun h29 oh29 wh29 uh29 => ?_)
        exact jT.ret oh29 rfl rfl rfl rfl
      · have c213 := jne2 c213
        iterate 2 refine mj_T.pl rfl rfl rfl rfl ?_
        refine jT.putI 18 0 oh20 rfl kp0 (by decide) rfl rfl rfl (Or.inl rfl) (by show (-2147483648) ≤ 0; omega) (by show 0 ≤ 2147483647; omega) (fun h30 oh30 wh30 uh30 => ?_)
        exact jT.ret oh30 rfl rfl rfl rfl
    · have c56 := of_decide_eq_false c56
      refine mj_T.pl rfl rfl rfl rfl ?_
      refine mj_T.pl (loc' := [some (.ref p0), some (.ref p1), some (.ref p2), some (.int (jn z4)), some (.int (jn z8)), some (.int (jn z12)), some (.long (jl y14)), none, some (.int (jn x15)), some (.long (jl y14)), none, w17, none, w18, w19]) rfl rfl rfl rfl ?_
      refine jT.lc 0 rfl rfl ?_
      refine mj_T.pl (loc' := [some (.ref p0), some (.ref p1), some (.ref p2), some (.int (jn z4)), some (.int (jn z8)), some (.int (jn z12)), some (.long (jl y14)), none, some (.int (jn x15)), some (.long (jl y14)), none, some (.long (jl ((0 : Nat) : Int))), none, w18, w19]) rfl rfl rfl rfl ?_
      iterate 3 refine mj_T.pl rfl rfl rfl rfl ?_
      refine jT.isub rfl (fun z31 rz31 ez31 => ?_)
      replace ez31 := ez31 ⟨by omega, by omega⟩
      refine jT.imin rfl rfl (Nat.le_of_ble_eq_true rfl) rx15 rz31 (fun z32 ez32 => ?_)
      have rz32 : -2147483648 ≤ z32 ∧ z32 ≤ 2147483647 := ⟨by omega, by omega⟩
      refine mj_T.pl (loc' := [some (.ref p0), some (.ref p1), some (.ref p2), some (.int (jn z4)), some (.int (jn z8)), some (.int (jn z12)), some (.long (jl y14)), none, some (.int (jn x15)), some (.long (jl y14)), none, some (.long (jl ((0 : Nat) : Int))), none, some (.int (jn z32)), w19]) rfl rfl rfl rfl ?_
      iterate 3 refine mj_T.pl rfl rfl rfl rfl ?_
      refine jT.isub rfl (fun z33 rz33 ez33 => ?_)
      replace ez33 := ez33 ⟨by omega, by omega⟩
      refine mj_T.pl rfl rfl rfl rfl ?_
      refine jT.iadd rfl (fun z34 rz34 ez34 => ?_)
      replace ez34 := ez34 ⟨by omega, by omega⟩
      refine jT.imax rfl rfl (Nat.le_of_ble_eq_true rfl) ⟨by decide, by decide⟩ rz34 (fun z35 ez35 => ?_)
      have rz35 : -2147483648 ≤ z35 ∧ z35 ≤ 2147483647 := ⟨by omega, by omega⟩
      refine mj_T.pl (loc' := [some (.ref p0), some (.ref p1), some (.ref p2), some (.int (jn z4)), some (.int (jn z8)), some (.int (jn z12)), some (.long (jl y14)), none, some (.int (jn x15)), some (.long (jl y14)), none, some (.long (jl ((0 : Nat) : Int))), none, some (.int (jn z32)), some (.int (jn z35))]) rfl rfl rfl rfl ?_
      have t89_39 : ∀ (k40 : Nat) (y36 : Int) (y37 : Int) (x38 : Int), (jR y36) → (jR y37) → (-2147483648 ≤ x38 ∧ x38 ≤ 2147483647) → (z35 ≤ x38) → (2147483647 - x38 : Int).toNat = k40 → mj_T (D + 0) mj_m95 89 [some (.ref p0), some (.ref p1), some (.ref p2), some (.int (jn z4)), some (.int (jn z8)), some (.int (jn z12)), some (.long (jl y14)), none, some (.int (jn x15)), some (.long (jl y36)), none, some (.long (jl y37)), none, some (.int (jn z32)), some (.int (jn x38))] [] h20 (jQ K L R g n tm [] jV0) := by
        refine jInd (fun k40 ih41 => ?_)
        intro y36 y37 x38 jy36 jy37 rx38 ix38 hm42
        refine mj_T.pl rfl rfl rfl rfl ?_
        refine mj_T.pl rfl rfl rfl rfl ?_
        refine jT.icmp rfl rx38 rz32 (fun c93 => ?_) (fun c93 => ?_)
        · have c93 := of_decide_eq_true c93
          iterate 2 refine mj_T.pl rfl rfl rfl rfl ?_
          refine jT.ldcL rfl ?_
          refine jT.ldiv rfl ⟨by decide, by decide⟩ (by decide) (fun z43 jz43 => ?_)
          refine jT.ladd rfl (fun z44 jz44 _ => ?_)
          refine mj_T.pl (loc' := [some (.ref p0), some (.ref p1), some (.ref p2), some (.int (jn z4)), some (.int (jn z8)), some (.int (jn z12)), some (.long (jl z44)), none, some (.int (jn x15)), some (.long (jl y36)), none, some (.long (jl y37)), none, some (.int (jn z32)), some (.int (jn x38))]) rfl rfl rfl rfl ?_
          refine mj_T.pl rfl rfl rfl rfl ?_
          refine jT.getR 18 101 1 ty oh20 rfl kp0 (by decide) rfl rfl rfl (fun k45 => ?_)
          iterate 2 refine mj_T.pl rfl rfl rfl rfl ?_
          refine jT.ldcL rfl ?_
          refine jT.lrem rfl ⟨by decide, by decide⟩ (by decide) (fun z46 jz46 => ?_)
          refine jT.l2i rfl (fun z47 rz47 _ => ?_)
          refine jT.iast oh20 rfl k45 rx15 ⟨by omega, by omega⟩ rz47 (fun h48 oh48 uh48 => ?_)
          iterate 2 refine mj_T.pl rfl rfl rfl rfl ?_
          refine jT.getR 18 101 1 ty oh48 rfl kp0 (by decide) rfl rfl rfl (fun k49 => ?_)
          refine mj_T.pl rfl rfl rfl rfl ?_
          refine jT.iald oh48 rfl k49 rx15 ⟨by omega, by omega⟩ (fun z50 rz50 fz50 => ?_)
          refine jT.if0 rfl rz50 (fun c185 => ?_) (fun c185 => ?_)
          · have c185 := of_decide_eq_true c185
            refine mj_T.pl rfl rfl rfl rfl ?_
            refine jT.getI 18 10 oh48 rfl kp0 (by decide) rfl rfl rfl (fun z51 (az51 : 0 ≤ z51) (bz51 : z51 ≤ 1000) fz51 => ?_)
            have rz51 : -2147483648 ≤ z51 ∧ z51 ≤ 2147483647 := ⟨by omega, by omega⟩
            refine jT.putI 18 10 oh48 rfl kp0 (by decide) rfl rfl rfl (Or.inl rfl) (by show 0 ≤ z51; omega) (by show z51 ≤ 1000; omega) (fun h52 oh52 wh52 uh52 => ?_)
            refine jT.iinc rfl rfl (fun z53 rz53 ez53 => ?_)
            replace ez53 := ez53 ⟨by omega, by omega⟩
            refine mj_T.eq (loc2 := [some (.ref p0), some (.ref p1), some (.ref p2), some (.int (jn z4)), some (.int (jn z8)), some (.int (jn z12)), some (.long (jl z44)), none, some (.int (jn z53)), some (.long (jl y36)), none, some (.long (jl y37)), none, some (.int (jn z32)), some (.int (jn x38))]) ?_ rfl rfl rfl rfl
            refine mj_T.pl rfl rfl rfl rfl ?_
            exact ih23 ((2147483647 - z53 : Int).toNat) (by omega) z44 z53 (some (.long (jl y36))) (some (.long (jl y37))) (some (.int (jn z32))) (some (.int (jn x38))) h52 jz44 rz53 oh52 (by omega) rfl
          · have c185 := of_decide_eq_false c185
            iterate 2 refine mj_T.pl rfl rfl rfl rfl ?_
            refine jT.iadd rfl (fun z54 rz54 ez54 => ?_)
            replace ez54 := ez54 ⟨by omega, by omega⟩
            refine mj_T.pl rfl rfl rfl rfl ?_
            refine jT.putI 18 10 oh48 rfl kp0 (by decide) rfl rfl rfl (Or.inl rfl) (by show 0 ≤ z54; omega) (by show z54 ≤ 1000; omega) (fun h55 oh55 wh55 uh55 => ?_)
            refine jT.iinc rfl rfl (fun z56 rz56 ez56 => ?_)
            replace ez56 := ez56 ⟨by omega, by omega⟩
            refine mj_T.eq (loc2 := [some (.ref p0), some (.ref p1), some (.ref p2), some (.int (jn z4)), some (.int (jn z8)), some (.int (jn z12)), some (.long (jl z44)), none, some (.int (jn z56)), some (.long (jl y36)), none, some (.long (jl y37)), none, some (.int (jn z32)), some (.int (jn x38))]) ?_ rfl rfl rfl rfl
            refine mj_T.pl rfl rfl rfl rfl ?_
            exact ih23 ((2147483647 - z56 : Int).toNat) (by omega) z44 z56 (some (.long (jl y36))) (some (.long (jl y37))) (some (.int (jn z32))) (some (.int (jn x38))) h55 jz44 rz56 oh55 (by omega) rfl
        · have c93 := of_decide_eq_false c93
          iterate 2 refine mj_T.pl rfl rfl rfl rfl ?_
          refine jT.getR 18 101 1 ty oh20 rfl kp1 (by decide) rfl rfl rfl (fun k57 => ?_)
          refine mj_T.pl rfl rfl rfl rfl ?_
          refine jT.iald oh20 rfl k57 rx38 ⟨by omega, by omega⟩ (fun z58 rz58 fz58 => ?_)
          refine jT.i2l rfl rz58 ?_
          have j59 : jR z58 := ⟨by omega, by omega⟩
          refine mj_T.pl rfl rfl rfl rfl ?_
          refine jT.getR 18 101 1 ty oh20 rfl kp2 (by decide) rfl rfl rfl (fun k60 => ?_)
          iterate 2 refine mj_T.pl rfl rfl rfl rfl ?_
          refine jT.isub rfl (fun z61 rz61 ez61 => ?_)
          replace ez61 := ez61 ⟨by omega, by omega⟩
          refine jT.iald oh20 rfl k60 rz61 ⟨by omega, by omega⟩ (fun z62 rz62 fz62 => ?_)
          refine jT.i2l rfl rz62 ?_
          have j63 : jR z62 := ⟨by omega, by omega⟩
          refine jT.lmul rfl (fun z64 jz64 _ => ?_)
          refine jT.ladd rfl (fun z65 jz65 _ => ?_)
          refine mj_T.pl (loc' := [some (.ref p0), some (.ref p1), some (.ref p2), some (.int (jn z4)), some (.int (jn z8)), some (.int (jn z12)), some (.long (jl y14)), none, some (.int (jn x15)), some (.long (jl z65)), none, some (.long (jl y37)), none, some (.int (jn z32)), some (.int (jn x38))]) rfl rfl rfl rfl ?_
          refine mj_T.pl rfl rfl rfl rfl ?_
          refine jT.ldcL rfl ?_
          refine mj_T.lif rfl rfl jz65 ⟨by decide, by decide⟩ (fun c126 => ?_) (fun c126 => ?_)
          · have c126 := of_decide_eq_true c126
            refine jT.iinc rfl rfl (fun z66 rz66 ez66 => ?_)
            replace ez66 := ez66 ⟨by omega, by omega⟩
            refine mj_T.eq (loc2 := [some (.ref p0), some (.ref p1), some (.ref p2), some (.int (jn z4)), some (.int (jn z8)), some (.int (jn z12)), some (.long (jl y14)), none, some (.int (jn x15)), some (.long (jl z65)), none, some (.long (jl y37)), none, some (.int (jn z32)), some (.int (jn z66))]) ?_ rfl rfl rfl rfl
            refine mj_T.pl rfl rfl rfl rfl ?_
            exact ih41 ((2147483647 - z66 : Int).toNat) (by omega) z65 y37 z66 jz65 jy37 rz66 (by omega) rfl
          · have c126 := of_decide_eq_false c126
            refine mj_T.pl rfl rfl rfl rfl ?_
            refine jT.ldcL rfl ?_
            refine jT.lsub rfl (fun z67 jz67 _ => ?_)
            refine mj_T.pl (loc' := [some (.ref p0), some (.ref p1), some (.ref p2), some (.int (jn z4)), some (.int (jn z8)), some (.int (jn z12)), some (.long (jl y14)), none, some (.int (jn x15)), some (.long (jl z67)), none, some (.long (jl y37)), none, some (.int (jn z32)), some (.int (jn x38))]) rfl rfl rfl rfl ?_
            refine mj_T.pl rfl rfl rfl rfl ?_
            refine jT.ldcL rfl ?_
            refine jT.ladd rfl (fun z68 jz68 _ => ?_)
            refine mj_T.pl (loc' := [some (.ref p0), some (.ref p1), some (.ref p2), some (.int (jn z4)), some (.int (jn z8)), some (.int (jn z12)), some (.long (jl y14)), none, some (.int (jn x15)), some (.long (jl z67)), none, some (.long (jl z68)), none, some (.int (jn z32)), some (.int (jn x38))]) rfl rfl rfl rfl ?_
            refine jT.iinc rfl rfl (fun z69 rz69 ez69 => ?_)
            replace ez69 := ez69 ⟨by omega, by omega⟩
            refine mj_T.eq (loc2 := [some (.ref p0), some (.ref p1), some (.ref p2), some (.int (jn z4)), some (.int (jn z8)), some (.int (jn z12)), some (.long (jl y14)), none, some (.int (jn x15)), some (.long (jl z67)), none, some (.long (jl z68)), none, some (.int (jn z32)), some (.int (jn z69))]) ?_ rfl rfl rfl rfl
            refine mj_T.pl rfl rfl rfl rfl ?_
            exact ih41 ((2147483647 - z69 : Int).toNat) (by omega) z67 z68 z69 jz67 jz68 rz69 (by omega) rfl
      exact t89_39 _ y14 ((0 : Nat) : Int) z35 jy14 ⟨by decide, by decide⟩ rz35 (by omega) rfl
  exact t52_21 _ ((0 : Nat) : Int) 0 none none none none h13 ⟨by decide, by decide⟩ ⟨by decide, by decide⟩ oh13 (by omega) rfl
-- PolyRegisters$Divisor.prepare(LPolyRegisters$Wide;)V
theorem jc_30 {D n : Nat} {tm : Int} {h g : mj_H} {K L : Nat → Nat} {R : Nat → Nat → Nat} {p0 : Nat} {p1 : Nat} (ty : jTY K L R) (hg : g.length ≤ n) (o : jO K L R g n tm h) (kp0 : K p0 = 12) (kp1 : K p1 = 18) : mj_Ok (D + 1) 30 [.ref p0, .ref p1] h (jQ K L R g n tm [] jV0) := by
  refine mj_Ok.of (M := mj_m30) (loc := [some (.ref p0), some (.ref p1), none, none, none, none, none, none]) rfl rfl rfl ?_
  refine mj_T.pl rfl rfl rfl rfl ?_
  refine jT.getR 18 101 1 ty o rfl kp1 (by decide) rfl rfl rfl (fun k1 => ?_)
  refine mj_T.pl (loc' := [some (.ref p0), some (.ref p1), some (.ref (R p1 0)), none, none, none, none, none]) rfl rfl rfl rfl ?_
  iterate 2 refine mj_T.pl rfl rfl rfl rfl ?_
  refine jT.getI 18 10 o rfl kp1 (by decide) rfl rfl rfl (fun z2 (az2 : 0 ≤ z2) (bz2 : z2 ≤ 1000) fz2 => ?_)
  have rz2 : -2147483648 ≤ z2 ∧ z2 ≤ 2147483647 := ⟨by omega, by omega⟩
  refine mj_T.pl rfl rfl rfl rfl ?_
  refine jT.getR 12 101 1 ty o rfl kp0 (by decide) rfl rfl rfl (fun k3 => ?_)
  have lk3 : L (R p0 0) = 60 := ty.2.2.2.1 p0 kp0
  refine jT.alen 1 ty o rfl k3 (by decide) (by decide) (fun z4 ez4 (az4 : 0 ≤ z4) (bz4 : z4 ≤ 1000) => ?_)
  have rz4 : -2147483648 ≤ z4 ∧ z4 ≤ 2147483647 := ⟨by omega, by omega⟩
  refine mj_T.pl rfl rfl rfl rfl ?_
  refine jT.alen 1 ty o rfl k1 (by decide) (by decide) (fun z5 ez5 (az5 : 0 ≤ z5) (bz5 : z5 ≤ 1000) => ?_)
  have rz5 : -2147483648 ≤ z5 ∧ z5 ≤ 2147483647 := ⟨by omega, by omega⟩
  refine jT.imin rfl rfl (Nat.le_of_ble_eq_true rfl) rz4 rz5 (fun z6 ez6 => ?_)
  have rz6 : -2147483648 ≤ z6 ∧ z6 ≤ 2147483647 := ⟨by omega, by omega⟩
  refine jT.imin rfl rfl (Nat.le_of_ble_eq_true rfl) rz2 rz6 (fun z7 ez7 => ?_)
  have rz7 : -2147483648 ≤ z7 ∧ z7 ≤ 2147483647 := ⟨by omega, by omega⟩
  refine jT.putI 12 8 o rfl kp0 (by decide) rfl rfl rfl (Or.inl rfl) (by show 0 ≤ z7; omega) (by show z7 ≤ 60; omega) (fun h8 oh8 wh8 uh8 => ?_)
  iterate 2 refine mj_T.pl rfl rfl rfl rfl ?_
  refine jT.getI 18 0 oh8 rfl kp1 (by decide) rfl rfl rfl (fun z9 (az9 : (-2147483648) ≤ z9) (bz9 : z9 ≤ 2147483647) fz9 => ?_)
  have rz9 : -2147483648 ≤ z9 ∧ z9 ≤ 2147483647 := ⟨by omega, by omega⟩
  refine jT.putI 12 0 oh8 rfl kp0 (by decide) rfl rfl rfl (Or.inl rfl) (by show (-2147483648) ≤ z9; omega) (by show z9 ≤ 2147483647; omega) (fun h10 oh10 wh10 uh10 => ?_)
  iterate 2 refine mj_T.pl rfl rfl rfl rfl ?_
  refine jT.getK 12 8 oh10 rfl kp0 (by decide) rfl rfl rfl ((uh10 p0 1 (Or.inr (by decide))).trans wh8) ?_
  refine jT.if0 rfl rz7 (fun c39 => ?_) (fun c39 => ?_)
  · have c39 := of_decide_eq_true c39
    refine jT.lc 1 rfl rfl ?_
    refine jT.putL 12 ⟨by decide, by decide⟩ oh10 rfl kp0 (by decide) rfl rfl (fun h11 oh11 uh11 => ?_)
    refine jT.lc 0 rfl rfl ?_
    refine mj_T.pl (loc' := [some (.ref p0), some (.ref p1), some (.ref (R p1 0)), some (.long (jl ((0 : Nat) : Int))), none, none, none, none]) rfl rfl rfl rfl ?_
    refine mj_T.pl rfl rfl rfl rfl ?_
    refine mj_T.pl (loc' := [some (.ref p0), some (.ref p1), some (.ref (R p1 0)), some (.long (jl ((0 : Nat) : Int))), none, some (.int (jn 0)), none, none]) rfl rfl rfl rfl ?_
    have t80_18 : ∀ (k19 : Nat) (y12 : Int) (x13 : Int) (w14 : Option Value) (h15 : mj_H), (jR y12) → (-2147483648 ≤ x13 ∧ x13 ≤ 2147483647) → (jO K L R g n tm h15) → (jfI h15 p0 1 = z7) → (jfI h15 p0 2 = z9) → (0 ≤ x13) → (2147483647 - x13 : Int).toNat = k19 → mj_T (D + 0) mj_m30 80 [some (.ref p0), some (.ref p1), some (.ref (R p1 0)), some (.long (jl y12)), none, some (.int (jn x13)), w14, none] [] h15 (jQ K L R g n tm [] jV0) := by
      refine jInd (fun k19 ih20 => ?_)
      intro y12 x13 w14 h15 jy12 rx13 oh15 f16 f17 ix13 hm21
      refine mj_T.pl rfl rfl rfl rfl ?_
      refine mj_T.pl rfl rfl rfl rfl ?_
      refine jT.getK 12 8 oh15 rfl kp0 (by decide) rfl rfl rfl f16 ?_
      refine jT.icmp rfl rx13 rz7 (fun c86 => ?_) (fun c86 => ?_)
      · have c86 := of_decide_eq_true c86
        exact jT.ret oh15 rfl rfl rfl rfl
      · have c86 := of_decide_eq_false c86
        iterate 2 refine mj_T.pl rfl rfl rfl rfl ?_
        refine jT.iald oh15 rfl k1 rx13 ⟨by omega, by omega⟩ (fun z22 rz22 fz22 => ?_)
        refine jT.i2l rfl rz22 ?_
        have j23 : jR z22 := ⟨by omega, by omega⟩
        refine mj_T.pl rfl rfl rfl rfl ?_
        refine jT.getL 12 oh15 rfl kp0 (by decide) rfl rfl (fun z24 jz24 => ?_)
        refine jT.lmul rfl (fun z25 jz25 _ => ?_)
        refine mj_T.pl rfl rfl rfl rfl ?_
        refine jT.ladd rfl (fun z26 jz26 _ => ?_)
        refine mj_T.pl (loc' := [some (.ref p0), some (.ref p1), some (.ref (R p1 0)), some (.long (jl y12)), none, some (.int (jn x13)), some (.long (jl z26)), none]) rfl rfl rfl rfl ?_
        refine mj_T.pl rfl rfl rfl rfl ?_
        refine jT.getR 12 101 1 ty oh15 rfl kp0 (by decide) rfl rfl rfl (fun k27 => ?_)
        iterate 2 refine mj_T.pl rfl rfl rfl rfl ?_
        refine jT.ldcL rfl ?_
        refine jT.lrem rfl ⟨by decide, by decide⟩ (by decide) (fun z28 jz28 => ?_)
        refine jT.l2i rfl (fun z29 rz29 _ => ?_)
        refine jT.iast oh15 rfl k27 rx13 ⟨by omega, by omega⟩ rz29 (fun h30 oh30 uh30 => ?_)
        refine mj_T.pl rfl rfl rfl rfl ?_
        refine jT.ldcL rfl ?_
        refine jT.ldiv rfl ⟨by decide, by decide⟩ (by decide) (fun z31 jz31 => ?_)
        refine mj_T.pl (loc' := [some (.ref p0), some (.ref p1), some (.ref (R p1 0)), some (.long (jl z31)), none, some (.int (jn x13)), some (.long (jl z26)), none]) rfl rfl rfl rfl ?_
        refine jT.iinc rfl rfl (fun z32 rz32 ez32 => ?_)
        replace ez32 := ez32 ⟨by omega, by omega⟩
        refine mj_T.eq (loc2 := [some (.ref p0), some (.ref p1), some (.ref (R p1 0)), some (.long (jl z31)), none, some (.int (jn z32)), some (.long (jl z26)), none]) ?_ rfl rfl rfl rfl
        refine mj_T.pl rfl rfl rfl rfl ?_
        exact ih20 ((2147483647 - z32 : Int).toNat) (by omega) z31 z32 (some (.long (jl z26))) h30 jz31 rz32 oh30 ((uh30 p0 1).trans f16) ((uh30 p0 2).trans f17) (by omega) rfl
    exact t80_18 _ ((0 : Nat) : Int) 0 none h11 ⟨by decide, by decide⟩ ⟨by decide, by decide⟩ oh11 ((uh11 p0 1 (Or.inr (by decide))).trans ((uh10 p0 1 (Or.inr (by decide))).trans wh8)) ((uh11 p0 2 (Or.inr (by decide))).trans wh10) (by omega) rfl
  · have c39 := of_decide_eq_false c39
    iterate 2 refine mj_T.pl rfl rfl rfl rfl ?_
    refine jT.getK 12 8 oh10 rfl kp0 (by decide) rfl rfl rfl ((uh10 p0 1 (Or.inr (by decide))).trans wh8) ?_
    refine mj_T.pl rfl rfl rfl rfl ?_
    refine jT.isub rfl (fun z33 rz33 ez33 => ?_)
    replace ez33 := ez33 ⟨by omega, by omega⟩
    refine jT.iald oh10 rfl k1 rz33 ⟨by omega, by omega⟩ (fun z34 rz34 fz34 => ?_)
    refine jT.if0 rfl rz34 (fun c50 => ?_) (fun c50 => ?_)
    · have c50 := of_decide_eq_true c50
      refine jT.lc 1 rfl rfl ?_
      refine jT.putL 12 ⟨by decide, by decide⟩ oh10 rfl kp0 (by decide) rfl rfl (fun h35 oh35 uh35 => ?_)
      refine jT.lc 0 rfl rfl ?_
      refine mj_T.pl (loc' := [some (.ref p0), some (.ref p1), some (.ref (R p1 0)), some (.long (jl ((0 : Nat) : Int))), none, none, none, none]) rfl rfl rfl rfl ?_
      refine mj_T.pl rfl rfl rfl rfl ?_
      refine mj_T.pl (loc' := [some (.ref p0), some (.ref p1), some (.ref (R p1 0)), some (.long (jl ((0 : Nat) : Int))), none, some (.int (jn 0)), none, none]) rfl rfl rfl rfl ?_
      have t80_42 : ∀ (k43 : Nat) (y36 : Int) (x37 : Int) (w38 : Option Value) (h39 : mj_H), (jR y36) → (-2147483648 ≤ x37 ∧ x37 ≤ 2147483647) → (jO K L R g n tm h39) → (jfI h39 p0 1 = z7) → (jfI h39 p0 2 = z9) → (0 ≤ x37) → (2147483647 - x37 : Int).toNat = k43 → mj_T (D + 0) mj_m30 80 [some (.ref p0), some (.ref p1), some (.ref (R p1 0)), some (.long (jl y36)), none, some (.int (jn x37)), w38, none] [] h39 (jQ K L R g n tm [] jV0) := by
        refine jInd (fun k43 ih44 => ?_)
        intro y36 x37 w38 h39 jy36 rx37 oh39 f40 f41 ix37 hm45
        refine mj_T.pl rfl rfl rfl rfl ?_
        refine mj_T.pl rfl rfl rfl rfl ?_
        refine jT.getK 12 8 oh39 rfl kp0 (by decide) rfl rfl rfl f40 ?_
        refine jT.icmp rfl rx37 rz7 (fun c86 => ?_) (fun c86 => ?_)
        · have c86 := of_decide_eq_true c86
          exact jT.ret oh39 rfl rfl rfl rfl
        · have c86 := of_decide_eq_false c86
          iterate 2 refine mj_T.pl rfl rfl rfl rfl ?_
          refine jT.iald oh39 rfl k1 rx37 ⟨by omega, by omega⟩ (fun z46 rz46 fz46 => ?_)
          refine jT.i2l rfl rz46 ?_
          have j47 : jR z46 := ⟨by omega, by omega⟩
          refine mj_T.pl rfl rfl rfl rfl ?_
          refine jT.getL 12 oh39 rfl kp0 (by decide) rfl rfl (fun z48 jz48 => ?_)
          refine jT.lmul rfl (fun z49 jz49 _ => ?_)
          refine mj_T.pl rfl rfl rfl rfl ?_
          refine jT.ladd rfl (fun z50 jz50 _ => ?_)
          refine mj_T.pl (loc' := [some (.ref p0), some (.ref p1), some (.ref (R p1 0)), some (.long (jl y36)), none, some (.int (jn x37)), some (.long (jl z50)), none]) rfl rfl rfl rfl ?_
          refine mj_T.pl rfl rfl rfl rfl ?_
          refine jT.getR 12 101 1 ty oh39 rfl kp0 (by decide) rfl rfl rfl (fun k51 => ?_)
          iterate 2 refine mj_T.pl rfl rfl rfl rfl ?_
          refine jT.ldcL rfl ?_
          refine jT.lrem rfl ⟨by decide, by decide⟩ (by decide) (fun z52 jz52 => ?_)
          refine jT.l2i rfl (fun z53 rz53 _ => ?_)
          refine jT.iast oh39 rfl k51 rx37 ⟨by omega, by omega⟩ rz53 (fun h54 oh54 uh54 => ?_)
          refine mj_T.pl rfl rfl rfl rfl ?_
          refine jT.ldcL rfl ?_
          refine jT.ldiv rfl ⟨by decide, by decide⟩ (by decide) (fun z55 jz55 => ?_)
          refine mj_T.pl (loc' := [some (.ref p0), some (.ref p1), some (.ref (R p1 0)), some (.long (jl z55)), none, some (.int (jn x37)), some (.long (jl z50)), none]) rfl rfl rfl rfl ?_
          refine jT.iinc rfl rfl (fun z56 rz56 ez56 => ?_)
          replace ez56 := ez56 ⟨by omega, by omega⟩
          refine mj_T.eq (loc2 := [some (.ref p0), some (.ref p1), some (.ref (R p1 0)), some (.long (jl z55)), none, some (.int (jn z56)), some (.long (jl z50)), none]) ?_ rfl rfl rfl rfl
          refine mj_T.pl rfl rfl rfl rfl ?_
          exact ih44 ((2147483647 - z56 : Int).toNat) (by omega) z55 z56 (some (.long (jl z50))) h54 jz55 rz56 oh54 ((uh54 p0 1).trans f40) ((uh54 p0 2).trans f41) (by omega) rfl
      exact t80_42 _ ((0 : Nat) : Int) 0 none h35 ⟨by decide, by decide⟩ ⟨by decide, by decide⟩ oh35 ((uh35 p0 1 (Or.inr (by decide))).trans ((uh10 p0 1 (Or.inr (by decide))).trans wh8)) ((uh35 p0 2 (Or.inr (by decide))).trans wh10) (by omega) rfl
    · have c50 := of_decide_eq_false c50
      refine jT.ldcL rfl ?_
      iterate 2 refine mj_T.pl rfl rfl rfl rfl ?_
      refine jT.getK 12 8 oh10 rfl kp0 (by decide) rfl rfl rfl ((uh10 p0 1 (Or.inr (by decide))).trans wh8) ?_
      refine mj_T.pl rfl rfl rfl rfl ?_
      refine jT.isub rfl (fun z57 rz57 ez57 => ?_)
      replace ez57 := ez57 ⟨by omega, by omega⟩
      refine jT.iald oh10 rfl k1 rz57 ⟨by omega, by omega⟩ (fun z58 rz58 fz58 => ?_)
      have gz58 : z58 = z34 := fz58.trans ((congrArg (fun t : Int => jaI h10 (R p1 0) t.toNat) (show z57 = z33 by omega)).trans fz34.symm)
      refine jT.i2l rfl rz58 ?_
      have j59 : jR z58 := ⟨by omega, by omega⟩
      refine jT.lc 1 rfl rfl ?_
      refine jT.ladd rfl (fun z60 jz60 ez60 => ?_)
      replace ez60 := ez60 ⟨by omega, by omega⟩
      refine jT.ldiv rfl jz60 (by omega) (fun z61 jz61 => ?_)
      refine mj_T.pl rfl rfl rfl rfl ?_
      refine jT.putL 12 jz61 oh10 rfl kp0 (by decide) rfl rfl (fun h62 oh62 uh62 => ?_)
      refine jT.lc 0 rfl rfl ?_
      refine mj_T.pl (loc' := [some (.ref p0), some (.ref p1), some (.ref (R p1 0)), some (.long (jl ((0 : Nat) : Int))), none, none, none, none]) rfl rfl rfl rfl ?_
      refine mj_T.pl rfl rfl rfl rfl ?_
      refine mj_T.pl (loc' := [some (.ref p0), some (.ref p1), some (.ref (R p1 0)), some (.long (jl ((0 : Nat) : Int))), none, some (.int (jn 0)), none, none]) rfl rfl rfl rfl ?_
      have t80_69 : ∀ (k70 : Nat) (y63 : Int) (x64 : Int) (w65 : Option Value) (h66 : mj_H), (jR y63) → (-2147483648 ≤ x64 ∧ x64 ≤ 2147483647) → (jO K L R g n tm h66) → (jfI h66 p0 1 = z7) → (jfI h66 p0 2 = z9) → (0 ≤ x64) → (2147483647 - x64 : Int).toNat = k70 → mj_T (D + 0) mj_m30 80 [some (.ref p0), some (.ref p1), some (.ref (R p1 0)), some (.long (jl y63)), none, some (.int (jn x64)), w65, none] [] h66 (jQ K L R g n tm [] jV0) := by
        refine jInd (fun k70 ih71 => ?_)
        intro y63 x64 w65 h66 jy63 rx64 oh66 f67 f68 ix64 hm72
        refine mj_T.pl rfl rfl rfl rfl ?_
        refine mj_T.pl rfl rfl rfl rfl ?_
        refine jT.getK 12 8 oh66 rfl kp0 (by decide) rfl rfl rfl f67 ?_
        refine jT.icmp rfl rx64 rz7 (fun c86 => ?_) (fun c86 => ?_)
        · have c86 := of_decide_eq_true c86
          exact jT.ret oh66 rfl rfl rfl rfl
        · have c86 := of_decide_eq_false c86
          iterate 2 refine mj_T.pl rfl rfl rfl rfl ?_
          refine jT.iald oh66 rfl k1 rx64 ⟨by omega, by omega⟩ (fun z73 rz73 fz73 => ?_)
          refine jT.i2l rfl rz73 ?_
          have j74 : jR z73 := ⟨by omega, by omega⟩
          refine mj_T.pl rfl rfl rfl rfl ?_
          refine jT.getL 12 oh66 rfl kp0 (by decide) rfl rfl (fun z75 jz75 => ?_)
          refine jT.lmul rfl (fun z76 jz76 _ => ?_)
          refine mj_T.pl rfl rfl rfl rfl ?_
          refine jT.ladd rfl (fun z77 jz77 _ => ?_)
          refine mj_T.pl (loc' := [some (.ref p0), some (.ref p1), some (.ref (R p1 0)), some (.long (jl y63)), none, some (.int (jn x64)), some (.long (jl z77)), none]) rfl rfl rfl rfl ?_
          refine mj_T.pl rfl rfl rfl rfl ?_
          refine jT.getR 12 101 1 ty oh66 rfl kp0 (by decide) rfl rfl rfl (fun k78 => ?_)
          iterate 2 refine mj_T.pl rfl rfl rfl rfl ?_
          refine jT.ldcL rfl ?_
          refine jT.lrem rfl ⟨by decide, by decide⟩ (by decide) (fun z79 jz79 => ?_)
          refine jT.l2i rfl (fun z80 rz80 _ => ?_)
          refine jT.iast oh66 rfl k78 rx64 ⟨by omega, by omega⟩ rz80 (fun h81 oh81 uh81 => ?_)
          refine mj_T.pl rfl rfl rfl rfl ?_
          refine jT.ldcL rfl ?_
          refine jT.ldiv rfl ⟨by decide, by decide⟩ (by decide) (fun z82 jz82 => ?_)
          refine mj_T.pl (loc' := [some (.ref p0), some (.ref p1), some (.ref (R p1 0)), some (.long (jl z82)), none, some (.int (jn x64)), some (.long (jl z77)), none]) rfl rfl rfl rfl ?_
          refine jT.iinc rfl rfl (fun z83 rz83 ez83 => ?_)
          replace ez83 := ez83 ⟨by omega, by omega⟩
          refine mj_T.eq (loc2 := [some (.ref p0), some (.ref p1), some (.ref (R p1 0)), some (.long (jl z82)), none, some (.int (jn z83)), some (.long (jl z77)), none]) ?_ rfl rfl rfl rfl
          refine mj_T.pl rfl rfl rfl rfl ?_
          exact ih71 ((2147483647 - z83 : Int).toNat) (by omega) z82 z83 (some (.long (jl z77))) h81 jz82 rz83 oh81 ((uh81 p0 1).trans f67) ((uh81 p0 2).trans f68) (by omega) rfl
      exact t80_69 _ ((0 : Nat) : Int) 0 none h62 ⟨by decide, by decide⟩ ⟨by decide, by decide⟩ oh62 ((uh62 p0 1 (Or.inr (by decide))).trans ((uh10 p0 1 (Or.inr (by decide))).trans wh8)) ((uh62 p0 2 (Or.inr (by decide))).trans wh10) (by omega) rfl
-- PolyRegisters$Divisor.guess(LPolyRegisters$Wide;I)J
theorem jc_32 {D n : Nat} {tm : Int} {h g : mj_H} {K L : Nat → Nat} {R : Nat → Nat → Nat} {p0 : Nat} {p1 : Nat} {p2 : Int} (ty : jTY K L R) (hg : g.length ≤ n) (o : jO K L R g n tm h) (kp0 : K p0 = 12) (kp1 : K p1 = 18) (rp2 : -2147483648 ≤ p2 ∧ p2 ≤ 2147483647) : mj_Ok (D + 1) 32 [.ref p0, .ref p1, .int (jn p2)] h (jQp K L R g n tm h [] jVl) := by
  refine mj_Ok.of (M := mj_m32) (loc := [some (.ref p0), some (.ref p1), some (.int (jn p2)), none, none, none, none, none, none, none, none, none, none, none, none, none, none, none, none]) rfl rfl rfl ?_
  refine mj_T.pl rfl rfl rfl rfl ?_
  refine jT.getR 18 101 1 ty o rfl kp1 (by decide) rfl rfl rfl (fun k1 => ?_)
  refine mj_T.pl (loc' := [some (.ref p0), some (.ref p1), some (.int (jn p2)), some (.ref (R p1 0)), none, none, none, none, none, none, none, none, none, none, none, none, none, none, none]) rfl rfl rfl rfl ?_
  iterate 2 refine mj_T.pl rfl rfl rfl rfl ?_
  refine jT.icmp rfl rp2 ⟨by decide, by decide⟩ (fun c7 => ?_) (fun c7 => ?_)
  · have c7 := of_decide_eq_true c7
    refine jT.lc 0 rfl rfl ?_
    exact jT.retp rfl rfl rfl ⟨((0 : Nat) : Int), ⟨by decide, by decide⟩, rfl⟩
  · have c7 := of_decide_eq_false c7
    iterate 2 refine mj_T.pl rfl rfl rfl rfl ?_
    refine jT.alen 1 ty o rfl k1 (by decide) (by decide) (fun z2 ez2 (az2 : 0 ≤ z2) (bz2 : z2 ≤ 1000) => ?_)
    have rz2 : -2147483648 ≤ z2 ∧ z2 ≤ 2147483647 := ⟨by omega, by omega⟩
    refine jT.icmp rfl rp2 rz2 (fun c13 => ?_) (fun c13 => ?_)
    · have c13 := of_decide_eq_true c13
      refine jT.lc 0 rfl rfl ?_
      exact jT.retp rfl rfl rfl ⟨((0 : Nat) : Int), ⟨by decide, by decide⟩, rfl⟩
    · have c13 := of_decide_eq_false c13
      refine mj_T.pl rfl rfl rfl rfl ?_
      refine jT.getI 12 8 o rfl kp0 (by decide) rfl rfl rfl (fun z3 (az3 : 0 ≤ z3) (bz3 : z3 ≤ 60) fz3 => ?_)
      have rz3 : -2147483648 ≤ z3 ∧ z3 ≤ 2147483647 := ⟨by omega, by omega⟩
      refine mj_T.pl rfl rfl rfl rfl ?_
      refine jT.icmp rfl rz3 ⟨by decide, by decide⟩ (fun c21 => ?_) (fun c21 => ?_)
      · have c21 := of_decide_eq_true c21
        refine jT.lc 0 rfl rfl ?_
        exact jT.retp rfl rfl rfl ⟨((0 : Nat) : Int), ⟨by decide, by decide⟩, rfl⟩
      · have c21 := of_decide_eq_false c21
        refine mj_T.pl rfl rfl rfl rfl ?_
        refine jT.getK 12 8 o rfl kp0 (by decide) rfl rfl rfl fz3.symm ?_
        refine mj_T.pl rfl rfl rfl rfl ?_
        refine jT.getR 12 101 1 ty o rfl kp0 (by decide) rfl rfl rfl (fun k4 => ?_)
        have lk4 : L (R p0 0) = 60 := ty.2.2.2.1 p0 kp0
        refine jT.alen 1 ty o rfl k4 (by decide) (by decide) (fun z5 ez5 (az5 : 0 ≤ z5) (bz5 : z5 ≤ 1000) => ?_)
        have rz5 : -2147483648 ≤ z5 ∧ z5 ≤ 2147483647 := ⟨by omega, by omega⟩
        refine jT.icmp rfl rz3 rz5 (fun c33 => ?_) (fun c33 => ?_)
        · have c33 := of_decide_eq_true c33
          refine jT.lc 0 rfl rfl ?_
          exact jT.retp rfl rfl rfl ⟨((0 : Nat) : Int), ⟨by decide, by decide⟩, rfl⟩
        · have c33 := of_decide_eq_false c33
          refine mj_T.pl rfl rfl rfl rfl ?_
          refine jT.getR 12 101 1 ty o rfl kp0 (by decide) rfl rfl rfl (fun k6 => ?_)
          refine mj_T.pl rfl rfl rfl rfl ?_
          refine jT.getK 12 8 o rfl kp0 (by decide) rfl rfl rfl fz3.symm ?_
          refine mj_T.pl rfl rfl rfl rfl ?_
          refine jT.isub rfl (fun z7 rz7 ez7 => ?_)
          replace ez7 := ez7 ⟨by omega, by omega⟩
          refine jT.iald o rfl k6 rz7 ⟨by omega, by omega⟩ (fun z8 rz8 fz8 => ?_)
          refine mj_T.pl rfl rfl rfl rfl ?_
          refine jT.icmp rfl rz8 ⟨by decide, by decide⟩ (fun c48 => ?_) (fun c48 => ?_)
          · have c48 := of_decide_eq_true c48
            refine mj_T.pl rfl rfl rfl rfl ?_
            refine jT.getR 12 101 1 ty o rfl kp0 (by decide) rfl rfl rfl (fun k9 => ?_)
            refine mj_T.pl rfl rfl rfl rfl ?_
            refine jT.getK 12 8 o rfl kp0 (by decide) rfl rfl rfl fz3.symm ?_
            refine mj_T.pl rfl rfl rfl rfl ?_
            refine jT.isub rfl (fun z10 rz10 ez10 => ?_)
            replace ez10 := ez10 ⟨by omega, by omega⟩
            refine jT.iald o rfl k9 rz10 ⟨by omega, by omega⟩ (fun z11 rz11 fz11 => ?_)
            have gz11 : z11 = z8 := fz11.trans ((congrArg (fun t : Int => jaI h (R p0 0) t.toNat) (show z10 = z7 by omega)).trans fz8.symm)
            refine jT.i2l rfl rz11 ?_
            have j12 : jR z11 := ⟨by omega, by omega⟩
            refine mj_T.pl (loc' := [some (.ref p0), some (.ref p1), some (.int (jn p2)), some (.ref (R p1 0)), some (.long (jl z11)), none, none, none, none, none, none, none, none, none, none, none, none, none, none]) rfl rfl rfl rfl ?_
            refine mj_T.pl rfl rfl rfl rfl ?_
            refine jT.getK 12 8 o rfl kp0 (by decide) rfl rfl rfl fz3.symm ?_
            refine mj_T.pl rfl rfl rfl rfl ?_
            have t91_14 : ∀ (y13 : Int), (jR y13) → mj_T (D + 0) mj_m32 91 [some (.ref p0), some (.ref p1), some (.int (jn p2)), some (.ref (R p1 0)), some (.long (jl z11)), none, none, none, none, none, none, none, none, none, none, none, none, none, none] [.long (jl y13)] h (jQp K L R g n tm h [] jVl) := by
              intro y13 jy13
              refine mj_T.pl (loc' := [some (.ref p0), some (.ref p1), some (.int (jn p2)), some (.ref (R p1 0)), some (.long (jl z11)), none, some (.long (jl y13)), none, none, none, none, none, none, none, none, none, none, none, none]) rfl rfl rfl rfl ?_
              iterate 2 refine mj_T.pl rfl rfl rfl rfl ?_
              refine jT.getI 18 10 o rfl kp1 (by decide) rfl rfl rfl (fun z15 (az15 : 0 ≤ z15) (bz15 : z15 ≤ 1000) fz15 => ?_)
              have rz15 : -2147483648 ≤ z15 ∧ z15 ≤ 2147483647 := ⟨by omega, by omega⟩
              have t115_17 : ∀ (y16 : Int), (jR y16) → mj_T (D + 0) mj_m32 115 [some (.ref p0), some (.ref p1), some (.int (jn p2)), some (.ref (R p1 0)), some (.long (jl z11)), none, some (.long (jl y13)), none, none, none, none, none, none, none, none, none, none, none, none] [.long (jl y16)] h (jQp K L R g n tm h [] jVl) := by
                intro y16 jy16
                refine mj_T.pl (loc' := [some (.ref p0), some (.ref p1), some (.int (jn p2)), some (.ref (R p1 0)), some (.long (jl z11)), none, some (.long (jl y13)), none, some (.long (jl y16)), none, none, none, none, none, none, none, none, none, none]) rfl rfl rfl rfl ?_
                refine mj_T.pl rfl rfl rfl rfl ?_
                refine jT.ldcL rfl ?_
                refine jT.lmul rfl (fun z18 jz18 _ => ?_)
                iterate 3 refine mj_T.pl rfl rfl rfl rfl ?_
                refine jT.isub rfl (fun z19 rz19 ez19 => ?_)
                replace ez19 := ez19 ⟨by omega, by omega⟩
                refine jT.iald o rfl k1 rz19 ⟨by omega, by omega⟩ (fun z20 rz20 fz20 => ?_)
                refine jT.i2l rfl rz20 ?_
                have j21 : jR z20 := ⟨by omega, by omega⟩
                refine jT.ladd rfl (fun z22 jz22 _ => ?_)
                refine mj_T.pl (loc' := [some (.ref p0), some (.ref p1), some (.int (jn p2)), some (.ref (R p1 0)), some (.long (jl z11)), none, some (.long (jl y13)), none, some (.long (jl y16)), none, some (.long (jl z22)), none, none, none, none, none, none, none, none]) rfl rfl rfl rfl ?_
                refine mj_T.pl rfl rfl rfl rfl ?_
                refine jT.getK 12 8 o rfl kp0 (by decide) rfl rfl rfl fz3.symm ?_
                refine mj_T.pl rfl rfl rfl rfl ?_
                have t155_24 : ∀ (y23 : Int), (jR y23) → mj_T (D + 0) mj_m32 155 [some (.ref p0), some (.ref p1), some (.int (jn p2)), some (.ref (R p1 0)), some (.long (jl z11)), none, some (.long (jl y13)), none, some (.long (jl y16)), none, some (.long (jl z22)), none, none, none, none, none, none, none, none] [.long (jl y23)] h (jQp K L R g n tm h [] jVl) := by
                  intro y23 jy23
                  refine mj_T.pl (loc' := [some (.ref p0), some (.ref p1), some (.int (jn p2)), some (.ref (R p1 0)), some (.long (jl z11)), none, some (.long (jl y13)), none, some (.long (jl y16)), none, some (.long (jl z22)), none, some (.long (jl y23)), none, none, none, none, none, none]) rfl rfl rfl rfl ?_
                  iterate 2 refine mj_T.pl rfl rfl rfl rfl ?_
                  refine jT.ldiv rfl j12 (by omega) (fun z25 jz25 => ?_)
                  refine mj_T.pl (loc' := [some (.ref p0), some (.ref p1), some (.int (jn p2)), some (.ref (R p1 0)), some (.long (jl z11)), none, some (.long (jl y13)), none, some (.long (jl y16)), none, some (.long (jl z22)), none, some (.long (jl y23)), none, some (.long (jl z25)), none, none, none, none]) rfl rfl rfl rfl ?_
                  iterate 2 refine mj_T.pl rfl rfl rfl rfl ?_
                  refine jT.lrem rfl j12 (by omega) (fun z26 jz26 => ?_)
                  refine mj_T.pl (loc' := [some (.ref p0), some (.ref p1), some (.int (jn p2)), some (.ref (R p1 0)), some (.long (jl z11)), none, some (.long (jl y13)), none, some (.long (jl y16)), none, some (.long (jl z22)), none, some (.long (jl y23)), none, some (.long (jl z25)), none, some (.long (jl z26)), none, none]) rfl rfl rfl rfl ?_
                  refine mj_T.pl rfl rfl rfl rfl ?_
                  refine mj_T.pl (loc' := [some (.ref p0), some (.ref p1), some (.int (jn p2)), some (.ref (R p1 0)), some (.long (jl z11)), none, some (.long (jl y13)), none, some (.long (jl y16)), none, some (.long (jl z22)), none, some (.long (jl y23)), none, some (.long (jl z25)), none, some (.long (jl z26)), none, some (.int (jn 0))]) rfl rfl rfl rfl ?_
                  have t174_30 : ∀ (k31 : Nat) (y27 : Int) (y28 : Int) (x29 : Int), (jR y27) → (jR y28) → (-2147483648 ≤ x29 ∧ x29 ≤ 2147483647) → (0 ≤ x29) → (2147483647 - x29 : Int).toNat = k31 → mj_T (D + 0) mj_m32 174 [some (.ref p0), some (.ref p1), some (.int (jn p2)), some (.ref (R p1 0)), some (.long (jl z11)), none, some (.long (jl y13)), none, some (.long (jl y16)), none, some (.long (jl z22)), none, some (.long (jl y23)), none, some (.long (jl y27)), none, some (.long (jl y28)), none, some (.int (jn x29))] [] h (jQp K L R g n tm h [] jVl) := by
                    refine jInd (fun k31 ih32 => ?_)
                    intro y27 y28 x29 jy27 jy28 rx29 ix29 hm33
                    refine mj_T.pl rfl rfl rfl rfl ?_
                    refine mj_T.pl rfl rfl rfl rfl ?_
                    refine jT.icmp rfl rx29 ⟨by decide, by decide⟩ (fun c177 => ?_) (fun c177 => ?_)
                    · have c177 := of_decide_eq_true c177
                      refine mj_T.pl rfl rfl rfl rfl ?_
                      exact jT.retp rfl rfl rfl ⟨y27, jy27, rfl⟩
                    · have c177 := of_decide_eq_false c177
                      refine mj_T.pl rfl rfl rfl rfl ?_
                      refine jT.ldcL rfl ?_
                      refine mj_T.lif rfl rfl jy28 ⟨by decide, by decide⟩ (fun c185 => ?_) (fun c185 => ?_)
                      · have c185 := of_decide_eq_true c185
                        refine mj_T.pl rfl rfl rfl rfl ?_
                        exact jT.retp rfl rfl rfl ⟨y27, jy27, rfl⟩
                      · have c185 := of_decide_eq_false c185
                        refine mj_T.pl rfl rfl rfl rfl ?_
                        refine jT.ldcL rfl ?_
                        refine mj_T.lif rfl rfl jy27 ⟨by decide, by decide⟩ (fun c194 => ?_) (fun c194 => ?_)
                        · have c194 := of_decide_eq_true c194
                          refine mj_T.pl rfl rfl rfl rfl ?_
                          refine jT.lc 1 rfl rfl ?_
                          refine jT.lsub rfl (fun z34 jz34 _ => ?_)
                          refine mj_T.pl (loc' := [some (.ref p0), some (.ref p1), some (.int (jn p2)), some (.ref (R p1 0)), some (.long (jl z11)), none, some (.long (jl y13)), none, some (.long (jl y16)), none, some (.long (jl z22)), none, some (.long (jl y23)), none, some (.long (jl z34)), none, some (.long (jl y28)), none, some (.int (jn x29))]) rfl rfl rfl rfl ?_
                          iterate 2 refine mj_T.pl rfl rfl rfl rfl ?_
                          refine jT.ladd rfl (fun z35 jz35 _ => ?_)
                          refine mj_T.pl (loc' := [some (.ref p0), some (.ref p1), some (.int (jn p2)), some (.ref (R p1 0)), some (.long (jl z11)), none, some (.long (jl y13)), none, some (.long (jl y16)), none, some (.long (jl z22)), none, some (.long (jl y23)), none, some (.long (jl z34)), none, some (.long (jl z35)), none, some (.int (jn x29))]) rfl rfl rfl rfl ?_
                          refine jT.iinc rfl rfl (fun z36 rz36 ez36 => ?_)
                          replace ez36 := ez36 ⟨by omega, by omega⟩
                          refine mj_T.eq (loc2 := [some (.ref p0), some (.ref p1), some (.int (jn p2)), some (.ref (R p1 0)), some (.long (jl z11)), none, some (.long (jl y13)), none, some (.long (jl y16)), none, some (.long (jl z22)), none, some (.long (jl y23)), none, some (.long (jl z34)), none, some (.long (jl z35)), none, some (.int (jn z36))]) ?_ rfl rfl rfl rfl
                          refine mj_T.pl rfl rfl rfl rfl ?_
                          exact ih32 ((2147483647 - z36 : Int).toNat) (by omega) z34 z35 z36 jz34 jz35 rz36 (by omega) rfl
                        · have c194 := of_decide_eq_false c194
                          iterate 2 refine mj_T.pl rfl rfl rfl rfl ?_
                          refine jT.lmul rfl (fun z37 jz37 _ => ?_)
                          refine mj_T.pl rfl rfl rfl rfl ?_
                          refine jT.ldcL rfl ?_
                          refine jT.lmul rfl (fun z38 jz38 _ => ?_)
                          refine mj_T.pl rfl rfl rfl rfl ?_
                          refine jT.ladd rfl (fun z39 jz39 _ => ?_)
                          refine mj_T.lif rfl rfl jz37 jz39 (fun c212 => ?_) (fun c212 => ?_)
                          · have c212 := of_decide_eq_true c212
                            refine jT.iinc rfl rfl (fun z40 rz40 ez40 => ?_)
                            replace ez40 := ez40 ⟨by omega, by omega⟩
                            refine mj_T.eq (loc2 := [some (.ref p0), some (.ref p1), some (.int (jn p2)), some (.ref (R p1 0)), some (.long (jl z11)), none, some (.long (jl y13)), none, some (.long (jl y16)), none, some (.long (jl z22)), none, some (.long (jl y23)), none, some (.long (jl y27)), none, some (.long (jl y28)), none, some (.int (jn z40))]) ?_ rfl rfl rfl rfl
                            refine mj_T.pl rfl rfl rfl rfl ?_
                            exact ih32 ((2147483647 - z40 : Int).toNat) (by omega) y27 y28 z40 jy27 jy28 rz40 (by omega) rfl
                          · have c212 := of_decide_eq_false c212
                            refine mj_T.pl rfl rfl rfl rfl ?_
                            refine jT.lc 1 rfl rfl ?_
                            refine jT.lsub rfl (fun z41 jz41 _ => ?_)
                            refine mj_T.pl (loc' := [some (.ref p0), some (.ref p1), some (.int (jn p2)), some (.ref (R p1 0)), some (.long (jl z11)), none, some (.long (jl y13)), none, some (.long (jl y16)), none, some (.long (jl z22)), none, some (.long (jl y23)), none, some (.long (jl z41)), none, some (.long (jl y28)), none, some (.int (jn x29))]) rfl rfl rfl rfl ?_
                            iterate 2 refine mj_T.pl rfl rfl rfl rfl ?_
                            refine jT.ladd rfl (fun z42 jz42 _ => ?_)
                            refine mj_T.pl (loc' := [some (.ref p0), some (.ref p1), some (.int (jn p2)), some (.ref (R p1 0)), some (.long (jl z11)), none, some (.long (jl y13)), none, some (.long (jl y16)), none, some (.long (jl z22)), none, some (.long (jl y23)), none, some (.long (jl z41)), none, some (.long (jl z42)), none, some (.int (jn x29))]) rfl rfl rfl rfl ?_
                            refine jT.iinc rfl rfl (fun z43 rz43 ez43 => ?_)
                            replace ez43 := ez43 ⟨by omega, by omega⟩
                            refine mj_T.eq (loc2 := [some (.ref p0), some (.ref p1), some (.int (jn p2)), some (.ref (R p1 0)), some (.long (jl z11)), none, some (.long (jl y13)), none, some (.long (jl y16)), none, some (.long (jl z22)), none, some (.long (jl y23)), none, some (.long (jl z41)), none, some (.long (jl z42)), none, some (.int (jn z43))]) ?_ rfl rfl rfl rfl
                            refine mj_T.pl rfl rfl rfl rfl ?_
                            exact ih32 ((2147483647 - z43 : Int).toNat) (by omega) z41 z42 z43 jz41 jz42 rz43 (by omega) rfl
                  exact t174_30 _ z25 z26 0 jz25 jz26 ⟨by decide, by decide⟩ (by omega) rfl
                have t154_44 : mj_T (D + 0) mj_m32 154 [some (.ref p0), some (.ref p1), some (.int (jn p2)), some (.ref (R p1 0)), some (.long (jl z11)), none, some (.long (jl y13)), none, some (.long (jl y16)), none, some (.long (jl z22)), none, none, none, none, none, none, none, none] [] h (jQp K L R g n tm h [] jVl) := by
                  refine jT.lc 0 rfl rfl ?_
                  exact t155_24 ((0 : Nat) : Int) ⟨by decide, by decide⟩
                refine jT.icmp rfl rz3 ⟨by decide, by decide⟩ (fun c137 => ?_) (fun c137 => ?_)
                · have c137 := of_decide_eq_true c137
                  exact t154_44 
                · have c137 := of_decide_eq_false c137
                  iterate 2 refine mj_T.pl rfl rfl rfl rfl ?_
                  refine jT.icmp rfl rp2 ⟨by decide, by decide⟩ (fun c142 => ?_) (fun c142 => ?_)
                  · have c142 := of_decide_eq_true c142
                    exact t154_44 
                  · have c142 := of_decide_eq_false c142
                    iterate 3 refine mj_T.pl rfl rfl rfl rfl ?_
                    refine jT.isub rfl (fun z45 rz45 ez45 => ?_)
                    replace ez45 := ez45 ⟨by omega, by omega⟩
                    refine jT.iald o rfl k1 rz45 ⟨by omega, by omega⟩ (fun z46 rz46 fz46 => ?_)
                    refine jT.i2l rfl rz46 ?_
                    have j47 : jR z46 := ⟨by omega, by omega⟩
                    refine mj_T.pl rfl rfl rfl rfl ?_
                    exact t155_24 z46 j47
              have t114_48 : mj_T (D + 0) mj_m32 114 [some (.ref p0), some (.ref p1), some (.int (jn p2)), some (.ref (R p1 0)), some (.long (jl z11)), none, some (.long (jl y13)), none, none, none, none, none, none, none, none, none, none, none, none] [] h (jQp K L R g n tm h [] jVl) := by
                refine jT.lc 0 rfl rfl ?_
                exact t115_17 ((0 : Nat) : Int) ⟨by decide, by decide⟩
              refine jT.icmp rfl rp2 rz15 (fun c98 => ?_) (fun c98 => ?_)
              · have c98 := of_decide_eq_true c98
                exact t114_48 
              · have c98 := of_decide_eq_false c98
                iterate 2 refine mj_T.pl rfl rfl rfl rfl ?_
                refine jT.alen 1 ty o rfl k1 (by decide) (by decide) (fun z49 ez49 (az49 : 0 ≤ z49) (bz49 : z49 ≤ 1000) => ?_)
                have rz49 : -2147483648 ≤ z49 ∧ z49 ≤ 2147483647 := ⟨by omega, by omega⟩
                refine jT.icmp rfl rp2 rz49 (fun c104 => ?_) (fun c104 => ?_)
                · have c104 := of_decide_eq_true c104
                  exact t114_48 
                · have c104 := of_decide_eq_false c104
                  iterate 2 refine mj_T.pl rfl rfl rfl rfl ?_
                  refine jT.iald o rfl k1 rp2 ⟨by omega, by omega⟩ (fun z50 rz50 fz50 => ?_)
                  refine jT.i2l rfl rz50 ?_
                  have j51 : jR z50 := ⟨by omega, by omega⟩
                  refine mj_T.pl rfl rfl rfl rfl ?_
                  exact t115_17 z50 j51
            refine jT.icmp rfl rz3 ⟨by decide, by decide⟩ (fun c72 => ?_) (fun c72 => ?_)
            · have c72 := of_decide_eq_true c72
              refine jT.lc 0 rfl rfl ?_
              exact t91_14 ((0 : Nat) : Int) ⟨by decide, by decide⟩
            · have c72 := of_decide_eq_false c72
              refine mj_T.pl rfl rfl rfl rfl ?_
              refine jT.getR 12 101 1 ty o rfl kp0 (by decide) rfl rfl rfl (fun k52 => ?_)
              refine mj_T.pl rfl rfl rfl rfl ?_
              refine jT.getK 12 8 o rfl kp0 (by decide) rfl rfl rfl fz3.symm ?_
              refine mj_T.pl rfl rfl rfl rfl ?_
              refine jT.isub rfl (fun z53 rz53 ez53 => ?_)
              replace ez53 := ez53 ⟨by omega, by omega⟩
              refine jT.iald o rfl k52 rz53 ⟨by omega, by omega⟩ (fun z54 rz54 fz54 => ?_)
              refine jT.i2l rfl rz54 ?_
              have j55 : jR z54 := ⟨by omega, by omega⟩
              refine mj_T.pl rfl rfl rfl rfl ?_
              exact t91_14 z54 j55
          · have c48 := of_decide_eq_false c48
            refine jT.lc 0 rfl rfl ?_
            exact jT.retp rfl rfl rfl ⟨((0 : Nat) : Int), ⟨by decide, by decide⟩, rfl⟩
-- PolyRegisters$Divisor.takeAway(LPolyRegisters$Wide;IJ)Z
theorem jc_33 {D n : Nat} {tm : Int} {h g : mj_H} {K L : Nat → Nat} {R : Nat → Nat → Nat} {p0 : Nat} {p1 : Nat} {p2 : Int} {p3 : Int} (ty : jTY K L R) (hg : g.length ≤ n) (o : jO K L R g n tm h) (kp0 : K p0 = 12) (kp1 : K p1 = 18) (rp2 : -2147483648 ≤ p2 ∧ p2 ≤ 2147483647) (jp3 : jR p3) (pre0 : 0 ≤ p2 ∧ p2 ≤ 1000) : mj_Ok (D + 1) 33 [.ref p0, .ref p1, .int (jn p2), .long (jl p3)] h (jQ K L R g n tm [] (jVi 0 1)) := by
  refine mj_Ok.of (M := mj_m33) (loc := [some (.ref p0), some (.ref p1), some (.int (jn p2)), some (.long (jl p3)), none, none, none, none, none, none, none, none, none, none]) rfl rfl rfl ?_
  refine mj_T.pl rfl rfl rfl rfl ?_
  refine jT.getR 18 101 1 ty o rfl kp1 (by decide) rfl rfl rfl (fun k1 => ?_)
  refine mj_T.pl (loc' := [some (.ref p0), some (.ref p1), some (.int (jn p2)), some (.long (jl p3)), none, some (.ref (R p1 0)), none, none, none, none, none, none, none, none]) rfl rfl rfl rfl ?_
  iterate 2 refine mj_T.pl rfl rfl rfl rfl ?_
  refine jT.getI 12 8 o rfl kp0 (by decide) rfl rfl rfl (fun z2 (az2 : 0 ≤ z2) (bz2 : z2 ≤ 60) fz2 => ?_)
  have rz2 : -2147483648 ≤ z2 ∧ z2 ≤ 2147483647 := ⟨by omega, by omega⟩
  refine jT.iadd rfl (fun z3 rz3 ez3 => ?_)
  replace ez3 := ez3 ⟨by omega, by omega⟩
  refine mj_T.pl (loc' := [some (.ref p0), some (.ref p1), some (.int (jn p2)), some (.long (jl p3)), none, some (.ref (R p1 0)), some (.int (jn z3)), none, none, none, none, none, none, none]) rfl rfl rfl rfl ?_
  refine jT.lc 0 rfl rfl ?_
  refine mj_T.pl (loc' := [some (.ref p0), some (.ref p1), some (.int (jn p2)), some (.long (jl p3)), none, some (.ref (R p1 0)), some (.int (jn z3)), some (.long (jl ((0 : Nat) : Int))), none, none, none, none, none, none]) rfl rfl rfl rfl ?_
  iterate 2 refine mj_T.pl rfl rfl rfl rfl ?_
  refine jT.imax rfl rfl (Nat.le_of_ble_eq_true rfl) rp2 ⟨by decide, by decide⟩ (fun z4 ez4 => ?_)
  have rz4 : -2147483648 ≤ z4 ∧ z4 ≤ 2147483647 := ⟨by omega, by omega⟩
  refine mj_T.pl (loc' := [some (.ref p0), some (.ref p1), some (.int (jn p2)), some (.long (jl p3)), none, some (.ref (R p1 0)), some (.int (jn z3)), some (.long (jl ((0 : Nat) : Int))), none, some (.int (jn z4)), none, none, none, none]) rfl rfl rfl rfl ?_
  have t24_11 : ∀ (k12 : Nat) (y5 : Int) (x6 : Int) (w7 : Option Value) (w8 : Option Value) (h9 : mj_H), (jR y5) → (-2147483648 ≤ x6 ∧ x6 ≤ 2147483647) → (jO K L R g n tm h9) → (jfI h9 p0 1 = z2) → (z4 ≤ x6) → (2147483647 - x6 : Int).toNat = k12 → mj_T (D + 0) mj_m33 24 [some (.ref p0), some (.ref p1), some (.int (jn p2)), some (.long (jl p3)), none, some (.ref (R p1 0)), some (.int (jn z3)), some (.long (jl y5)), none, some (.int (jn x6)), w7, none, w8, none] [] h9 (jQ K L R g n tm [] (jVi 0 1)) := by
    refine jInd (fun k12 ih13 => ?_)
    intro y5 x6 w7 w8 h9 jy5 rx6 oh9 f10 ix6 hm14
    refine mj_T.pl rfl rfl rfl rfl ?_
    refine mj_T.pl rfl rfl rfl rfl ?_
    have t123_15 : mj_T (D + 0) mj_m33 123 [some (.ref p0), some (.ref p1), some (.int (jn p2)), some (.long (jl p3)), none, some (.ref (R p1 0)), some (.int (jn z3)), some (.long (jl y5)), none, some (.int (jn x6)), w7, none, w8, none] [] h9 (jQ K L R g n tm [] (jVi 0 1)) := by
      refine mj_T.pl rfl rfl rfl rfl ?_
      have t145_16 : mj_T (D + 0) mj_m33 145 [some (.ref p0), some (.ref p1), some (.int (jn p2)), some (.long (jl p3)), none, some (.ref (R p1 0)), some (.int (jn z3)), some (.long (jl y5)), none, some (.int (jn x6)), w7, none, w8, none] [] h9 (jQ K L R g n tm [] (jVi 0 1)) := by
        refine mj_T.pl rfl rfl rfl rfl ?_
        refine jT.lc 0 rfl rfl ?_
        refine mj_T.lif rfl rfl jy5 ⟨by decide, by decide⟩ (fun c148 => ?_) (fun c148 => ?_)
        · have c148 := jne1 c148
          refine mj_T.pl rfl rfl rfl rfl ?_
          exact jT.retb oh9 rfl rfl (by omega) (by omega)
        · have c148 := jne2 c148
          iterate 2 refine mj_T.pl rfl rfl rfl rfl ?_
          exact jT.retb oh9 rfl rfl (by omega) (by omega)
      refine jT.if0 rfl rz3 (fun c125 => ?_) (fun c125 => ?_)
      · have c125 := of_decide_eq_true c125
        exact t145_16 
      · have c125 := of_decide_eq_false c125
        iterate 2 refine mj_T.pl rfl rfl rfl rfl ?_
        refine jT.getI 18 10 oh9 rfl kp1 (by decide) rfl rfl rfl (fun z17 (az17 : 0 ≤ z17) (bz17 : z17 ≤ 1000) fz17 => ?_)
        have rz17 : -2147483648 ≤ z17 ∧ z17 ≤ 2147483647 := ⟨by omega, by omega⟩
        refine jT.icmp rfl rz3 rz17 (fun c134 => ?_) (fun c134 => ?_)
        · have c134 := of_decide_eq_true c134
          exact t145_16 
        · have c134 := of_decide_eq_false c134
          iterate 2 refine mj_T.pl rfl rfl rfl rfl ?_
          refine jT.alen 1 ty oh9 rfl k1 (by decide) (by decide) (fun z18 ez18 (az18 : 0 ≤ z18) (bz18 : z18 ≤ 1000) => ?_)
          have rz18 : -2147483648 ≤ z18 ∧ z18 ≤ 2147483647 := ⟨by omega, by omega⟩
          refine jT.icmp rfl rz3 rz18 (fun c142 => ?_) (fun c142 => ?_)
          · have c142 := of_decide_eq_true c142
            iterate 2 refine mj_T.pl rfl rfl rfl rfl ?_
            refine jT.iald oh9 rfl k1 rz3 ⟨by omega, by omega⟩ (fun z19 rz19 fz19 => ?_)
            refine jT.i2l rfl rz19 ?_
            have j20 : jR z19 := ⟨by omega, by omega⟩
            refine mj_T.pl rfl rfl rfl rfl ?_
            refine mj_T.lif rfl rfl j20 jy5 (fun c166 => ?_) (fun c166 => ?_)
            · have c166 := of_decide_eq_true c166
              refine mj_T.pl rfl rfl rfl rfl ?_
              refine mj_T.pl (loc' := [some (.ref p0), some (.ref p1), some (.int (jn p2)), some (.long (jl p3)), none, some (.ref (R p1 0)), some (.int (jn z3)), some (.long (jl y5)), none, some (.int (jn 0)), w7, none, w8, none]) rfl rfl rfl rfl ?_
              iterate 3 refine mj_T.pl rfl rfl rfl rfl ?_
              refine jT.iast oh9 rfl k1 rz3 ⟨by omega, by omega⟩ ⟨by decide, by decide⟩ (fun h21 oh21 uh21 => ?_)
              refine mj_T.pl rfl rfl rfl rfl ?_
              exact jT.retb oh21 rfl rfl (by omega) (by omega)
            · have c166 := of_decide_eq_false c166
              iterate 2 refine mj_T.pl rfl rfl rfl rfl ?_
              refine mj_T.pl (loc' := [some (.ref p0), some (.ref p1), some (.int (jn p2)), some (.long (jl p3)), none, some (.ref (R p1 0)), some (.int (jn z3)), some (.long (jl y5)), none, some (.int (jn 1)), w7, none, w8, none]) rfl rfl rfl rfl ?_
              iterate 3 refine mj_T.pl rfl rfl rfl rfl ?_
              refine jT.iast oh9 rfl k1 rz3 ⟨by omega, by omega⟩ ⟨by decide, by decide⟩ (fun h22 oh22 uh22 => ?_)
              refine mj_T.pl rfl rfl rfl rfl ?_
              exact jT.retb oh22 rfl rfl (by omega) (by omega)
          · have c142 := of_decide_eq_false c142
            exact t145_16 
    refine jT.icmp rfl rx6 rz3 (fun c28 => ?_) (fun c28 => ?_)
    · have c28 := of_decide_eq_true c28
      exact t123_15 
    · have c28 := of_decide_eq_false c28
      iterate 2 refine mj_T.pl rfl rfl rfl rfl ?_
      refine jT.alen 1 ty oh9 rfl k1 (by decide) (by decide) (fun z23 ez23 (az23 : 0 ≤ z23) (bz23 : z23 ≤ 1000) => ?_)
      have rz23 : -2147483648 ≤ z23 ∧ z23 ≤ 2147483647 := ⟨by omega, by omega⟩
      refine jT.icmp rfl rx6 rz23 (fun c36 => ?_) (fun c36 => ?_)
      · have c36 := of_decide_eq_true c36
        exact t123_15 
      · have c36 := of_decide_eq_false c36
        iterate 2 refine mj_T.pl rfl rfl rfl rfl ?_
        refine jT.getR 12 101 1 ty oh9 rfl kp0 (by decide) rfl rfl rfl (fun k24 => ?_)
        have lk24 : L (R p0 0) = 60 := ty.2.2.2.1 p0 kp0
        iterate 2 refine mj_T.pl rfl rfl rfl rfl ?_
        refine jT.isub rfl (fun z25 rz25 ez25 => ?_)
        replace ez25 := ez25 ⟨by omega, by omega⟩
        refine jT.iald oh9 rfl k24 rz25 ⟨by omega, by omega⟩ (fun z26 rz26 fz26 => ?_)
        refine jT.i2l rfl rz26 ?_
        have j27 : jR z26 := ⟨by omega, by omega⟩
        refine jT.lmul rfl (fun z28 jz28 _ => ?_)
        refine mj_T.pl rfl rfl rfl rfl ?_
        refine jT.ladd rfl (fun z29 jz29 _ => ?_)
        refine mj_T.pl (loc' := [some (.ref p0), some (.ref p1), some (.int (jn p2)), some (.long (jl p3)), none, some (.ref (R p1 0)), some (.int (jn z3)), some (.long (jl y5)), none, some (.int (jn x6)), some (.long (jl z29)), none, w8, none]) rfl rfl rfl rfl ?_
        iterate 2 refine mj_T.pl rfl rfl rfl rfl ?_
        refine jT.iald oh9 rfl k1 rx6 ⟨by omega, by omega⟩ (fun z30 rz30 fz30 => ?_)
        refine jT.i2l rfl rz30 ?_
        have j31 : jR z30 := ⟨by omega, by omega⟩
        refine mj_T.pl rfl rfl rfl rfl ?_
        refine jT.ldcL rfl ?_
        refine jT.lrem rfl ⟨by decide, by decide⟩ (by decide) (fun z32 jz32 => ?_)
        refine jT.lsub rfl (fun z33 jz33 _ => ?_)
        refine mj_T.pl (loc' := [some (.ref p0), some (.ref p1), some (.int (jn p2)), some (.long (jl p3)), none, some (.ref (R p1 0)), some (.int (jn z3)), some (.long (jl y5)), none, some (.int (jn x6)), some (.long (jl z29)), none, some (.long (jl z33)), none]) rfl rfl rfl rfl ?_
        refine mj_T.pl rfl rfl rfl rfl ?_
        refine jT.ldcL rfl ?_
        refine jT.ldiv rfl ⟨by decide, by decide⟩ (by decide) (fun z34 jz34 => ?_)
        refine mj_T.pl rfl rfl rfl rfl ?_
        refine jT.lc 0 rfl rfl ?_
        have t89_36 : ∀ (x35 : Int), (0 ≤ x35 ∧ x35 ≤ 1) → mj_T (D + 0) mj_m33 89 [some (.ref p0), some (.ref p1), some (.int (jn p2)), some (.long (jl p3)), none, some (.ref (R p1 0)), some (.int (jn z3)), some (.long (jl y5)), none, some (.int (jn x6)), some (.long (jl z29)), none, some (.long (jl z33)), none] [.int (jn x35), .long (jl z34)] h9 (jQ K L R g n tm [] (jVi 0 1)) := by
          intro x35 ax35
          have rx35 : -2147483648 ≤ x35 ∧ x35 ≤ 2147483647 := ⟨by omega, by omega⟩
          refine jT.i2l rfl rx35 ?_
          have j37 : jR x35 := ⟨by omega, by omega⟩
          refine jT.ladd rfl (fun z38 jz38 _ => ?_)
          refine mj_T.pl (loc' := [some (.ref p0), some (.ref p1), some (.int (jn p2)), some (.long (jl p3)), none, some (.ref (R p1 0)), some (.int (jn z3)), some (.long (jl z38)), none, some (.int (jn x6)), some (.long (jl z29)), none, some (.long (jl z33)), none]) rfl rfl rfl rfl ?_
          iterate 3 refine mj_T.pl rfl rfl rfl rfl ?_
          refine jT.lc 0 rfl rfl ?_
          refine mj_T.lif rfl rfl jz33 ⟨by decide, by decide⟩ (fun c100 => ?_) (fun c100 => ?_)
          · have c100 := of_decide_eq_true c100
            refine mj_T.pl rfl rfl rfl rfl ?_
            refine jT.l2i rfl (fun z39 rz39 _ => ?_)
            refine jT.iast oh9 rfl k1 rx6 ⟨by omega, by omega⟩ rz39 (fun h40 oh40 uh40 => ?_)
            refine jT.iinc rfl rfl (fun z41 rz41 ez41 => ?_)
            replace ez41 := ez41 ⟨by omega, by omega⟩
            refine mj_T.eq (loc2 := [some (.ref p0), some (.ref p1), some (.int (jn p2)), some (.long (jl p3)), none, some (.ref (R p1 0)), some (.int (jn z3)), some (.long (jl z38)), none, some (.int (jn z41)), some (.long (jl z29)), none, some (.long (jl z33)), none]) ?_ rfl rfl rfl rfl
            refine mj_T.pl rfl rfl rfl rfl ?_
            exact ih13 ((2147483647 - z41 : Int).toNat) (by omega) z38 z41 (some (.long (jl z29))) (some (.long (jl z33))) h40 jz38 rz41 oh40 ((uh40 p0 1).trans f10) (by omega) rfl
          · have c100 := of_decide_eq_false c100
            refine mj_T.pl rfl rfl rfl rfl ?_
            refine jT.ldcL rfl ?_
            refine jT.ladd rfl (fun z42 jz42 _ => ?_)
            refine mj_T.pl rfl rfl rfl rfl ?_
            refine jT.l2i rfl (fun z43 rz43 _ => ?_)
            refine jT.iast oh9 rfl k1 rx6 ⟨by omega, by omega⟩ rz43 (fun h44 oh44 uh44 => ?_)
            refine jT.iinc rfl rfl (fun z45 rz45 ez45 => ?_)
            replace ez45 := ez45 ⟨by omega, by omega⟩
            refine mj_T.eq (loc2 := [some (.ref p0), some (.ref p1), some (.int (jn p2)), some (.long (jl p3)), none, some (.ref (R p1 0)), some (.int (jn z3)), some (.long (jl z38)), none, some (.int (jn z45)), some (.long (jl z29)), none, some (.long (jl z33)), none]) ?_ rfl rfl rfl rfl
            refine mj_T.pl rfl rfl rfl rfl ?_
            exact ih13 ((2147483647 - z45 : Int).toNat) (by omega) z38 z45 (some (.long (jl z29))) (some (.long (jl z33))) h44 jz38 rz45 oh44 ((uh44 p0 1).trans f10) (by omega) rfl
        refine mj_T.lif rfl rfl jz33 ⟨by decide, by decide⟩ (fun c80 => ?_) (fun c80 => ?_)
        · have c80 := of_decide_eq_true c80
          refine mj_T.pl rfl rfl rfl rfl ?_
          exact t89_36 0 ⟨by omega, by omega⟩
        · have c80 := of_decide_eq_false c80
          iterate 2 refine mj_T.pl rfl rfl rfl rfl ?_
          exact t89_36 1 ⟨by omega, by omega⟩
  exact t24_11 _ ((0 : Nat) : Int) z4 none none h ⟨by decide, by decide⟩ rz4 o fz2.symm (by omega) rfl
-- PolyRegisters$Divisor.putBack(LPolyRegisters$Wide;I)V
theorem jc_34 {D n : Nat} {tm : Int} {h g : mj_H} {K L : Nat → Nat} {R : Nat → Nat → Nat} {p0 : Nat} {p1 : Nat} {p2 : Int} (ty : jTY K L R) (hg : g.length ≤ n) (o : jO K L R g n tm h) (kp0 : K p0 = 12) (kp1 : K p1 = 18) (rp2 : -2147483648 ≤ p2 ∧ p2 ≤ 2147483647) (pre0 : 0 ≤ p2 ∧ p2 ≤ 1000) : mj_Ok (D + 1) 34 [.ref p0, .ref p1, .int (jn p2)] h (jQ K L R g n tm [] jV0) := by
  refine mj_Ok.of (M := mj_m34) (loc := [some (.ref p0), some (.ref p1), some (.int (jn p2)), none, none, none, none]) rfl rfl rfl ?_
  refine mj_T.pl rfl rfl rfl rfl ?_
  refine jT.getR 18 101 1 ty o rfl kp1 (by decide) rfl rfl rfl (fun k1 => ?_)
  refine mj_T.pl (loc' := [some (.ref p0), some (.ref p1), some (.int (jn p2)), some (.ref (R p1 0)), none, none, none]) rfl rfl rfl rfl ?_
  refine mj_T.pl rfl rfl rfl rfl ?_
  refine mj_T.pl (loc' := [some (.ref p0), some (.ref p1), some (.int (jn p2)), some (.ref (R p1 0)), some (.int (jn 0)), none, none]) rfl rfl rfl rfl ?_
  iterate 2 refine mj_T.pl rfl rfl rfl rfl ?_
  refine jT.imax rfl rfl (Nat.le_of_ble_eq_true rfl) rp2 ⟨by decide, by decide⟩ (fun z2 ez2 => ?_)
  have rz2 : -2147483648 ≤ z2 ∧ z2 ≤ 2147483647 := ⟨by omega, by omega⟩
  refine mj_T.pl (loc' := [some (.ref p0), some (.ref p1), some (.int (jn p2)), some (.ref (R p1 0)), some (.int (jn 0)), some (.int (jn z2)), none]) rfl rfl rfl rfl ?_
  have t15_7 : ∀ (k8 : Nat) (x3 : Int) (x4 : Int) (w5 : Option Value) (h6 : mj_H), (0 ≤ x3 ∧ x3 ≤ 1) → (-2147483648 ≤ x4 ∧ x4 ≤ 2147483647) → (jO K L R g n tm h6) → (z2 ≤ x4) → (2147483647 - x4 : Int).toNat = k8 → mj_T (D + 0) mj_m34 15 [some (.ref p0), some (.ref p1), some (.int (jn p2)), some (.ref (R p1 0)), some (.int (jn x3)), some (.int (jn x4)), w5] [] h6 (jQ K L R g n tm [] jV0) := by
    refine jInd (fun k8 ih9 => ?_)
    intro x3 x4 w5 h6 ax3 rx4 oh6 ix4 hm10
    have rx3 : -2147483648 ≤ x3 ∧ x3 ≤ 2147483647 := ⟨by omega, by omega⟩
    refine mj_T.pl rfl rfl rfl rfl ?_
    iterate 2 refine mj_T.pl rfl rfl rfl rfl ?_
    refine jT.getI 12 8 oh6 rfl kp0 (by decide) rfl rfl rfl (fun z11 (az11 : 0 ≤ z11) (bz11 : z11 ≤ 60) fz11 => ?_)
    have rz11 : -2147483648 ≤ z11 ∧ z11 ≤ 2147483647 := ⟨by omega, by omega⟩
    refine jT.iadd rfl (fun z12 rz12 ez12 => ?_)
    replace ez12 := ez12 ⟨by omega, by omega⟩
    refine jT.icmp rfl rx4 rz12 (fun c23 => ?_) (fun c23 => ?_)
    · have c23 := of_decide_eq_true c23
      exact jT.ret oh6 rfl rfl rfl rfl
    · have c23 := of_decide_eq_false c23
      iterate 2 refine mj_T.pl rfl rfl rfl rfl ?_
      refine jT.alen 1 ty oh6 rfl k1 (by decide) (by decide) (fun z13 ez13 (az13 : 0 ≤ z13) (bz13 : z13 ≤ 1000) => ?_)
      have rz13 : -2147483648 ≤ z13 ∧ z13 ≤ 2147483647 := ⟨by omega, by omega⟩
      refine jT.icmp rfl rx4 rz13 (fun c30 => ?_) (fun c30 => ?_)
      · have c30 := of_decide_eq_true c30
        exact jT.ret oh6 rfl rfl rfl rfl
      · have c30 := of_decide_eq_false c30
        iterate 2 refine mj_T.pl rfl rfl rfl rfl ?_
        refine jT.iald oh6 rfl k1 rx4 ⟨by omega, by omega⟩ (fun z14 rz14 fz14 => ?_)
        refine mj_T.pl rfl rfl rfl rfl ?_
        refine jT.getR 12 101 1 ty oh6 rfl kp0 (by decide) rfl rfl rfl (fun k15 => ?_)
        have lk15 : L (R p0 0) = 60 := ty.2.2.2.1 p0 kp0
        iterate 2 refine mj_T.pl rfl rfl rfl rfl ?_
        refine jT.isub rfl (fun z16 rz16 ez16 => ?_)
        replace ez16 := ez16 ⟨by omega, by omega⟩
        refine jT.iald oh6 rfl k15 rz16 ⟨by omega, by omega⟩ (fun z17 rz17 fz17 => ?_)
        refine jT.iadd rfl (fun z18 rz18 ez18 => ?_)
        clear ez18
        refine mj_T.pl rfl rfl rfl rfl ?_
        refine jT.iadd rfl (fun z19 rz19 ez19 => ?_)
        clear ez19
        refine mj_T.pl (loc' := [some (.ref p0), some (.ref p1), some (.int (jn p2)), some (.ref (R p1 0)), some (.int (jn x3)), some (.int (jn x4)), some (.int (jn z19))]) rfl rfl rfl rfl ?_
        refine mj_T.pl rfl rfl rfl rfl ?_
        refine jT.ldcI rfl ?_
        have t64_21 : ∀ (x20 : Int), (0 ≤ x20 ∧ x20 ≤ 1) → mj_T (D + 0) mj_m34 64 [some (.ref p0), some (.ref p1), some (.int (jn p2)), some (.ref (R p1 0)), some (.int (jn x3)), some (.int (jn x4)), some (.int (jn z19))] [.int (jn x20)] h6 (jQ K L R g n tm [] jV0) := by
          intro x20 ax20
          have rx20 : -2147483648 ≤ x20 ∧ x20 ≤ 2147483647 := ⟨by omega, by omega⟩
          refine mj_T.pl (loc' := [some (.ref p0), some (.ref p1), some (.int (jn p2)), some (.ref (R p1 0)), some (.int (jn x20)), some (.int (jn x4)), some (.int (jn z19))]) rfl rfl rfl rfl ?_
          iterate 4 refine mj_T.pl rfl rfl rfl rfl ?_
          refine jT.ldcI rfl ?_
          refine jT.imul rfl (fun z22 rz22 ez22 => ?_)
          clear ez22
          refine jT.isub rfl (fun z23 rz23 ez23 => ?_)
          clear ez23
          refine jT.iast oh6 rfl k1 rx4 ⟨by omega, by omega⟩ rz23 (fun h24 oh24 uh24 => ?_)
          refine jT.iinc rfl rfl (fun z25 rz25 ez25 => ?_)
          replace ez25 := ez25 ⟨by omega, by omega⟩
          refine mj_T.eq (loc2 := [some (.ref p0), some (.ref p1), some (.int (jn p2)), some (.ref (R p1 0)), some (.int (jn x20)), some (.int (jn z25)), some (.int (jn z19))]) ?_ rfl rfl rfl rfl
          refine mj_T.pl rfl rfl rfl rfl ?_
          exact ih9 ((2147483647 - z25 : Int).toNat) (by omega) x20 z25 (some (.int (jn z19))) h24 ⟨by omega, by omega⟩ rz25 oh24 (by omega) rfl
        refine jT.icmp rfl rz19 ⟨by decide, by decide⟩ (fun c56 => ?_) (fun c56 => ?_)
        · have c56 := of_decide_eq_true c56
          refine mj_T.pl rfl rfl rfl rfl ?_
          exact t64_21 0 ⟨by omega, by omega⟩
        · have c56 := of_decide_eq_false c56
          iterate 2 refine mj_T.pl rfl rfl rfl rfl ?_
          exact t64_21 1 ⟨by omega, by omega⟩
  exact t15_7 _ 0 z2 none h ⟨by omega, by omega⟩ rz2 o (by omega) rfl
-- PolyRegisters$Divisor.split(LPolyRegisters$Wide;LPolyRegisters$Wide;)V
theorem jc_31 {D n : Nat} {tm : Int} {h g : mj_H} {K L : Nat → Nat} {R : Nat → Nat → Nat} {p0 : Nat} {p1 : Nat} {p2 : Nat} (ty : jTY K L R) (hg : g.length ≤ n) (o : jO K L R g n tm h) (kp0 : K p0 = 12) (kp1 : K p1 = 18) (kp2 : K p2 = 18) : mj_Ok (D + 2) 31 [.ref p0, .ref p1, .ref p2] h (jQ K L R g n tm [] jV0) := by
  refine mj_Ok.of (M := mj_m31) (loc := [some (.ref p0), some (.ref p1), some (.ref p2), none, none, none, none]) rfl rfl rfl ?_
  refine mj_T.pl rfl rfl rfl rfl ?_
  refine jT.getI 18 0 o rfl kp1 (by decide) rfl rfl rfl (fun z1 (az1 : (-2147483648) ≤ z1) (bz1 : z1 ≤ 2147483647) fz1 => ?_)
  have rz1 : -2147483648 ≤ z1 ∧ z1 ≤ 2147483647 := ⟨by omega, by omega⟩
  refine mj_T.pl rfl rfl rfl rfl ?_
  refine jT.getI 12 0 o rfl kp0 (by decide) rfl rfl rfl (fun z2 (az2 : (-2147483648) ≤ z2) (bz2 : z2 ≤ 2147483647) fz2 => ?_)
  have rz2 : -2147483648 ≤ z2 ∧ z2 ≤ 2147483647 := ⟨by omega, by omega⟩
  refine jT.imul rfl (fun z3 rz3 ez3 => ?_)
  clear ez3
  refine mj_T.pl (loc' := [some (.ref p0), some (.ref p1), some (.ref p2), some (.int (jn z3)), none, none, none]) rfl rfl rfl rfl ?_
  refine mj_T.pl rfl rfl rfl rfl ?_
  refine jT.lc 0 rfl rfl ?_
  refine jT.call rfl rfl (Nat.le_of_ble_eq_true rfl) (Nat.le_of_ble_eq_true rfl) (jrv_of o kp2 (by decide) rfl (by decide) rfl _) rfl (mj_Ok.up (Nat.add_le_add_left (by decide) D) (jc_86 (D := D) ty hg o kp2 ⟨by decide, by decide⟩)) rfl rfl (fun v4 h5 qv4 oh5 => ?_)
  obtain rfl : v4 = none := qv4
  refine mj_T.eq (pc2 := 15) (st2 := []) ?_ rfl rfl rfl rfl
  refine mj_T.pl rfl rfl rfl rfl ?_
  refine jT.if0 rfl rz3 (fun c16 => ?_) (fun c16 => ?_)
  · have c16 := jne1 c16
    iterate 2 refine mj_T.pl rfl rfl rfl rfl ?_
    refine jT.getL 12 oh5 rfl kp0 (by decide) rfl rfl (fun z6 jz6 => ?_)
    refine jT.call rfl rfl (Nat.le_of_ble_eq_true rfl) (Nat.le_of_ble_eq_true rfl) (jrv_of oh5 kp1 (by decide) rfl (by decide) rfl _) rfl (mj_Ok.up (Nat.add_le_add_left (by decide) D) (jc_96 (D := D) ty hg oh5 kp1 jz6)) rfl rfl (fun v7 h8 qv7 oh8 => ?_)
    obtain rfl : v7 = none := qv7
    refine mj_T.eq (pc2 := 28) (st2 := []) ?_ rfl rfl rfl rfl
    refine mj_T.pl rfl rfl rfl rfl ?_
    refine jT.getI 18 10 oh8 rfl kp1 (by decide) rfl rfl rfl (fun z9 (az9 : 0 ≤ z9) (bz9 : z9 ≤ 1000) fz9 => ?_)
    have rz9 : -2147483648 ≤ z9 ∧ z9 ≤ 2147483647 := ⟨by omega, by omega⟩
    refine mj_T.pl rfl rfl rfl rfl ?_
    refine jT.getI 12 8 oh8 rfl kp0 (by decide) rfl rfl rfl (fun z10 (az10 : 0 ≤ z10) (bz10 : z10 ≤ 60) fz10 => ?_)
    have rz10 : -2147483648 ≤ z10 ∧ z10 ≤ 2147483647 := ⟨by omega, by omega⟩
    refine jT.isub rfl (fun z11 rz11 ez11 => ?_)
    replace ez11 := ez11 ⟨by omega, by omega⟩
    refine mj_T.pl (loc' := [some (.ref p0), some (.ref p1), some (.ref p2), some (.int (jn z3)), some (.int (jn z11)), none, none]) rfl rfl rfl rfl ?_
    have t39_15 : ∀ (k16 : Nat) (x12 : Int) (w13 : Option Value) (h14 : mj_H), (-2147483648 ≤ x12 ∧ x12 ≤ 2147483647) → (jO K L R g n tm h14) → (x12 ≤ z11) → (x12 + 1 : Int).toNat = k16 → mj_T (D + 1) mj_m31 39 [some (.ref p0), some (.ref p1), some (.ref p2), some (.int (jn z3)), some (.int (jn x12)), w13, none] [] h14 (jQ K L R g n tm [] jV0) := by
      refine jInd (fun k16 ih17 => ?_)
      intro x12 w13 h14 rx12 oh14 ix12 hm18
      refine mj_T.pl rfl rfl rfl rfl ?_
      refine jT.if0 rfl rx12 (fun c41 => ?_) (fun c41 => ?_)
      · have c41 := of_decide_eq_true c41
        iterate 2 refine mj_T.pl rfl rfl rfl rfl ?_
        refine jT.getI 18 10 oh14 rfl kp2 (by decide) rfl rfl rfl (fun z19 (az19 : 0 ≤ z19) (bz19 : z19 ≤ 1000) fz19 => ?_)
        have rz19 : -2147483648 ≤ z19 ∧ z19 ≤ 2147483647 := ⟨by omega, by omega⟩
        have t111_21 : ∀ (x20 : Int), (-2147483648 ≤ x20 ∧ x20 ≤ 2147483647) → mj_T (D + 1) mj_m31 111 [some (.ref p0), some (.ref p1), some (.ref p2), some (.int (jn z3)), some (.int (jn x12)), w13, none] [.int (jn x20), .ref p2] h14 (jQ K L R g n tm [] jV0) := by
          intro x20 rx20
          refine jT.putI 18 0 oh14 rfl kp2 (by decide) rfl rfl rfl (Or.inl rfl) (by show (-2147483648) ≤ x20; omega) (by show x20 ≤ 2147483647; omega) (fun h22 oh22 wh22 uh22 => ?_)
          iterate 2 refine mj_T.pl rfl rfl rfl rfl ?_
          refine jT.getL 12 oh22 rfl kp0 (by decide) rfl rfl (fun z23 jz23 => ?_)
          refine jT.call rfl rfl (Nat.le_of_ble_eq_true rfl) (Nat.le_of_ble_eq_true rfl) (jrv_of oh22 kp1 (by decide) rfl (by decide) rfl _) rfl (mj_Ok.up (Nat.add_le_add_left (by decide) D) (jc_97 (D := D) ty hg oh22 kp1 jz23)) rfl rfl (fun v24 h25 qv24 oh25 => ?_)
          obtain rfl : v24 = none := qv24
          refine mj_T.eq (pc2 := 122) (st2 := []) ?_ rfl rfl rfl rfl
          exact jT.ret oh25 rfl rfl rfl rfl
        refine jT.if0 rfl rz19 (fun c103 => ?_) (fun c103 => ?_)
        · have c103 := jne1 c103
          refine mj_T.pl rfl rfl rfl rfl ?_
          exact t111_21 z3 rz3
        · have c103 := jne2 c103
          iterate 2 refine mj_T.pl rfl rfl rfl rfl ?_
          exact t111_21 0 ⟨by decide, by decide⟩
      · have c41 := of_decide_eq_false c41
        iterate 4 refine mj_T.pl rfl rfl rfl rfl ?_
        refine jT.getI 12 8 oh14 rfl kp0 (by decide) rfl rfl rfl (fun z26 (az26 : 0 ≤ z26) (bz26 : z26 ≤ 60) fz26 => ?_)
        have rz26 : -2147483648 ≤ z26 ∧ z26 ≤ 2147483647 := ⟨by omega, by omega⟩
        refine jT.iadd rfl (fun z27 rz27 ez27 => ?_)
        replace ez27 := ez27 ⟨by omega, by omega⟩
        refine jT.callp rfl rfl (Nat.le_of_ble_eq_true rfl) (Nat.le_of_ble_eq_true rfl) (jrv_of oh14 kp0 (by decide) rfl (by decide) rfl _) rfl (mj_Ok.up (Nat.add_le_add_left (by decide) D) (jc_32 (D := D) ty hg oh14 kp0 kp1 rz27)) rfl rfl (fun v28 qv28 => ?_)
        obtain ⟨z29, jz29, rfl⟩ := qv28
        refine mj_T.eq (pc2 := 56) (st2 := [.long (jl z29)]) ?_ rfl rfl rfl rfl
        refine mj_T.pl (loc' := [some (.ref p0), some (.ref p1), some (.ref p2), some (.int (jn z3)), some (.int (jn x12)), some (.long (jl z29)), none]) rfl rfl rfl rfl ?_
        iterate 4 refine mj_T.pl rfl rfl rfl rfl ?_
        refine jT.call rfl rfl (Nat.le_of_ble_eq_true rfl) (Nat.le_of_ble_eq_true rfl) (jrv_of oh14 kp0 (by decide) rfl (by decide) rfl _) rfl (mj_Ok.up (Nat.add_le_add_left (by decide) D) (jc_33 (D := D) ty hg oh14 kp0 kp1 rx12 jz29 (by omega))) rfl rfl (fun v30 h31 qv30 oh31 => ?_)
        obtain ⟨z32, az32, bz32, rfl⟩ := qv30
        have rz32 : -2147483648 ≤ z32 ∧ z32 ≤ 2147483647 := ⟨by omega, by omega⟩
        refine mj_T.eq (pc2 := 67) (st2 := [.int (jn z32)]) ?_ rfl rfl rfl rfl
        have t83_35 : ∀ (y33 : Int) (h34 : mj_H), (jR y33) → (jO K L R g n tm h34) → mj_T (D + 1) mj_m31 83 [some (.ref p0), some (.ref p1), some (.ref p2), some (.int (jn z3)), some (.int (jn x12)), some (.long (jl y33)), none] [] h34 (jQ K L R g n tm [] jV0) := by
          intro y33 h34 jy33 oh34
          iterate 3 refine mj_T.pl rfl rfl rfl rfl ?_
          refine jT.l2i rfl (fun z36 rz36 _ => ?_)
          refine jT.call rfl rfl (Nat.le_of_ble_eq_true rfl) (Nat.le_of_ble_eq_true rfl) (jrv_of oh34 kp2 (by decide) rfl (by decide) rfl _) rfl (mj_Ok.up (Nat.add_le_add_left (by decide) D) (jc_90 (D := D) ty hg oh34 kp2 rx12 rz36)) rfl rfl (fun v37 h38 qv37 oh38 => ?_)
          obtain rfl : v37 = none := qv37
          refine mj_T.eq (pc2 := 92) (st2 := []) ?_ rfl rfl rfl rfl
          refine jT.iinc rfl rfl (fun z39 rz39 ez39 => ?_)
          replace ez39 := ez39 ⟨by omega, by omega⟩
          refine mj_T.eq (loc2 := [some (.ref p0), some (.ref p1), some (.ref p2), some (.int (jn z3)), some (.int (jn z39)), some (.long (jl y33)), none]) ?_ rfl rfl rfl rfl
          refine mj_T.pl rfl rfl rfl rfl ?_
          exact ih17 ((z39 + 1 : Int).toNat) (by omega) z39 (some (.long (jl y33))) h38 rz39 oh38 (by omega) rfl
        refine jT.if0 rfl rz32 (fun c67 => ?_) (fun c67 => ?_)
        · have c67 := jne1 c67
          exact t83_35 z29 h31 jz29 oh31
        · have c67 := jne2 c67
          iterate 3 refine mj_T.pl rfl rfl rfl rfl ?_
          refine jT.call rfl rfl (Nat.le_of_ble_eq_true rfl) (Nat.le_of_ble_eq_true rfl) (jrv_of oh31 kp0 (by decide) rfl (by decide) rfl _) rfl (mj_Ok.up (Nat.add_le_add_left (by decide) D) (jc_34 (D := D) ty hg oh31 kp0 kp1 rx12 (by omega))) rfl rfl (fun v40 h41 qv40 oh41 => ?_)
          obtain rfl : v40 = none := qv40
          refine mj_T.eq (pc2 := 77) (st2 := []) ?_ rfl rfl rfl rfl
          refine mj_T.pl rfl rfl rfl rfl ?_
          refine jT.lc 1 rfl rfl ?_
          refine jT.lsub rfl (fun z42 jz42 _ => ?_)
          refine mj_T.pl (loc' := [some (.ref p0), some (.ref p1), some (.ref p2), some (.int (jn z3)), some (.int (jn x12)), some (.long (jl z42)), none]) rfl rfl rfl rfl ?_
          exact t83_35 z42 h41 jz42 oh41
    exact t39_15 _ z11 none h8 rz11 oh8 (by omega) rfl
  · have c16 := jne2 c16
    exact jT.ret oh5 rfl rfl rfl rfl
/-! The class by kinds: its methods. -/
-- PolyRegisters$Desk.times(LPolyRegisters$Poly;LPolyRegisters$Poly;LPolyRegisters$Poly;)Z
theorem jc_14 {D n : Nat} {tm : Int} {h g : mj_H} {K L : Nat → Nat} {R : Nat → Nat → Nat} {p0 : Nat} {p1 : Nat} {p2 : Nat} {p3 : Nat} (ty : jTY K L R) (hg : g.length ≤ n) (o : jO K L R g n tm h) (kp0 : K p0 = 11) (kp1 : K p1 = 13) (kp2 : K p2 = 13) (kp3 : K p3 = 13) : mj_Ok (D + 3) 14 [.ref p0, .ref p1, .ref p2, .ref p3] h (jQ K L R g n tm [] (jVi 0 1)) := by
  refine mj_Ok.of (M := mj_m14) (loc := [some (.ref p0), some (.ref p1), some (.ref p2), some (.ref p3), none, none]) rfl rfl rfl ?_
  refine mj_T.pl rfl rfl rfl rfl ?_
  refine jT.call rfl rfl (Nat.le_of_ble_eq_true rfl) (Nat.le_of_ble_eq_true rfl) (jrv_of o kp1 (by decide) rfl (by decide) rfl _) rfl (mj_Ok.up (Nat.add_le_add_left (by decide) D) (jc_39 (D := D) ty hg o kp1)) rfl rfl (fun v1 h2 qv1 oh2 => ?_)
  obtain rfl : v1 = none := qv1
  refine mj_T.eq (pc2 := 4) (st2 := []) ?_ rfl rfl rfl rfl
  refine mj_T.pl rfl rfl rfl rfl ?_
  refine jT.getI 13 6 oh2 rfl kp2 (by decide) rfl rfl rfl (fun z3 (az3 : (-1) ≤ z3) (bz3 : z3 ≤ 30) fz3 => ?_)
  have rz3 : -2147483648 ≤ z3 ∧ z3 ≤ 2147483647 := ⟨by omega, by omega⟩
  refine jT.if0 rfl rz3 (fun c8 => ?_) (fun c8 => ?_)
  · have c8 := of_decide_eq_true c8
    refine mj_T.pl rfl rfl rfl rfl ?_
    refine mj_T.pl (loc' := [some (.ref p0), some (.ref p1), some (.ref p2), some (.ref p3), some (.int (jn 0)), none]) rfl rfl rfl rfl ?_
    have t39_7 : ∀ (k8 : Nat) (x4 : Int) (w5 : Option Value) (h6 : mj_H), (-2147483648 ≤ x4 ∧ x4 ≤ 2147483647) → (jO K L R g n tm h6) → (0 ≤ x4) → (2147483647 - x4 : Int).toNat = k8 → mj_T (D + 2) mj_m14 39 [some (.ref p0), some (.ref p1), some (.ref p2), some (.ref p3), some (.int (jn x4)), w5] [] h6 (jQ K L R g n tm [] (jVi 0 1)) := by
      refine jInd (fun k8 ih9 => ?_)
      intro x4 w5 h6 rx4 oh6 ix4 hm10
      refine mj_T.pl rfl rfl rfl rfl ?_
      refine mj_T.pl rfl rfl rfl rfl ?_
      refine jT.getI 13 6 oh6 rfl kp2 (by decide) rfl rfl rfl (fun z11 (az11 : (-1) ≤ z11) (bz11 : z11 ≤ 30) fz11 => ?_)
      have rz11 : -2147483648 ≤ z11 ∧ z11 ≤ 2147483647 := ⟨by omega, by omega⟩
      refine jT.icmp rfl rx4 rz11 (fun c45 => ?_) (fun c45 => ?_)
      · have c45 := of_decide_eq_true c45
        refine mj_T.pl rfl rfl rfl rfl ?_
        refine jT.call rfl rfl (Nat.le_of_ble_eq_true rfl) (Nat.le_of_ble_eq_true rfl) (jrv_of oh6 kp1 (by decide) rfl (by decide) rfl _) rfl (mj_Ok.up (Nat.add_le_add_left (by decide) D) (jc_42 (D := D) ty hg oh6 kp1)) rfl rfl (fun v12 h13 qv12 oh13 => ?_)
        obtain rfl : v12 = none := qv12
        refine mj_T.eq (pc2 := 124) (st2 := []) ?_ rfl rfl rfl rfl
        refine mj_T.pl rfl rfl rfl rfl ?_
        exact jT.retb oh13 rfl rfl (by omega) (by omega)
      · have c45 := of_decide_eq_false c45
        refine mj_T.pl rfl rfl rfl rfl ?_
        refine mj_T.pl (loc' := [some (.ref p0), some (.ref p1), some (.ref p2), some (.ref p3), some (.int (jn x4)), some (.int (jn 0))]) rfl rfl rfl rfl ?_
        have t51_16 : ∀ (k17 : Nat) (x14 : Int) (h15 : mj_H), (-2147483648 ≤ x14 ∧ x14 ≤ 2147483647) → (jO K L R g n tm h15) → (0 ≤ x14) → (2147483647 - x14 : Int).toNat = k17 → mj_T (D + 2) mj_m14 51 [some (.ref p0), some (.ref p1), some (.ref p2), some (.ref p3), some (.int (jn x4)), some (.int (jn x14))] [] h15 (jQ K L R g n tm [] (jVi 0 1)) := by
          refine jInd (fun k17 ih18 => ?_)
          intro x14 h15 rx14 oh15 ix14 hm19
          refine mj_T.pl rfl rfl rfl rfl ?_
          refine mj_T.pl rfl rfl rfl rfl ?_
          refine jT.getI 13 6 oh15 rfl kp3 (by decide) rfl rfl rfl (fun z20 (az20 : (-1) ≤ z20) (bz20 : z20 ≤ 30) fz20 => ?_)
          have rz20 : -2147483648 ≤ z20 ∧ z20 ≤ 2147483647 := ⟨by omega, by omega⟩
          refine jT.icmp rfl rx14 rz20 (fun c57 => ?_) (fun c57 => ?_)
          · have c57 := of_decide_eq_true c57
            refine jT.iinc rfl rfl (fun z21 rz21 ez21 => ?_)
            replace ez21 := ez21 ⟨by omega, by omega⟩
            refine mj_T.eq (loc2 := [some (.ref p0), some (.ref p1), some (.ref p2), some (.ref p3), some (.int (jn z21)), some (.int (jn x14))]) ?_ rfl rfl rfl rfl
            refine mj_T.pl rfl rfl rfl rfl ?_
            exact ih9 ((2147483647 - z21 : Int).toNat) (by omega) z21 (some (.int (jn x14))) h15 rz21 oh15 (by omega) rfl
          · have c57 := of_decide_eq_false c57
            iterate 2 refine mj_T.pl rfl rfl rfl rfl ?_
            refine jT.callp rfl rfl (Nat.le_of_ble_eq_true rfl) (Nat.le_of_ble_eq_true rfl) (jrv_of oh15 kp2 (by decide) rfl (by decide) rfl _) rfl (mj_Ok.up (Nat.add_le_add_left (by decide) D) (jc_36 (D := D) ty hg oh15 kp2 rx4)) rfl rfl (fun v22 qv22 => ?_)
            obtain ⟨a23, ka23, rfl⟩ := qv22
            refine mj_T.eq (pc2 := 66) (st2 := [.ref a23]) ?_ rfl rfl rfl rfl
            refine jT.getI 18 0 oh15 rfl ka23 (by decide) rfl rfl rfl (fun z24 (az24 : (-2147483648) ≤ z24) (bz24 : z24 ≤ 2147483647) fz24 => ?_)
            have rz24 : -2147483648 ≤ z24 ∧ z24 ≤ 2147483647 := ⟨by omega, by omega⟩
            refine jT.if0 rfl rz24 (fun c69 => ?_) (fun c69 => ?_)
            · have c69 := of_decide_eq_true c69
              refine jT.iinc rfl rfl (fun z25 rz25 ez25 => ?_)
              replace ez25 := ez25 ⟨by omega, by omega⟩
              refine mj_T.eq (loc2 := [some (.ref p0), some (.ref p1), some (.ref p2), some (.ref p3), some (.int (jn z25)), some (.int (jn x14))]) ?_ rfl rfl rfl rfl
              refine mj_T.pl rfl rfl rfl rfl ?_
              exact ih9 ((2147483647 - z25 : Int).toNat) (by omega) z25 (some (.int (jn x14))) h15 rz25 oh15 (by omega) rfl
            · have c69 := of_decide_eq_false c69
              refine mj_T.pl rfl rfl rfl rfl ?_
              refine jT.getR 11 118 18 ty oh15 rfl kp0 (by decide) rfl rfl rfl (fun k26 => ?_)
              iterate 2 refine mj_T.pl rfl rfl rfl rfl ?_
              refine jT.callp rfl rfl (Nat.le_of_ble_eq_true rfl) (Nat.le_of_ble_eq_true rfl) (jrv_of oh15 kp2 (by decide) rfl (by decide) rfl _) rfl (mj_Ok.up (Nat.add_le_add_left (by decide) D) (jc_36 (D := D) ty hg oh15 kp2 rx4)) rfl rfl (fun v27 qv27 => ?_)
              obtain ⟨a28, ka28, rfl⟩ := qv27
              refine mj_T.eq (pc2 := 82) (st2 := [.ref a28, .ref (R p0 4)]) ?_ rfl rfl rfl rfl
              iterate 2 refine mj_T.pl rfl rfl rfl rfl ?_
              refine jT.callp rfl rfl (Nat.le_of_ble_eq_true rfl) (Nat.le_of_ble_eq_true rfl) (jrv_of oh15 kp3 (by decide) rfl (by decide) rfl _) rfl (mj_Ok.up (Nat.add_le_add_left (by decide) D) (jc_36 (D := D) ty hg oh15 kp3 rx14)) rfl rfl (fun v29 qv29 => ?_)
              obtain ⟨a30, ka30, rfl⟩ := qv29
              refine mj_T.eq (pc2 := 88) (st2 := [.ref a30, .ref a28, .ref (R p0 4)]) ?_ rfl rfl rfl rfl
              refine jT.call rfl rfl (Nat.le_of_ble_eq_true rfl) (Nat.le_of_ble_eq_true rfl) (jrv_of oh15 k26 (by decide) rfl (by decide) rfl _) rfl (mj_Ok.up (Nat.add_le_add_left (by decide) D) (jc_95 (D := D) ty hg oh15 k26 ka28 ka30)) rfl rfl (fun v31 h32 qv31 oh32 => ?_)
              obtain rfl : v31 = none := qv31
              refine mj_T.eq (pc2 := 91) (st2 := []) ?_ rfl rfl rfl rfl
              iterate 3 refine mj_T.pl rfl rfl rfl rfl ?_
              refine jT.iadd rfl (fun z33 rz33 ez33 => ?_)
              replace ez33 := ez33 ⟨by omega, by omega⟩
              refine jT.callp rfl rfl (Nat.le_of_ble_eq_true rfl) (Nat.le_of_ble_eq_true rfl) (jrv_of oh32 kp1 (by decide) rfl (by decide) rfl _) rfl (mj_Ok.up (Nat.add_le_add_left (by decide) D) (jc_36 (D := D) ty hg oh32 kp1 rz33)) rfl rfl (fun v34 qv34 => ?_)
              obtain ⟨a35, ka35, rfl⟩ := qv34
              refine mj_T.eq (pc2 := 100) (st2 := [.ref a35]) ?_ rfl rfl rfl rfl
              refine mj_T.pl rfl rfl rfl rfl ?_
              refine jT.getR 11 118 18 ty oh32 rfl kp0 (by decide) rfl rfl rfl (fun k36 => ?_)
              refine mj_T.pl rfl rfl rfl rfl ?_
              refine jT.call rfl rfl (Nat.le_of_ble_eq_true rfl) (Nat.le_of_ble_eq_true rfl) (jrv_of oh32 ka35 (by decide) rfl (by decide) rfl _) rfl (mj_Ok.up (Nat.add_le_add_left (by decide) D) (jc_91 (D := D) ty hg oh32 ka35 k36 ⟨by decide, by decide⟩)) rfl rfl (fun v37 h38 qv37 oh38 => ?_)
              obtain rfl : v37 = none := qv37
              refine mj_T.eq (pc2 := 108) (st2 := []) ?_ rfl rfl rfl rfl
              refine jT.iinc rfl rfl (fun z39 rz39 ez39 => ?_)
              replace ez39 := ez39 ⟨by omega, by omega⟩
              refine mj_T.eq (loc2 := [some (.ref p0), some (.ref p1), some (.ref p2), some (.ref p3), some (.int (jn x4)), some (.int (jn z39))]) ?_ rfl rfl rfl rfl
              refine mj_T.pl rfl rfl rfl rfl ?_
              exact ih18 ((2147483647 - z39 : Int).toNat) (by omega) z39 h38 rz39 oh38 (by omega) rfl
        exact t51_16 _ 0 h6 ⟨by decide, by decide⟩ oh6 (by omega) rfl
    exact t39_7 _ 0 none h2 ⟨by decide, by decide⟩ oh2 (by omega) rfl
  · have c8 := of_decide_eq_false c8
    refine mj_T.pl rfl rfl rfl rfl ?_
    refine jT.getI 13 6 oh2 rfl kp3 (by decide) rfl rfl rfl (fun z40 (az40 : (-1) ≤ z40) (bz40 : z40 ≤ 30) fz40 => ?_)
    have rz40 : -2147483648 ≤ z40 ∧ z40 ≤ 2147483647 := ⟨by omega, by omega⟩
    refine jT.if0 rfl rz40 (fun c15 => ?_) (fun c15 => ?_)
    · have c15 := of_decide_eq_true c15
      refine mj_T.pl rfl rfl rfl rfl ?_
      refine mj_T.pl (loc' := [some (.ref p0), some (.ref p1), some (.ref p2), some (.ref p3), some (.int (jn 0)), none]) rfl rfl rfl rfl ?_
      have t39_44 : ∀ (k45 : Nat) (x41 : Int) (w42 : Option Value) (h43 : mj_H), (-2147483648 ≤ x41 ∧ x41 ≤ 2147483647) → (jO K L R g n tm h43) → (0 ≤ x41) → (2147483647 - x41 : Int).toNat = k45 → mj_T (D + 2) mj_m14 39 [some (.ref p0), some (.ref p1), some (.ref p2), some (.ref p3), some (.int (jn x41)), w42] [] h43 (jQ K L R g n tm [] (jVi 0 1)) := by
        refine jInd (fun k45 ih46 => ?_)
        intro x41 w42 h43 rx41 oh43 ix41 hm47
        refine mj_T.pl rfl rfl rfl rfl ?_
        refine mj_T.pl rfl rfl rfl rfl ?_
        refine jT.getI 13 6 oh43 rfl kp2 (by decide) rfl rfl rfl (fun z48 (az48 : (-1) ≤ z48) (bz48 : z48 ≤ 30) fz48 => ?_)
        have rz48 : -2147483648 ≤ z48 ∧ z48 ≤ 2147483647 := ⟨by omega, by omega⟩
        refine jT.icmp rfl rx41 rz48 (fun c45 => ?_) (fun c45 => ?_)
        · have c45 := of_decide_eq_true c45
          refine mj_T.pl rfl rfl rfl rfl ?_
          refine jT.call rfl rfl (Nat.le_of_ble_eq_true rfl) (Nat.le_of_ble_eq_true rfl) (jrv_of oh43 kp1 (by decide) rfl (by decide) rfl _) rfl (mj_Ok.up (Nat.add_le_add_left (by decide) D) (jc_42 (D := D) ty hg oh43 kp1)) rfl rfl (fun v49 h50 qv49 oh50 => ?_)
          obtain rfl : v49 = none := qv49
          refine mj_T.eq (pc2 := 124) (st2 := []) ?_ rfl rfl rfl rfl
          refine mj_T.pl rfl rfl rfl rfl ?_
          exact jT.retb oh50 rfl rfl (by omega) (by omega)
        · have c45 := of_decide_eq_false c45
          refine mj_T.pl rfl rfl rfl rfl ?_
          refine mj_T.pl (loc' := [some (.ref p0), some (.ref p1), some (.ref p2), some (.ref p3), some (.int (jn x41)), some (.int (jn 0))]) rfl rfl rfl rfl ?_
          have t51_53 : ∀ (k54 : Nat) (x51 : Int) (h52 : mj_H), (-2147483648 ≤ x51 ∧ x51 ≤ 2147483647) → (jO K L R g n tm h52) → (0 ≤ x51) → (2147483647 - x51 : Int).toNat = k54 → mj_T (D + 2) mj_m14 51 [some (.ref p0), some (.ref p1), some (.ref p2), some (.ref p3), some (.int (jn x41)), some (.int (jn x51))] [] h52 (jQ K L R g n tm [] (jVi 0 1)) := by
            refine jInd (fun k54 ih55 => ?_)
            intro x51 h52 rx51 oh52 ix51 hm56
            refine mj_T.pl rfl rfl rfl rfl ?_
            refine mj_T.pl rfl rfl rfl rfl ?_
            refine jT.getI 13 6 oh52 rfl kp3 (by decide) rfl rfl rfl (fun z57 (az57 : (-1) ≤ z57) (bz57 : z57 ≤ 30) fz57 => ?_)
            have rz57 : -2147483648 ≤ z57 ∧ z57 ≤ 2147483647 := ⟨by omega, by omega⟩
            refine jT.icmp rfl rx51 rz57 (fun c57 => ?_) (fun c57 => ?_)
            · have c57 := of_decide_eq_true c57
              refine jT.iinc rfl rfl (fun z58 rz58 ez58 => ?_)
              replace ez58 := ez58 ⟨by omega, by omega⟩
              refine mj_T.eq (loc2 := [some (.ref p0), some (.ref p1), some (.ref p2), some (.ref p3), some (.int (jn z58)), some (.int (jn x51))]) ?_ rfl rfl rfl rfl
              refine mj_T.pl rfl rfl rfl rfl ?_
              exact ih46 ((2147483647 - z58 : Int).toNat) (by omega) z58 (some (.int (jn x51))) h52 rz58 oh52 (by omega) rfl
            · have c57 := of_decide_eq_false c57
              iterate 2 refine mj_T.pl rfl rfl rfl rfl ?_
              refine jT.callp rfl rfl (Nat.le_of_ble_eq_true rfl) (Nat.le_of_ble_eq_true rfl) (jrv_of oh52 kp2 (by decide) rfl (by decide) rfl _) rfl (mj_Ok.up (Nat.add_le_add_left (by decide) D) (jc_36 (D := D) ty hg oh52 kp2 rx41)) rfl rfl (fun v59 qv59 => ?_)
              obtain ⟨a60, ka60, rfl⟩ := qv59
              refine mj_T.eq (pc2 := 66) (st2 := [.ref a60]) ?_ rfl rfl rfl rfl
              refine jT.getI 18 0 oh52 rfl ka60 (by decide) rfl rfl rfl (fun z61 (az61 : (-2147483648) ≤ z61) (bz61 : z61 ≤ 2147483647) fz61 => ?_)
              have rz61 : -2147483648 ≤ z61 ∧ z61 ≤ 2147483647 := ⟨by omega, by omega⟩
              refine jT.if0 rfl rz61 (fun c69 => ?_) (fun c69 => ?_)
              · have c69 := of_decide_eq_true c69
                refine jT.iinc rfl rfl (fun z62 rz62 ez62 => ?_)
                replace ez62 := ez62 ⟨by omega, by omega⟩
                refine mj_T.eq (loc2 := [some (.ref p0), some (.ref p1), some (.ref p2), some (.ref p3), some (.int (jn z62)), some (.int (jn x51))]) ?_ rfl rfl rfl rfl
                refine mj_T.pl rfl rfl rfl rfl ?_
                exact ih46 ((2147483647 - z62 : Int).toNat) (by omega) z62 (some (.int (jn x51))) h52 rz62 oh52 (by omega) rfl
              · have c69 := of_decide_eq_false c69
                refine mj_T.pl rfl rfl rfl rfl ?_
                refine jT.getR 11 118 18 ty oh52 rfl kp0 (by decide) rfl rfl rfl (fun k63 => ?_)
                iterate 2 refine mj_T.pl rfl rfl rfl rfl ?_
                refine jT.callp rfl rfl (Nat.le_of_ble_eq_true rfl) (Nat.le_of_ble_eq_true rfl) (jrv_of oh52 kp2 (by decide) rfl (by decide) rfl _) rfl (mj_Ok.up (Nat.add_le_add_left (by decide) D) (jc_36 (D := D) ty hg oh52 kp2 rx41)) rfl rfl (fun v64 qv64 => ?_)
                obtain ⟨a65, ka65, rfl⟩ := qv64
                refine mj_T.eq (pc2 := 82) (st2 := [.ref a65, .ref (R p0 4)]) ?_ rfl rfl rfl rfl
                iterate 2 refine mj_T.pl rfl rfl rfl rfl ?_
                refine jT.callp rfl rfl (Nat.le_of_ble_eq_true rfl) (Nat.le_of_ble_eq_true rfl) (jrv_of oh52 kp3 (by decide) rfl (by decide) rfl _) rfl (mj_Ok.up (Nat.add_le_add_left (by decide) D) (jc_36 (D := D) ty hg oh52 kp3 rx51)) rfl rfl (fun v66 qv66 => ?_)
                obtain ⟨a67, ka67, rfl⟩ := qv66
                refine mj_T.eq (pc2 := 88) (st2 := [.ref a67, .ref a65, .ref (R p0 4)]) ?_ rfl rfl rfl rfl
                refine jT.call rfl rfl (Nat.le_of_ble_eq_true rfl) (Nat.le_of_ble_eq_true rfl) (jrv_of oh52 k63 (by decide) rfl (by decide) rfl _) rfl (mj_Ok.up (Nat.add_le_add_left (by decide) D) (jc_95 (D := D) ty hg oh52 k63 ka65 ka67)) rfl rfl (fun v68 h69 qv68 oh69 => ?_)
                obtain rfl : v68 = none := qv68
                refine mj_T.eq (pc2 := 91) (st2 := []) ?_ rfl rfl rfl rfl
                iterate 3 refine mj_T.pl rfl rfl rfl rfl ?_
                refine jT.iadd rfl (fun z70 rz70 ez70 => ?_)
                replace ez70 := ez70 ⟨by omega, by omega⟩
                refine jT.callp rfl rfl (Nat.le_of_ble_eq_true rfl) (Nat.le_of_ble_eq_true rfl) (jrv_of oh69 kp1 (by decide) rfl (by decide) rfl _) rfl (mj_Ok.up (Nat.add_le_add_left (by decide) D) (jc_36 (D := D) ty hg oh69 kp1 rz70)) rfl rfl (fun v71 qv71 => ?_)
                obtain ⟨a72, ka72, rfl⟩ := qv71
                refine mj_T.eq (pc2 := 100) (st2 := [.ref a72]) ?_ rfl rfl rfl rfl
                refine mj_T.pl rfl rfl rfl rfl ?_
                refine jT.getR 11 118 18 ty oh69 rfl kp0 (by decide) rfl rfl rfl (fun k73 => ?_)
                refine mj_T.pl rfl rfl rfl rfl ?_
                refine jT.call rfl rfl (Nat.le_of_ble_eq_true rfl) (Nat.le_of_ble_eq_true rfl) (jrv_of oh69 ka72 (by decide) rfl (by decide) rfl _) rfl (mj_Ok.up (Nat.add_le_add_left (by decide) D) (jc_91 (D := D) ty hg oh69 ka72 k73 ⟨by decide, by decide⟩)) rfl rfl (fun v74 h75 qv74 oh75 => ?_)
                obtain rfl : v74 = none := qv74
                refine mj_T.eq (pc2 := 108) (st2 := []) ?_ rfl rfl rfl rfl
                refine jT.iinc rfl rfl (fun z76 rz76 ez76 => ?_)
                replace ez76 := ez76 ⟨by omega, by omega⟩
                refine mj_T.eq (loc2 := [some (.ref p0), some (.ref p1), some (.ref p2), some (.ref p3), some (.int (jn x41)), some (.int (jn z76))]) ?_ rfl rfl rfl rfl
                refine mj_T.pl rfl rfl rfl rfl ?_
                exact ih55 ((2147483647 - z76 : Int).toNat) (by omega) z76 h75 rz76 oh75 (by omega) rfl
          exact t51_53 _ 0 h43 ⟨by decide, by decide⟩ oh43 (by omega) rfl
      exact t39_44 _ 0 none h2 ⟨by decide, by decide⟩ oh2 (by omega) rfl
    · have c15 := of_decide_eq_false c15
      refine mj_T.pl rfl rfl rfl rfl ?_
      refine jT.getK 13 6 oh2 rfl kp2 (by decide) rfl rfl rfl fz3.symm ?_
      refine mj_T.pl rfl rfl rfl rfl ?_
      refine jT.getK 13 6 oh2 rfl kp3 (by decide) rfl rfl rfl fz40.symm ?_
      refine jT.iadd rfl (fun z77 rz77 ez77 => ?_)
      replace ez77 := ez77 ⟨by omega, by omega⟩
      refine mj_T.pl rfl rfl rfl rfl ?_
      refine jT.callp rfl rfl (Nat.le_of_ble_eq_true rfl) (Nat.le_of_ble_eq_true rfl) (jrv_of oh2 kp1 (by decide) rfl (by decide) rfl _) rfl (mj_Ok.up (Nat.add_le_add_left (by decide) D) (jc_38 (D := D) ty hg oh2 kp1)) rfl rfl (fun v78 qv78 => ?_)
      obtain ⟨z79, az79, bz79, rfl⟩ := qv78
      have rz79 : -2147483648 ≤ z79 ∧ z79 ≤ 2147483647 := ⟨by omega, by omega⟩
      refine mj_T.eq (pc2 := 31) (st2 := [.int (jn z79), .int (jn z77)]) ?_ rfl rfl rfl rfl
      refine jT.icmp rfl rz77 rz79 (fun c31 => ?_) (fun c31 => ?_)
      · have c31 := of_decide_eq_true c31
        refine mj_T.pl rfl rfl rfl rfl ?_
        refine mj_T.pl (loc' := [some (.ref p0), some (.ref p1), some (.ref p2), some (.ref p3), some (.int (jn 0)), none]) rfl rfl rfl rfl ?_
        have t39_83 : ∀ (k84 : Nat) (x80 : Int) (w81 : Option Value) (h82 : mj_H), (-2147483648 ≤ x80 ∧ x80 ≤ 2147483647) → (jO K L R g n tm h82) → (0 ≤ x80) → (2147483647 - x80 : Int).toNat = k84 → mj_T (D + 2) mj_m14 39 [some (.ref p0), some (.ref p1), some (.ref p2), some (.ref p3), some (.int (jn x80)), w81] [] h82 (jQ K L R g n tm [] (jVi 0 1)) := by
          refine jInd (fun k84 ih85 => ?_)
          intro x80 w81 h82 rx80 oh82 ix80 hm86
          refine mj_T.pl rfl rfl rfl rfl ?_
          refine mj_T.pl rfl rfl rfl rfl ?_
          refine jT.getI 13 6 oh82 rfl kp2 (by decide) rfl rfl rfl (fun z87 (az87 : (-1) ≤ z87) (bz87 : z87 ≤ 30) fz87 => ?_)
          have rz87 : -2147483648 ≤ z87 ∧ z87 ≤ 2147483647 := ⟨by omega, by omega⟩
          refine jT.icmp rfl rx80 rz87 (fun c45 => ?_) (fun c45 => ?_)
          · have c45 := of_decide_eq_true c45
            refine mj_T.pl rfl rfl rfl rfl ?_
            refine jT.call rfl rfl (Nat.le_of_ble_eq_true rfl) (Nat.le_of_ble_eq_true rfl) (jrv_of oh82 kp1 (by decide) rfl (by decide) rfl _) rfl (mj_Ok.up (Nat.add_le_add_left (by decide) D) (jc_42 (D := D) ty hg oh82 kp1)) rfl rfl (fun v88 h89 qv88 oh89 => ?_)
            obtain rfl : v88 = none := qv88
            refine mj_T.eq (pc2 := 124) (st2 := []) ?_ rfl rfl rfl rfl
            refine mj_T.pl rfl rfl rfl rfl ?_
            exact jT.retb oh89 rfl rfl (by omega) (by omega)
          · have c45 := of_decide_eq_false c45
            refine mj_T.pl rfl rfl rfl rfl ?_
            refine mj_T.pl (loc' := [some (.ref p0), some (.ref p1), some (.ref p2), some (.ref p3), some (.int (jn x80)), some (.int (jn 0))]) rfl rfl rfl rfl ?_
            have t51_92 : ∀ (k93 : Nat) (x90 : Int) (h91 : mj_H), (-2147483648 ≤ x90 ∧ x90 ≤ 2147483647) → (jO K L R g n tm h91) → (0 ≤ x90) → (2147483647 - x90 : Int).toNat = k93 → mj_T (D + 2) mj_m14 51 [some (.ref p0), some (.ref p1), some (.ref p2), some (.ref p3), some (.int (jn x80)), some (.int (jn x90))] [] h91 (jQ K L R g n tm [] (jVi 0 1)) := by
              refine jInd (fun k93 ih94 => ?_)
              intro x90 h91 rx90 oh91 ix90 hm95
              refine mj_T.pl rfl rfl rfl rfl ?_
              refine mj_T.pl rfl rfl rfl rfl ?_
              refine jT.getI 13 6 oh91 rfl kp3 (by decide) rfl rfl rfl (fun z96 (az96 : (-1) ≤ z96) (bz96 : z96 ≤ 30) fz96 => ?_)
              have rz96 : -2147483648 ≤ z96 ∧ z96 ≤ 2147483647 := ⟨by omega, by omega⟩
              refine jT.icmp rfl rx90 rz96 (fun c57 => ?_) (fun c57 => ?_)
              · have c57 := of_decide_eq_true c57
                refine jT.iinc rfl rfl (fun z97 rz97 ez97 => ?_)
                replace ez97 := ez97 ⟨by omega, by omega⟩
                refine mj_T.eq (loc2 := [some (.ref p0), some (.ref p1), some (.ref p2), some (.ref p3), some (.int (jn z97)), some (.int (jn x90))]) ?_ rfl rfl rfl rfl
                refine mj_T.pl rfl rfl rfl rfl ?_
                exact ih85 ((2147483647 - z97 : Int).toNat) (by omega) z97 (some (.int (jn x90))) h91 rz97 oh91 (by omega) rfl
              · have c57 := of_decide_eq_false c57
                iterate 2 refine mj_T.pl rfl rfl rfl rfl ?_
                refine jT.callp rfl rfl (Nat.le_of_ble_eq_true rfl) (Nat.le_of_ble_eq_true rfl) (jrv_of oh91 kp2 (by decide) rfl (by decide) rfl _) rfl (mj_Ok.up (Nat.add_le_add_left (by decide) D) (jc_36 (D := D) ty hg oh91 kp2 rx80)) rfl rfl (fun v98 qv98 => ?_)
                obtain ⟨a99, ka99, rfl⟩ := qv98
                refine mj_T.eq (pc2 := 66) (st2 := [.ref a99]) ?_ rfl rfl rfl rfl
                refine jT.getI 18 0 oh91 rfl ka99 (by decide) rfl rfl rfl (fun z100 (az100 : (-2147483648) ≤ z100) (bz100 : z100 ≤ 2147483647) fz100 => ?_)
                have rz100 : -2147483648 ≤ z100 ∧ z100 ≤ 2147483647 := ⟨by omega, by omega⟩
                refine jT.if0 rfl rz100 (fun c69 => ?_) (fun c69 => ?_)
                · have c69 := of_decide_eq_true c69
                  refine jT.iinc rfl rfl (fun z101 rz101 ez101 => ?_)
                  replace ez101 := ez101 ⟨by omega, by omega⟩
                  refine mj_T.eq (loc2 := [some (.ref p0), some (.ref p1), some (.ref p2), some (.ref p3), some (.int (jn z101)), some (.int (jn x90))]) ?_ rfl rfl rfl rfl
                  refine mj_T.pl rfl rfl rfl rfl ?_
                  exact ih85 ((2147483647 - z101 : Int).toNat) (by omega) z101 (some (.int (jn x90))) h91 rz101 oh91 (by omega) rfl
                · have c69 := of_decide_eq_false c69
                  refine mj_T.pl rfl rfl rfl rfl ?_
                  refine jT.getR 11 118 18 ty oh91 rfl kp0 (by decide) rfl rfl rfl (fun k102 => ?_)
                  iterate 2 refine mj_T.pl rfl rfl rfl rfl ?_
                  refine jT.callp rfl rfl (Nat.le_of_ble_eq_true rfl) (Nat.le_of_ble_eq_true rfl) (jrv_of oh91 kp2 (by decide) rfl (by decide) rfl _) rfl (mj_Ok.up (Nat.add_le_add_left (by decide) D) (jc_36 (D := D) ty hg oh91 kp2 rx80)) rfl rfl (fun v103 qv103 => ?_)
                  obtain ⟨a104, ka104, rfl⟩ := qv103
                  refine mj_T.eq (pc2 := 82) (st2 := [.ref a104, .ref (R p0 4)]) ?_ rfl rfl rfl rfl
                  iterate 2 refine mj_T.pl rfl rfl rfl rfl ?_
                  refine jT.callp rfl rfl (Nat.le_of_ble_eq_true rfl) (Nat.le_of_ble_eq_true rfl) (jrv_of oh91 kp3 (by decide) rfl (by decide) rfl _) rfl (mj_Ok.up (Nat.add_le_add_left (by decide) D) (jc_36 (D := D) ty hg oh91 kp3 rx90)) rfl rfl (fun v105 qv105 => ?_)
                  obtain ⟨a106, ka106, rfl⟩ := qv105
                  refine mj_T.eq (pc2 := 88) (st2 := [.ref a106, .ref a104, .ref (R p0 4)]) ?_ rfl rfl rfl rfl
                  refine jT.call rfl rfl (Nat.le_of_ble_eq_true rfl) (Nat.le_of_ble_eq_true rfl) (jrv_of oh91 k102 (by decide) rfl (by decide) rfl _) rfl (mj_Ok.up (Nat.add_le_add_left (by decide) D) (jc_95 (D := D) ty hg oh91 k102 ka104 ka106)) rfl rfl (fun v107 h108 qv107 oh108 => ?_)
                  obtain rfl : v107 = none := qv107
                  refine mj_T.eq (pc2 := 91) (st2 := []) ?_ rfl rfl rfl rfl
                  iterate 3 refine mj_T.pl rfl rfl rfl rfl ?_
                  refine jT.iadd rfl (fun z109 rz109 ez109 => ?_)
                  replace ez109 := ez109 ⟨by omega, by omega⟩
                  refine jT.callp rfl rfl (Nat.le_of_ble_eq_true rfl) (Nat.le_of_ble_eq_true rfl) (jrv_of oh108 kp1 (by decide) rfl (by decide) rfl _) rfl (mj_Ok.up (Nat.add_le_add_left (by decide) D) (jc_36 (D := D) ty hg oh108 kp1 rz109)) rfl rfl (fun v110 qv110 => ?_)
                  obtain ⟨a111, ka111, rfl⟩ := qv110
                  refine mj_T.eq (pc2 := 100) (st2 := [.ref a111]) ?_ rfl rfl rfl rfl
                  refine mj_T.pl rfl rfl rfl rfl ?_
                  refine jT.getR 11 118 18 ty oh108 rfl kp0 (by decide) rfl rfl rfl (fun k112 => ?_)
                  refine mj_T.pl rfl rfl rfl rfl ?_
                  refine jT.call rfl rfl (Nat.le_of_ble_eq_true rfl) (Nat.le_of_ble_eq_true rfl) (jrv_of oh108 ka111 (by decide) rfl (by decide) rfl _) rfl (mj_Ok.up (Nat.add_le_add_left (by decide) D) (jc_91 (D := D) ty hg oh108 ka111 k112 ⟨by decide, by decide⟩)) rfl rfl (fun v113 h114 qv113 oh114 => ?_)
                  obtain rfl : v113 = none := qv113
                  refine mj_T.eq (pc2 := 108) (st2 := []) ?_ rfl rfl rfl rfl
                  refine jT.iinc rfl rfl (fun z115 rz115 ez115 => ?_)
                  replace ez115 := ez115 ⟨by omega, by omega⟩
                  refine mj_T.eq (loc2 := [some (.ref p0), some (.ref p1), some (.ref p2), some (.ref p3), some (.int (jn x80)), some (.int (jn z115))]) ?_ rfl rfl rfl rfl
                  refine mj_T.pl rfl rfl rfl rfl ?_
                  exact ih94 ((2147483647 - z115 : Int).toNat) (by omega) z115 h114 rz115 oh114 (by omega) rfl
            exact t51_92 _ 0 h82 ⟨by decide, by decide⟩ oh82 (by omega) rfl
        exact t39_83 _ 0 none h2 ⟨by decide, by decide⟩ oh2 (by omega) rfl
      · have c31 := of_decide_eq_false c31
        refine mj_T.pl rfl rfl rfl rfl ?_
        exact jT.retb oh2 rfl rfl (by omega) (by omega)
-- PolyRegisters$Desk.multiplyRows([J[J[J)Z
theorem jc_11 {D n : Nat} {tm : Int} {h g : mj_H} {K L : Nat → Nat} {R : Nat → Nat → Nat} {p0 : Nat} {p1 : Nat} {p2 : Nat} {p3 : Nat} (ty : jTY K L R) (hg : g.length ≤ n) (o : jO K L R g n tm h) (kp0 : K p0 = 11) (kp1 : K p1 = 2) (kp2 : K p2 = 2) (kp3 : K p3 = 2) : mj_Ok (D + 4) 11 [.ref p0, .ref p1, .ref p2, .ref p3] h (jQ K L R g n tm [] (jVi 0 1)) := by
  refine mj_Ok.of (M := mj_m11) (loc := [some (.ref p0), some (.ref p1), some (.ref p2), some (.ref p3)]) rfl rfl rfl ?_
  refine mj_T.pl rfl rfl rfl rfl ?_
  refine jT.getR 11 113 13 ty o rfl kp0 (by decide) rfl rfl rfl (fun k1 => ?_)
  refine mj_T.pl rfl rfl rfl rfl ?_
  refine jT.lc 1 rfl rfl ?_
  refine jT.call rfl rfl (Nat.le_of_ble_eq_true rfl) (Nat.le_of_ble_eq_true rfl) (jrv_of o k1 (by decide) rfl (by decide) rfl _) rfl (mj_Ok.up (Nat.add_le_add_left (by decide) D) (jc_40 (D := D) ty hg o k1 kp1 ⟨by decide, by decide⟩)) rfl rfl (fun v2 h3 qv2 oh3 => ?_)
  obtain rfl : v2 = none := qv2
  refine mj_T.eq (pc2 := 9) (st2 := []) ?_ rfl rfl rfl rfl
  refine mj_T.pl rfl rfl rfl rfl ?_
  refine jT.getR 11 113 13 ty oh3 rfl kp0 (by decide) rfl rfl rfl (fun k4 => ?_)
  refine mj_T.pl rfl rfl rfl rfl ?_
  refine jT.lc 1 rfl rfl ?_
  refine jT.call rfl rfl (Nat.le_of_ble_eq_true rfl) (Nat.le_of_ble_eq_true rfl) (jrv_of oh3 k4 (by decide) rfl (by decide) rfl _) rfl (mj_Ok.up (Nat.add_le_add_left (by decide) D) (jc_40 (D := D) ty hg oh3 k4 kp2 ⟨by decide, by decide⟩)) rfl rfl (fun v5 h6 qv5 oh6 => ?_)
  obtain rfl : v5 = none := qv5
  refine mj_T.eq (pc2 := 18) (st2 := []) ?_ rfl rfl rfl rfl
  iterate 2 refine mj_T.pl rfl rfl rfl rfl ?_
  refine jT.getR 11 113 13 ty oh6 rfl kp0 (by decide) rfl rfl rfl (fun k7 => ?_)
  refine mj_T.pl rfl rfl rfl rfl ?_
  refine jT.getR 11 113 13 ty oh6 rfl kp0 (by decide) rfl rfl rfl (fun k8 => ?_)
  refine mj_T.pl rfl rfl rfl rfl ?_
  refine jT.getR 11 113 13 ty oh6 rfl kp0 (by decide) rfl rfl rfl (fun k9 => ?_)
  refine jT.call rfl rfl (Nat.le_of_ble_eq_true rfl) (Nat.le_of_ble_eq_true rfl) (jrv_of oh6 kp0 (by decide) rfl (by decide) rfl _) rfl (mj_Ok.up (Nat.add_le_add_left (by decide) D) (jc_14 (D := D) ty hg oh6 kp0 k7 k8 k9)) rfl rfl (fun v10 h11 qv10 oh11 => ?_)
  obtain ⟨z12, az12, bz12, rfl⟩ := qv10
  have rz12 : -2147483648 ≤ z12 ∧ z12 ≤ 2147483647 := ⟨by omega, by omega⟩
  refine mj_T.eq (pc2 := 34) (st2 := [.int (jn z12)]) ?_ rfl rfl rfl rfl
  refine jT.if0 rfl rz12 (fun c34 => ?_) (fun c34 => ?_)
  · have c34 := of_decide_eq_true c34
    refine mj_T.pl rfl rfl rfl rfl ?_
    exact jT.retb oh11 rfl rfl (by omega) (by omega)
  · have c34 := of_decide_eq_false c34
    refine mj_T.pl rfl rfl rfl rfl ?_
    refine jT.getR 11 113 13 ty oh11 rfl kp0 (by decide) rfl rfl rfl (fun k13 => ?_)
    refine mj_T.pl rfl rfl rfl rfl ?_
    refine jT.call rfl rfl (Nat.le_of_ble_eq_true rfl) (Nat.le_of_ble_eq_true rfl) (jrv_of oh11 k13 (by decide) rfl (by decide) rfl _) rfl (mj_Ok.up (Nat.add_le_add_left (by decide) D) (jc_44 (D := D) ty hg oh11 k13 kp3)) rfl rfl (fun v14 h15 qv14 oh15 => ?_)
    obtain ⟨z16, az16, bz16, rfl⟩ := qv14
    have rz16 : -2147483648 ≤ z16 ∧ z16 ≤ 2147483647 := ⟨by omega, by omega⟩
    refine mj_T.eq (pc2 := 45) (st2 := [.int (jn z16)]) ?_ rfl rfl rfl rfl
    refine jT.if0 rfl rz16 (fun c45 => ?_) (fun c45 => ?_)
    · have c45 := of_decide_eq_true c45
      refine mj_T.pl rfl rfl rfl rfl ?_
      exact jT.retb oh15 rfl rfl (by omega) (by omega)
    · have c45 := of_decide_eq_false c45
      iterate 2 refine mj_T.pl rfl rfl rfl rfl ?_
      exact jT.retb oh15 rfl rfl (by omega) (by omega)
-- PolyRegisters$Desk.raise([JI[J)Z
theorem jc_12 {D n : Nat} {tm : Int} {h g : mj_H} {K L : Nat → Nat} {R : Nat → Nat → Nat} {p0 : Nat} {p1 : Nat} {p2 : Int} {p3 : Nat} (ty : jTY K L R) (hg : g.length ≤ n) (o : jO K L R g n tm h) (kp0 : K p0 = 11) (kp1 : K p1 = 2) (rp2 : -2147483648 ≤ p2 ∧ p2 ≤ 2147483647) (kp3 : K p3 = 2) : mj_Ok (D + 4) 12 [.ref p0, .ref p1, .int (jn p2), .ref p3] h (jQ K L R g n tm [] (jVi 0 1)) := by
  refine mj_Ok.of (M := mj_m12) (loc := [some (.ref p0), some (.ref p1), some (.int (jn p2)), some (.ref p3), none]) rfl rfl rfl ?_
  refine mj_T.pl rfl rfl rfl rfl ?_
  refine jT.getR 11 113 13 ty o rfl kp0 (by decide) rfl rfl rfl (fun k1 => ?_)
  refine mj_T.pl rfl rfl rfl rfl ?_
  refine jT.lc 1 rfl rfl ?_
  refine jT.call rfl rfl (Nat.le_of_ble_eq_true rfl) (Nat.le_of_ble_eq_true rfl) (jrv_of o k1 (by decide) rfl (by decide) rfl _) rfl (mj_Ok.up (Nat.add_le_add_left (by decide) D) (jc_40 (D := D) ty hg o k1 kp1 ⟨by decide, by decide⟩)) rfl rfl (fun v2 h3 qv2 oh3 => ?_)
  obtain rfl : v2 = none := qv2
  refine mj_T.eq (pc2 := 9) (st2 := []) ?_ rfl rfl rfl rfl
  refine mj_T.pl rfl rfl rfl rfl ?_
  refine jT.getR 11 113 13 ty oh3 rfl kp0 (by decide) rfl rfl rfl (fun k4 => ?_)
  refine jT.call rfl rfl (Nat.le_of_ble_eq_true rfl) (Nat.le_of_ble_eq_true rfl) (jrv_of oh3 k4 (by decide) rfl (by decide) rfl _) rfl (mj_Ok.up (Nat.add_le_add_left (by decide) D) (jc_39 (D := D) ty hg oh3 k4)) rfl rfl (fun v5 h6 qv5 oh6 => ?_)
  obtain rfl : v5 = none := qv5
  refine mj_T.eq (pc2 := 16) (st2 := []) ?_ rfl rfl rfl rfl
  refine mj_T.pl rfl rfl rfl rfl ?_
  refine jT.getR 11 113 13 ty oh6 rfl kp0 (by decide) rfl rfl rfl (fun k7 => ?_)
  refine mj_T.pl rfl rfl rfl rfl ?_
  refine jT.callp rfl rfl (Nat.le_of_ble_eq_true rfl) (Nat.le_of_ble_eq_true rfl) (jrv_of oh6 k7 (by decide) rfl (by decide) rfl _) rfl (mj_Ok.up (Nat.add_le_add_left (by decide) D) (jc_36 (D := D) ty hg oh6 k7 ⟨by decide, by decide⟩)) rfl rfl (fun v8 qv8 => ?_)
  obtain ⟨a9, ka9, rfl⟩ := qv8
  refine mj_T.eq (pc2 := 24) (st2 := [.ref a9]) ?_ rfl rfl rfl rfl
  refine jT.lc 1 rfl rfl ?_
  refine jT.call rfl rfl (Nat.le_of_ble_eq_true rfl) (Nat.le_of_ble_eq_true rfl) (jrv_of oh6 ka9 (by decide) rfl (by decide) rfl _) rfl (mj_Ok.up (Nat.add_le_add_left (by decide) D) (jc_86 (D := D) ty hg oh6 ka9 ⟨by decide, by decide⟩)) rfl rfl (fun v10 h11 qv10 oh11 => ?_)
  obtain rfl : v10 = none := qv10
  refine mj_T.eq (pc2 := 28) (st2 := []) ?_ rfl rfl rfl rfl
  refine mj_T.pl rfl rfl rfl rfl ?_
  refine jT.getR 11 113 13 ty oh11 rfl kp0 (by decide) rfl rfl rfl (fun k12 => ?_)
  refine jT.call rfl rfl (Nat.le_of_ble_eq_true rfl) (Nat.le_of_ble_eq_true rfl) (jrv_of oh11 k12 (by decide) rfl (by decide) rfl _) rfl (mj_Ok.up (Nat.add_le_add_left (by decide) D) (jc_42 (D := D) ty hg oh11 k12)) rfl rfl (fun v13 h14 qv13 oh14 => ?_)
  obtain rfl : v13 = none := qv13
  refine mj_T.eq (pc2 := 35) (st2 := []) ?_ rfl rfl rfl rfl
  refine mj_T.pl rfl rfl rfl rfl ?_
  refine mj_T.pl (loc' := [some (.ref p0), some (.ref p1), some (.int (jn p2)), some (.ref p3), some (.int (jn 0))]) rfl rfl rfl rfl ?_
  have t38_17 : ∀ (k18 : Nat) (x15 : Int) (h16 : mj_H), (-2147483648 ≤ x15 ∧ x15 ≤ 2147483647) → (jO K L R g n tm h16) → (0 ≤ x15) → (2147483647 - x15 : Int).toNat = k18 → mj_T (D + 3) mj_m12 38 [some (.ref p0), some (.ref p1), some (.int (jn p2)), some (.ref p3), some (.int (jn x15))] [] h16 (jQ K L R g n tm [] (jVi 0 1)) := by
    refine jInd (fun k18 ih19 => ?_)
    intro x15 h16 rx15 oh16 ix15 hm20
    refine mj_T.pl rfl rfl rfl rfl ?_
    refine mj_T.pl rfl rfl rfl rfl ?_
    refine jT.icmp rfl rx15 rp2 (fun c41 => ?_) (fun c41 => ?_)
    · have c41 := of_decide_eq_true c41
      refine mj_T.pl rfl rfl rfl rfl ?_
      refine jT.getR 11 113 13 ty oh16 rfl kp0 (by decide) rfl rfl rfl (fun k21 => ?_)
      refine mj_T.pl rfl rfl rfl rfl ?_
      refine jT.call rfl rfl (Nat.le_of_ble_eq_true rfl) (Nat.le_of_ble_eq_true rfl) (jrv_of oh16 k21 (by decide) rfl (by decide) rfl _) rfl (mj_Ok.up (Nat.add_le_add_left (by decide) D) (jc_44 (D := D) ty hg oh16 k21 kp3)) rfl rfl (fun v22 h23 qv22 oh23 => ?_)
      obtain ⟨z24, az24, bz24, rfl⟩ := qv22
      have rz24 : -2147483648 ≤ z24 ∧ z24 ≤ 2147483647 := ⟨by omega, by omega⟩
      refine mj_T.eq (pc2 := 90) (st2 := [.int (jn z24)]) ?_ rfl rfl rfl rfl
      exact jT.retb oh23 rfl rfl (by omega) (by omega)
    · have c41 := of_decide_eq_false c41
      iterate 2 refine mj_T.pl rfl rfl rfl rfl ?_
      refine jT.getR 11 113 13 ty oh16 rfl kp0 (by decide) rfl rfl rfl (fun k25 => ?_)
      refine mj_T.pl rfl rfl rfl rfl ?_
      refine jT.getR 11 113 13 ty oh16 rfl kp0 (by decide) rfl rfl rfl (fun k26 => ?_)
      refine mj_T.pl rfl rfl rfl rfl ?_
      refine jT.getR 11 113 13 ty oh16 rfl kp0 (by decide) rfl rfl rfl (fun k27 => ?_)
      refine jT.call rfl rfl (Nat.le_of_ble_eq_true rfl) (Nat.le_of_ble_eq_true rfl) (jrv_of oh16 kp0 (by decide) rfl (by decide) rfl _) rfl (mj_Ok.up (Nat.add_le_add_left (by decide) D) (jc_14 (D := D) ty hg oh16 kp0 k25 k26 k27)) rfl rfl (fun v28 h29 qv28 oh29 => ?_)
      obtain ⟨z30, az30, bz30, rfl⟩ := qv28
      have rz30 : -2147483648 ≤ z30 ∧ z30 ≤ 2147483647 := ⟨by omega, by omega⟩
      refine mj_T.eq (pc2 := 60) (st2 := [.int (jn z30)]) ?_ rfl rfl rfl rfl
      refine jT.if0 rfl rz30 (fun c60 => ?_) (fun c60 => ?_)
      · have c60 := jne1 c60
        refine mj_T.pl rfl rfl rfl rfl ?_
        refine jT.getR 11 113 13 ty oh29 rfl kp0 (by decide) rfl rfl rfl (fun k31 => ?_)
        refine mj_T.pl rfl rfl rfl rfl ?_
        refine jT.getR 11 113 13 ty oh29 rfl kp0 (by decide) rfl rfl rfl (fun k32 => ?_)
        refine jT.call rfl rfl (Nat.le_of_ble_eq_true rfl) (Nat.le_of_ble_eq_true rfl) (jrv_of oh29 k31 (by decide) rfl (by decide) rfl _) rfl (mj_Ok.up (Nat.add_le_add_left (by decide) D) (jc_41 (D := D) ty hg oh29 k31 k32)) rfl rfl (fun v33 h34 qv33 oh34 => ?_)
        obtain rfl : v33 = none := qv33
        refine mj_T.eq (pc2 := 76) (st2 := []) ?_ rfl rfl rfl rfl
        refine jT.iinc rfl rfl (fun z35 rz35 ez35 => ?_)
        replace ez35 := ez35 ⟨by omega, by omega⟩
        refine mj_T.eq (loc2 := [some (.ref p0), some (.ref p1), some (.int (jn p2)), some (.ref p3), some (.int (jn z35))]) ?_ rfl rfl rfl rfl
        refine mj_T.pl rfl rfl rfl rfl ?_
        exact ih19 ((2147483647 - z35 : Int).toNat) (by omega) z35 h34 rz35 oh34 (by omega) rfl
      · have c60 := jne2 c60
        refine mj_T.pl rfl rfl rfl rfl ?_
        exact jT.retb oh29 rfl rfl (by omega) (by omega)
  exact t38_17 _ 0 h14 ⟨by decide, by decide⟩ oh14 (by omega) rfl
-- PolyRegisters$Desk.putIn([J[J[J)Z
theorem jc_13 {D n : Nat} {tm : Int} {h g : mj_H} {K L : Nat → Nat} {R : Nat → Nat → Nat} {p0 : Nat} {p1 : Nat} {p2 : Nat} {p3 : Nat} (ty : jTY K L R) (hg : g.length ≤ n) (o : jO K L R g n tm h) (kp0 : K p0 = 11) (kp1 : K p1 = 2) (kp2 : K p2 = 2) (kp3 : K p3 = 2) : mj_Ok (D + 4) 13 [.ref p0, .ref p1, .ref p2, .ref p3] h (jQ K L R g n tm [] (jVi 0 1)) := by
  refine mj_Ok.of (M := mj_m13) (loc := [some (.ref p0), some (.ref p1), some (.ref p2), some (.ref p3), none]) rfl rfl rfl ?_
  refine mj_T.pl rfl rfl rfl rfl ?_
  refine jT.getR 11 113 13 ty o rfl kp0 (by decide) rfl rfl rfl (fun k1 => ?_)
  refine mj_T.pl rfl rfl rfl rfl ?_
  refine jT.lc 1 rfl rfl ?_
  refine jT.call rfl rfl (Nat.le_of_ble_eq_true rfl) (Nat.le_of_ble_eq_true rfl) (jrv_of o k1 (by decide) rfl (by decide) rfl _) rfl (mj_Ok.up (Nat.add_le_add_left (by decide) D) (jc_40 (D := D) ty hg o k1 kp2 ⟨by decide, by decide⟩)) rfl rfl (fun v2 h3 qv2 oh3 => ?_)
  obtain rfl : v2 = none := qv2
  refine mj_T.eq (pc2 := 9) (st2 := []) ?_ rfl rfl rfl rfl
  refine mj_T.pl rfl rfl rfl rfl ?_
  refine jT.getR 11 113 13 ty oh3 rfl kp0 (by decide) rfl rfl rfl (fun k4 => ?_)
  refine jT.call rfl rfl (Nat.le_of_ble_eq_true rfl) (Nat.le_of_ble_eq_true rfl) (jrv_of oh3 k4 (by decide) rfl (by decide) rfl _) rfl (mj_Ok.up (Nat.add_le_add_left (by decide) D) (jc_39 (D := D) ty hg oh3 k4)) rfl rfl (fun v5 h6 qv5 oh6 => ?_)
  obtain rfl : v5 = none := qv5
  refine mj_T.eq (pc2 := 16) (st2 := []) ?_ rfl rfl rfl rfl
  refine mj_T.pl rfl rfl rfl rfl ?_
  refine jT.alen 2 ty oh6 rfl kp1 (by decide) (by decide) (fun z7 ez7 (az7 : 13 ≤ z7) (bz7 : z7 ≤ 13) => ?_)
  have rz7 : -2147483648 ≤ z7 ∧ z7 ≤ 2147483647 := ⟨by omega, by omega⟩
  refine mj_T.pl rfl rfl rfl rfl ?_
  refine jT.isub rfl (fun z8 rz8 ez8 => ?_)
  replace ez8 := ez8 ⟨by omega, by omega⟩
  refine mj_T.pl (loc' := [some (.ref p0), some (.ref p1), some (.ref p2), some (.ref p3), some (.int (jn z8))]) rfl rfl rfl rfl ?_
  have t22_11 : ∀ (k12 : Nat) (x9 : Int) (h10 : mj_H), (-2147483648 ≤ x9 ∧ x9 ≤ 2147483647) → (jO K L R g n tm h10) → (x9 ≤ z8) → (x9 + 1 : Int).toNat = k12 → mj_T (D + 3) mj_m13 22 [some (.ref p0), some (.ref p1), some (.ref p2), some (.ref p3), some (.int (jn x9))] [] h10 (jQ K L R g n tm [] (jVi 0 1)) := by
    refine jInd (fun k12 ih13 => ?_)
    intro x9 h10 rx9 oh10 ix9 hm14
    refine mj_T.pl rfl rfl rfl rfl ?_
    refine jT.if0 rfl rx9 (fun c24 => ?_) (fun c24 => ?_)
    · have c24 := of_decide_eq_true c24
      refine mj_T.pl rfl rfl rfl rfl ?_
      refine jT.getR 11 113 13 ty oh10 rfl kp0 (by decide) rfl rfl rfl (fun k15 => ?_)
      refine mj_T.pl rfl rfl rfl rfl ?_
      refine jT.call rfl rfl (Nat.le_of_ble_eq_true rfl) (Nat.le_of_ble_eq_true rfl) (jrv_of oh10 k15 (by decide) rfl (by decide) rfl _) rfl (mj_Ok.up (Nat.add_le_add_left (by decide) D) (jc_44 (D := D) ty hg oh10 k15 kp3)) rfl rfl (fun v16 h17 qv16 oh17 => ?_)
      obtain ⟨z18, az18, bz18, rfl⟩ := qv16
      have rz18 : -2147483648 ≤ z18 ∧ z18 ≤ 2147483647 := ⟨by omega, by omega⟩
      refine mj_T.eq (pc2 := 100) (st2 := [.int (jn z18)]) ?_ rfl rfl rfl rfl
      exact jT.retb oh17 rfl rfl (by omega) (by omega)
    · have c24 := of_decide_eq_false c24
      iterate 2 refine mj_T.pl rfl rfl rfl rfl ?_
      refine jT.getR 11 113 13 ty oh10 rfl kp0 (by decide) rfl rfl rfl (fun k19 => ?_)
      refine mj_T.pl rfl rfl rfl rfl ?_
      refine jT.getR 11 113 13 ty oh10 rfl kp0 (by decide) rfl rfl rfl (fun k20 => ?_)
      refine mj_T.pl rfl rfl rfl rfl ?_
      refine jT.getR 11 113 13 ty oh10 rfl kp0 (by decide) rfl rfl rfl (fun k21 => ?_)
      refine jT.call rfl rfl (Nat.le_of_ble_eq_true rfl) (Nat.le_of_ble_eq_true rfl) (jrv_of oh10 kp0 (by decide) rfl (by decide) rfl _) rfl (mj_Ok.up (Nat.add_le_add_left (by decide) D) (jc_14 (D := D) ty hg oh10 kp0 k19 k20 k21)) rfl rfl (fun v22 h23 qv22 oh23 => ?_)
      obtain ⟨z24, az24, bz24, rfl⟩ := qv22
      have rz24 : -2147483648 ≤ z24 ∧ z24 ≤ 2147483647 := ⟨by omega, by omega⟩
      refine mj_T.eq (pc2 := 43) (st2 := [.int (jn z24)]) ?_ rfl rfl rfl rfl
      refine jT.if0 rfl rz24 (fun c43 => ?_) (fun c43 => ?_)
      · have c43 := jne1 c43
        refine mj_T.pl rfl rfl rfl rfl ?_
        refine jT.getR 11 118 18 ty oh23 rfl kp0 (by decide) rfl rfl rfl (fun k25 => ?_)
        iterate 2 refine mj_T.pl rfl rfl rfl rfl ?_
        refine jT.lald oh23 rfl kp1 rx9 ⟨by omega, by omega⟩ (fun z26 jz26 => ?_)
        refine jT.call rfl rfl (Nat.le_of_ble_eq_true rfl) (Nat.le_of_ble_eq_true rfl) (jrv_of oh23 k25 (by decide) rfl (by decide) rfl _) rfl (mj_Ok.up (Nat.add_le_add_left (by decide) D) (jc_86 (D := D) ty hg oh23 k25 jz26)) rfl rfl (fun v27 h28 qv27 oh28 => ?_)
        obtain rfl : v27 = none := qv27
        refine mj_T.eq (pc2 := 59) (st2 := []) ?_ rfl rfl rfl rfl
        refine mj_T.pl rfl rfl rfl rfl ?_
        refine jT.getR 11 113 13 ty oh28 rfl kp0 (by decide) rfl rfl rfl (fun k29 => ?_)
        refine mj_T.pl rfl rfl rfl rfl ?_
        refine jT.callp rfl rfl (Nat.le_of_ble_eq_true rfl) (Nat.le_of_ble_eq_true rfl) (jrv_of oh28 k29 (by decide) rfl (by decide) rfl _) rfl (mj_Ok.up (Nat.add_le_add_left (by decide) D) (jc_36 (D := D) ty hg oh28 k29 ⟨by decide, by decide⟩)) rfl rfl (fun v30 qv30 => ?_)
        obtain ⟨a31, ka31, rfl⟩ := qv30
        refine mj_T.eq (pc2 := 67) (st2 := [.ref a31]) ?_ rfl rfl rfl rfl
        refine mj_T.pl rfl rfl rfl rfl ?_
        refine jT.getR 11 118 18 ty oh28 rfl kp0 (by decide) rfl rfl rfl (fun k32 => ?_)
        refine mj_T.pl rfl rfl rfl rfl ?_
        refine jT.call rfl rfl (Nat.le_of_ble_eq_true rfl) (Nat.le_of_ble_eq_true rfl) (jrv_of oh28 ka31 (by decide) rfl (by decide) rfl _) rfl (mj_Ok.up (Nat.add_le_add_left (by decide) D) (jc_91 (D := D) ty hg oh28 ka31 k32 ⟨by decide, by decide⟩)) rfl rfl (fun v33 h34 qv33 oh34 => ?_)
        obtain rfl : v33 = none := qv33
        refine mj_T.eq (pc2 := 75) (st2 := []) ?_ rfl rfl rfl rfl
        refine mj_T.pl rfl rfl rfl rfl ?_
        refine jT.getR 11 113 13 ty oh34 rfl kp0 (by decide) rfl rfl rfl (fun k35 => ?_)
        refine mj_T.pl rfl rfl rfl rfl ?_
        refine jT.getR 11 113 13 ty oh34 rfl kp0 (by decide) rfl rfl rfl (fun k36 => ?_)
        refine jT.call rfl rfl (Nat.le_of_ble_eq_true rfl) (Nat.le_of_ble_eq_true rfl) (jrv_of oh34 k35 (by decide) rfl (by decide) rfl _) rfl (mj_Ok.up (Nat.add_le_add_left (by decide) D) (jc_41 (D := D) ty hg oh34 k35 k36)) rfl rfl (fun v37 h38 qv37 oh38 => ?_)
        obtain rfl : v37 = none := qv37
        refine mj_T.eq (pc2 := 86) (st2 := []) ?_ rfl rfl rfl rfl
        refine jT.iinc rfl rfl (fun z39 rz39 ez39 => ?_)
        replace ez39 := ez39 ⟨by omega, by omega⟩
        refine mj_T.eq (loc2 := [some (.ref p0), some (.ref p1), some (.ref p2), some (.ref p3), some (.int (jn z39))]) ?_ rfl rfl rfl rfl
        refine mj_T.pl rfl rfl rfl rfl ?_
        exact ih13 ((z39 + 1 : Int).toNat) (by omega) z39 h38 rz39 oh38 (by omega) rfl
      · have c43 := jne2 c43
        refine mj_T.pl rfl rfl rfl rfl ?_
        exact jT.retb oh23 rfl rfl (by omega) (by omega)
  exact t22_11 _ z8 h6 rz8 oh6 (by omega) rfl
-- PolyRegisters$Desk.addsDegrees([J[J)Z
theorem jc_15 {D n : Nat} {tm : Int} {h g : mj_H} {K L : Nat → Nat} {R : Nat → Nat → Nat} {p0 : Nat} {p1 : Nat} {p2 : Nat} (ty : jTY K L R) (hg : g.length ≤ n) (o : jO K L R g n tm h) (kp0 : K p0 = 11) (kp1 : K p1 = 2) (kp2 : K p2 = 2) : mj_Ok (D + 4) 15 [.ref p0, .ref p1, .ref p2] h (jQ K L R g n tm [] (jVi 0 1)) := by
  refine mj_Ok.of (M := mj_m15) (loc := [some (.ref p0), some (.ref p1), some (.ref p2), none]) rfl rfl rfl ?_
  refine mj_T.pl rfl rfl rfl rfl ?_
  refine jT.getR 11 113 13 ty o rfl kp0 (by decide) rfl rfl rfl (fun k1 => ?_)
  refine mj_T.pl rfl rfl rfl rfl ?_
  refine jT.lc 1 rfl rfl ?_
  refine jT.call rfl rfl (Nat.le_of_ble_eq_true rfl) (Nat.le_of_ble_eq_true rfl) (jrv_of o k1 (by decide) rfl (by decide) rfl _) rfl (mj_Ok.up (Nat.add_le_add_left (by decide) D) (jc_40 (D := D) ty hg o k1 kp1 ⟨by decide, by decide⟩)) rfl rfl (fun v2 h3 qv2 oh3 => ?_)
  obtain rfl : v2 = none := qv2
  refine mj_T.eq (pc2 := 9) (st2 := []) ?_ rfl rfl rfl rfl
  refine mj_T.pl rfl rfl rfl rfl ?_
  refine jT.getR 11 113 13 ty oh3 rfl kp0 (by decide) rfl rfl rfl (fun k4 => ?_)
  refine mj_T.pl rfl rfl rfl rfl ?_
  refine jT.lc 1 rfl rfl ?_
  refine jT.call rfl rfl (Nat.le_of_ble_eq_true rfl) (Nat.le_of_ble_eq_true rfl) (jrv_of oh3 k4 (by decide) rfl (by decide) rfl _) rfl (mj_Ok.up (Nat.add_le_add_left (by decide) D) (jc_40 (D := D) ty hg oh3 k4 kp2 ⟨by decide, by decide⟩)) rfl rfl (fun v5 h6 qv5 oh6 => ?_)
  obtain rfl : v5 = none := qv5
  refine mj_T.eq (pc2 := 18) (st2 := []) ?_ rfl rfl rfl rfl
  iterate 2 refine mj_T.pl rfl rfl rfl rfl ?_
  refine jT.getR 11 113 13 ty oh6 rfl kp0 (by decide) rfl rfl rfl (fun k7 => ?_)
  refine mj_T.pl rfl rfl rfl rfl ?_
  refine jT.getR 11 113 13 ty oh6 rfl kp0 (by decide) rfl rfl rfl (fun k8 => ?_)
  refine mj_T.pl rfl rfl rfl rfl ?_
  refine jT.getR 11 113 13 ty oh6 rfl kp0 (by decide) rfl rfl rfl (fun k9 => ?_)
  refine jT.call rfl rfl (Nat.le_of_ble_eq_true rfl) (Nat.le_of_ble_eq_true rfl) (jrv_of oh6 kp0 (by decide) rfl (by decide) rfl _) rfl (mj_Ok.up (Nat.add_le_add_left (by decide) D) (jc_14 (D := D) ty hg oh6 kp0 k7 k8 k9)) rfl rfl (fun v10 h11 qv10 oh11 => ?_)
  obtain ⟨z12, az12, bz12, rfl⟩ := qv10
  have rz12 : -2147483648 ≤ z12 ∧ z12 ≤ 2147483647 := ⟨by omega, by omega⟩
  refine mj_T.eq (pc2 := 34) (st2 := [.int (jn z12)]) ?_ rfl rfl rfl rfl
  iterate 2 refine mj_T.pl rfl rfl rfl rfl ?_
  refine jT.getR 11 113 13 ty oh11 rfl kp0 (by decide) rfl rfl rfl (fun k13 => ?_)
  refine jT.getI 13 6 oh11 rfl k13 (by decide) rfl rfl rfl (fun z14 (az14 : (-1) ≤ z14) (bz14 : z14 ≤ 30) fz14 => ?_)
  have rz14 : -2147483648 ≤ z14 ∧ z14 ≤ 2147483647 := ⟨by omega, by omega⟩
  have t74_16 : ∀ (x15 : Int), (-2147483648 ≤ x15 ∧ x15 ≤ 2147483647) → mj_T (D + 3) mj_m15 74 [some (.ref p0), some (.ref p1), some (.ref p2), none] [.int (jn x15)] h11 (jQ K L R g n tm [] (jVi 0 1)) := by
    intro x15 rx15
    refine mj_T.pl (loc' := [some (.ref p0), some (.ref p1), some (.ref p2), some (.int (jn x15))]) rfl rfl rfl rfl ?_
    refine mj_T.pl rfl rfl rfl rfl ?_
    refine jT.getR 11 113 13 ty oh11 rfl kp0 (by decide) rfl rfl rfl (fun k17 => ?_)
    refine jT.getI 13 6 oh11 rfl k17 (by decide) rfl rfl rfl (fun z18 (az18 : (-1) ≤ z18) (bz18 : z18 ≤ 30) fz18 => ?_)
    have rz18 : -2147483648 ≤ z18 ∧ z18 ≤ 2147483647 := ⟨by omega, by omega⟩
    refine mj_T.pl rfl rfl rfl rfl ?_
    refine jT.icmp rfl rz18 rx15 (fun c83 => ?_) (fun c83 => ?_)
    · have c83 := jne1 c83
      refine mj_T.pl rfl rfl rfl rfl ?_
      exact jT.retb oh11 rfl rfl (by omega) (by omega)
    · have c83 := jne2 c83
      iterate 2 refine mj_T.pl rfl rfl rfl rfl ?_
      exact jT.retb oh11 rfl rfl (by omega) (by omega)
  have t55_19 : mj_T (D + 3) mj_m15 55 [some (.ref p0), some (.ref p1), some (.ref p2), none] [] h11 (jQ K L R g n tm [] (jVi 0 1)) := by
    iterate 2 refine mj_T.pl rfl rfl rfl rfl ?_
    exact t74_16 (-1) ⟨by decide, by decide⟩
  refine jT.if0 rfl rz14 (fun c42 => ?_) (fun c42 => ?_)
  · have c42 := of_decide_eq_true c42
    exact t55_19 
  · have c42 := of_decide_eq_false c42
    refine mj_T.pl rfl rfl rfl rfl ?_
    refine jT.getR 11 113 13 ty oh11 rfl kp0 (by decide) rfl rfl rfl (fun k20 => ?_)
    refine jT.getI 13 6 oh11 rfl k20 (by decide) rfl rfl rfl (fun z21 (az21 : (-1) ≤ z21) (bz21 : z21 ≤ 30) fz21 => ?_)
    have rz21 : -2147483648 ≤ z21 ∧ z21 ≤ 2147483647 := ⟨by omega, by omega⟩
    refine jT.if0 rfl rz21 (fun c52 => ?_) (fun c52 => ?_)
    · have c52 := of_decide_eq_true c52
      refine mj_T.pl rfl rfl rfl rfl ?_
      refine jT.getR 11 113 13 ty oh11 rfl kp0 (by decide) rfl rfl rfl (fun k22 => ?_)
      refine jT.getK 13 6 oh11 rfl k22 (by decide) rfl rfl rfl fz14.symm ?_
      refine mj_T.pl rfl rfl rfl rfl ?_
      refine jT.getR 11 113 13 ty oh11 rfl kp0 (by decide) rfl rfl rfl (fun k23 => ?_)
      refine jT.getK 13 6 oh11 rfl k23 (by decide) rfl rfl rfl fz21.symm ?_
      refine jT.iadd rfl (fun z24 rz24 ez24 => ?_)
      replace ez24 := ez24 ⟨by omega, by omega⟩
      exact t74_16 z24 rz24
    · have c52 := of_decide_eq_false c52
      exact t55_19 
-- PolyRegisters$Desk.eliminate(LPolyRegisters$Poly;LPolyRegisters$Poly;I)V
theorem jc_17 {D n : Nat} {tm : Int} {h g : mj_H} {K L : Nat → Nat} {R : Nat → Nat → Nat} {p0 : Nat} {p1 : Nat} {p2 : Nat} {p3 : Int} (ty : jTY K L R) (hg : g.length ≤ n) (o : jO K L R g n tm h) (kp0 : K p0 = 11) (kp1 : K p1 = 13) (kp2 : K p2 = 13) (rp3 : -2147483648 ≤ p3 ∧ p3 ≤ 2147483647) : mj_Ok (D + 3) 17 [.ref p0, .ref p1, .ref p2, .int (jn p3)] h (jQ K L R g n tm [] jV0) := by
  refine mj_Ok.of (M := mj_m17) (loc := [some (.ref p0), some (.ref p1), some (.ref p2), some (.int (jn p3)), none, none, none, none]) rfl rfl rfl ?_
  iterate 2 refine mj_T.pl rfl rfl rfl rfl ?_
  refine jT.getI 13 6 o rfl kp2 (by decide) rfl rfl rfl (fun z1 (az1 : (-1) ≤ z1) (bz1 : z1 ≤ 30) fz1 => ?_)
  have rz1 : -2147483648 ≤ z1 ∧ z1 ≤ 2147483647 := ⟨by omega, by omega⟩
  refine mj_T.pl rfl rfl rfl rfl ?_
  refine jT.iadd rfl (fun z2 rz2 ez2 => ?_)
  clear ez2
  refine jT.callp rfl rfl (Nat.le_of_ble_eq_true rfl) (Nat.le_of_ble_eq_true rfl) (jrv_of o kp1 (by decide) rfl (by decide) rfl _) rfl (mj_Ok.up (Nat.add_le_add_left (by decide) D) (jc_36 (D := D) ty hg o kp1 rz2)) rfl rfl (fun v3 qv3 => ?_)
  obtain ⟨a4, ka4, rfl⟩ := qv3
  refine mj_T.eq (pc2 := 10) (st2 := [.ref a4]) ?_ rfl rfl rfl rfl
  refine mj_T.pl (loc' := [some (.ref p0), some (.ref p1), some (.ref p2), some (.int (jn p3)), some (.ref a4), none, none, none]) rfl rfl rfl rfl ?_
  refine mj_T.pl rfl rfl rfl rfl ?_
  refine jT.callp rfl rfl (Nat.le_of_ble_eq_true rfl) (Nat.le_of_ble_eq_true rfl) (jrv_of o kp2 (by decide) rfl (by decide) rfl _) rfl (mj_Ok.up (Nat.add_le_add_left (by decide) D) (jc_37 (D := D) ty hg o kp2)) rfl rfl (fun v5 qv5 => ?_)
  obtain ⟨a6, ka6, rfl⟩ := qv5
  refine mj_T.eq (pc2 := 16) (st2 := [.ref a6]) ?_ rfl rfl rfl rfl
  refine mj_T.pl (loc' := [some (.ref p0), some (.ref p1), some (.ref p2), some (.int (jn p3)), some (.ref a4), some (.ref a6), none, none]) rfl rfl rfl rfl ?_
  refine mj_T.pl rfl rfl rfl rfl ?_
  refine mj_T.pl (loc' := [some (.ref p0), some (.ref p1), some (.ref p2), some (.int (jn p3)), some (.ref a4), some (.ref a6), some (.int (jn 0)), none]) rfl rfl rfl rfl ?_
  have t21_10 : ∀ (k11 : Nat) (x7 : Int) (w8 : Option Value) (h9 : mj_H), (-2147483648 ≤ x7 ∧ x7 ≤ 2147483647) → (jO K L R g n tm h9) → (0 ≤ x7) → (2147483647 - x7 : Int).toNat = k11 → mj_T (D + 2) mj_m17 21 [some (.ref p0), some (.ref p1), some (.ref p2), some (.int (jn p3)), some (.ref a4), some (.ref a6), some (.int (jn x7)), w8] [] h9 (jQ K L R g n tm [] jV0) := by
    refine jInd (fun k11 ih12 => ?_)
    intro x7 w8 h9 rx7 oh9 ix7 hm13
    refine mj_T.pl rfl rfl rfl rfl ?_
    refine mj_T.pl rfl rfl rfl rfl ?_
    refine jT.getI 13 6 oh9 rfl kp2 (by decide) rfl rfl rfl (fun z14 (az14 : (-1) ≤ z14) (bz14 : z14 ≤ 30) fz14 => ?_)
    have rz14 : -2147483648 ≤ z14 ∧ z14 ≤ 2147483647 := ⟨by omega, by omega⟩
    refine mj_T.pl rfl rfl rfl rfl ?_
    refine jT.iadd rfl (fun z15 rz15 ez15 => ?_)
    clear ez15
    refine jT.icmp rfl rx7 rz15 (fun c29 => ?_) (fun c29 => ?_)
    · have c29 := of_decide_eq_true c29
      refine mj_T.pl rfl rfl rfl rfl ?_
      refine jT.lc 0 rfl rfl ?_
      refine jT.call rfl rfl (Nat.le_of_ble_eq_true rfl) (Nat.le_of_ble_eq_true rfl) (jrv_of oh9 ka4 (by decide) rfl (by decide) rfl _) rfl (mj_Ok.up (Nat.add_le_add_left (by decide) D) (jc_86 (D := D) ty hg oh9 ka4 ⟨by decide, by decide⟩)) rfl rfl (fun v16 h17 qv16 oh17 => ?_)
      obtain rfl : v16 = none := qv16
      refine mj_T.eq (pc2 := 107) (st2 := []) ?_ rfl rfl rfl rfl
      exact jT.ret oh17 rfl rfl rfl rfl
    · have c29 := of_decide_eq_false c29
      iterate 2 refine mj_T.pl rfl rfl rfl rfl ?_
      refine jT.callp rfl rfl (Nat.le_of_ble_eq_true rfl) (Nat.le_of_ble_eq_true rfl) (jrv_of oh9 kp1 (by decide) rfl (by decide) rfl _) rfl (mj_Ok.up (Nat.add_le_add_left (by decide) D) (jc_36 (D := D) ty hg oh9 kp1 rx7)) rfl rfl (fun v18 qv18 => ?_)
      obtain ⟨a19, ka19, rfl⟩ := qv18
      refine mj_T.eq (pc2 := 38) (st2 := [.ref a19]) ?_ rfl rfl rfl rfl
      refine mj_T.pl (loc' := [some (.ref p0), some (.ref p1), some (.ref p2), some (.int (jn p3)), some (.ref a4), some (.ref a6), some (.int (jn x7)), some (.ref a19)]) rfl rfl rfl rfl ?_
      refine mj_T.pl rfl rfl rfl rfl ?_
      refine jT.getR 11 118 18 ty oh9 rfl kp0 (by decide) rfl rfl rfl (fun k20 => ?_)
      iterate 2 refine mj_T.pl rfl rfl rfl rfl ?_
      refine jT.call rfl rfl (Nat.le_of_ble_eq_true rfl) (Nat.le_of_ble_eq_true rfl) (jrv_of oh9 k20 (by decide) rfl (by decide) rfl _) rfl (mj_Ok.up (Nat.add_le_add_left (by decide) D) (jc_95 (D := D) ty hg oh9 k20 ka19 ka6)) rfl rfl (fun v21 h22 qv21 oh22 => ?_)
      obtain rfl : v21 = none := qv21
      refine mj_T.eq (pc2 := 51) (st2 := []) ?_ rfl rfl rfl rfl
      iterate 2 refine mj_T.pl rfl rfl rfl rfl ?_
      refine jT.icmp rfl rx7 rp3 (fun c54 => ?_) (fun c54 => ?_)
      · have c54 := of_decide_eq_true c54
        iterate 2 refine mj_T.pl rfl rfl rfl rfl ?_
        refine jT.getR 11 118 18 ty oh22 rfl kp0 (by decide) rfl rfl rfl (fun k23 => ?_)
        refine jT.call rfl rfl (Nat.le_of_ble_eq_true rfl) (Nat.le_of_ble_eq_true rfl) (jrv_of oh22 ka19 (by decide) rfl (by decide) rfl _) rfl (mj_Ok.up (Nat.add_le_add_left (by decide) D) (jc_87 (D := D) ty hg oh22 ka19 k23)) rfl rfl (fun v24 h25 qv24 oh25 => ?_)
        obtain rfl : v24 = none := qv24
        refine mj_T.eq (pc2 := 95) (st2 := []) ?_ rfl rfl rfl rfl
        refine jT.iinc rfl rfl (fun z26 rz26 ez26 => ?_)
        replace ez26 := ez26 ⟨by omega, by omega⟩
        refine mj_T.eq (loc2 := [some (.ref p0), some (.ref p1), some (.ref p2), some (.int (jn p3)), some (.ref a4), some (.ref a6), some (.int (jn z26)), some (.ref a19)]) ?_ rfl rfl rfl rfl
        refine mj_T.pl rfl rfl rfl rfl ?_
        exact ih12 ((2147483647 - z26 : Int).toNat) (by omega) z26 (some (.ref a19)) h25 rz26 oh25 (by omega) rfl
      · have c54 := of_decide_eq_false c54
        refine mj_T.pl rfl rfl rfl rfl ?_
        refine jT.getR 11 118 18 ty oh22 rfl kp0 (by decide) rfl rfl rfl (fun k27 => ?_)
        iterate 4 refine mj_T.pl rfl rfl rfl rfl ?_
        refine jT.isub rfl (fun z28 rz28 ez28 => ?_)
        clear ez28
        refine jT.callp rfl rfl (Nat.le_of_ble_eq_true rfl) (Nat.le_of_ble_eq_true rfl) (jrv_of oh22 kp2 (by decide) rfl (by decide) rfl _) rfl (mj_Ok.up (Nat.add_le_add_left (by decide) D) (jc_36 (D := D) ty hg oh22 kp2 rz28)) rfl rfl (fun v29 qv29 => ?_)
        obtain ⟨a30, ka30, rfl⟩ := qv29
        refine mj_T.eq (pc2 := 71) (st2 := [.ref a30, .ref a4, .ref (R p0 5)]) ?_ rfl rfl rfl rfl
        refine jT.call rfl rfl (Nat.le_of_ble_eq_true rfl) (Nat.le_of_ble_eq_true rfl) (jrv_of oh22 k27 (by decide) rfl (by decide) rfl _) rfl (mj_Ok.up (Nat.add_le_add_left (by decide) D) (jc_95 (D := D) ty hg oh22 k27 ka4 ka30)) rfl rfl (fun v31 h32 qv31 oh32 => ?_)
        obtain rfl : v31 = none := qv31
        refine mj_T.eq (pc2 := 74) (st2 := []) ?_ rfl rfl rfl rfl
        refine mj_T.pl rfl rfl rfl rfl ?_
        refine jT.getR 11 118 18 ty oh32 rfl kp0 (by decide) rfl rfl rfl (fun k33 => ?_)
        refine mj_T.pl rfl rfl rfl rfl ?_
        refine jT.getR 11 118 18 ty oh32 rfl kp0 (by decide) rfl rfl rfl (fun k34 => ?_)
        refine mj_T.pl rfl rfl rfl rfl ?_
        refine jT.call rfl rfl (Nat.le_of_ble_eq_true rfl) (Nat.le_of_ble_eq_true rfl) (jrv_of oh32 k33 (by decide) rfl (by decide) rfl _) rfl (mj_Ok.up (Nat.add_le_add_left (by decide) D) (jc_91 (D := D) ty hg oh32 k33 k34 ⟨by decide, by decide⟩)) rfl rfl (fun v35 h36 qv35 oh36 => ?_)
        obtain rfl : v35 = none := qv35
        refine mj_T.eq (pc2 := 86) (st2 := []) ?_ rfl rfl rfl rfl
        iterate 2 refine mj_T.pl rfl rfl rfl rfl ?_
        refine jT.getR 11 118 18 ty oh36 rfl kp0 (by decide) rfl rfl rfl (fun k37 => ?_)
        refine jT.call rfl rfl (Nat.le_of_ble_eq_true rfl) (Nat.le_of_ble_eq_true rfl) (jrv_of oh36 ka19 (by decide) rfl (by decide) rfl _) rfl (mj_Ok.up (Nat.add_le_add_left (by decide) D) (jc_87 (D := D) ty hg oh36 ka19 k37)) rfl rfl (fun v38 h39 qv38 oh39 => ?_)
        obtain rfl : v38 = none := qv38
        refine mj_T.eq (pc2 := 95) (st2 := []) ?_ rfl rfl rfl rfl
        refine jT.iinc rfl rfl (fun z40 rz40 ez40 => ?_)
        replace ez40 := ez40 ⟨by omega, by omega⟩
        refine mj_T.eq (loc2 := [some (.ref p0), some (.ref p1), some (.ref p2), some (.int (jn p3)), some (.ref a4), some (.ref a6), some (.int (jn z40)), some (.ref a19)]) ?_ rfl rfl rfl rfl
        refine mj_T.pl rfl rfl rfl rfl ?_
        exact ih12 ((2147483647 - z40 : Int).toNat) (by omega) z40 (some (.ref a19)) h39 rz40 oh39 (by omega) rfl
  exact t21_10 _ 0 none h ⟨by decide, by decide⟩ o (by omega) rfl
-- PolyRegisters$Desk.divideRows([J[J[J[J)Z
theorem jc_16 {D n : Nat} {tm : Int} {h g : mj_H} {K L : Nat → Nat} {R : Nat → Nat → Nat} {p0 : Nat} {p1 : Nat} {p2 : Nat} {p3 : Nat} {p4 : Nat} (ty : jTY K L R) (hg : g.length ≤ n) (o : jO K L R g n tm h) (kp0 : K p0 = 11) (kp1 : K p1 = 2) (kp2 : K p2 = 2) (kp3 : K p3 = 2) (kp4 : K p4 = 2) : mj_Ok (D + 4) 16 [.ref p0, .ref p1, .ref p2, .ref p3, .ref p4] h (jQ K L R g n tm [] (jVi 0 1)) := by
  refine mj_Ok.of (M := mj_m16) (loc := [some (.ref p0), some (.ref p1), some (.ref p2), some (.ref p3), some (.ref p4), none, none]) rfl rfl rfl ?_
  refine mj_T.pl rfl rfl rfl rfl ?_
  refine jT.getR 11 113 13 ty o rfl kp0 (by decide) rfl rfl rfl (fun k1 => ?_)
  refine mj_T.pl rfl rfl rfl rfl ?_
  refine jT.lc 1 rfl rfl ?_
  refine jT.call rfl rfl (Nat.le_of_ble_eq_true rfl) (Nat.le_of_ble_eq_true rfl) (jrv_of o k1 (by decide) rfl (by decide) rfl _) rfl (mj_Ok.up (Nat.add_le_add_left (by decide) D) (jc_40 (D := D) ty hg o k1 kp1 ⟨by decide, by decide⟩)) rfl rfl (fun v2 h3 qv2 oh3 => ?_)
  obtain rfl : v2 = none := qv2
  refine mj_T.eq (pc2 := 9) (st2 := []) ?_ rfl rfl rfl rfl
  refine mj_T.pl rfl rfl rfl rfl ?_
  refine jT.getR 11 113 13 ty oh3 rfl kp0 (by decide) rfl rfl rfl (fun k4 => ?_)
  refine mj_T.pl rfl rfl rfl rfl ?_
  refine jT.lc 1 rfl rfl ?_
  refine jT.call rfl rfl (Nat.le_of_ble_eq_true rfl) (Nat.le_of_ble_eq_true rfl) (jrv_of oh3 k4 (by decide) rfl (by decide) rfl _) rfl (mj_Ok.up (Nat.add_le_add_left (by decide) D) (jc_40 (D := D) ty hg oh3 k4 kp2 ⟨by decide, by decide⟩)) rfl rfl (fun v5 h6 qv5 oh6 => ?_)
  obtain rfl : v5 = none := qv5
  refine mj_T.eq (pc2 := 18) (st2 := []) ?_ rfl rfl rfl rfl
  refine mj_T.pl rfl rfl rfl rfl ?_
  refine jT.getR 11 113 13 ty oh6 rfl kp0 (by decide) rfl rfl rfl (fun k7 => ?_)
  refine jT.call rfl rfl (Nat.le_of_ble_eq_true rfl) (Nat.le_of_ble_eq_true rfl) (jrv_of oh6 k7 (by decide) rfl (by decide) rfl _) rfl (mj_Ok.up (Nat.add_le_add_left (by decide) D) (jc_39 (D := D) ty hg oh6 k7)) rfl rfl (fun v8 h9 qv8 oh9 => ?_)
  obtain rfl : v8 = none := qv8
  refine mj_T.eq (pc2 := 25) (st2 := []) ?_ rfl rfl rfl rfl
  refine mj_T.pl rfl rfl rfl rfl ?_
  refine jT.getR 11 113 13 ty oh9 rfl kp0 (by decide) rfl rfl rfl (fun k10 => ?_)
  refine jT.getI 13 6 oh9 rfl k10 (by decide) rfl rfl rfl (fun z11 (az11 : (-1) ≤ z11) (bz11 : z11 ≤ 30) fz11 => ?_)
  have rz11 : -2147483648 ≤ z11 ∧ z11 ≤ 2147483647 := ⟨by omega, by omega⟩
  refine mj_T.pl rfl rfl rfl rfl ?_
  refine jT.getR 11 113 13 ty oh9 rfl kp0 (by decide) rfl rfl rfl (fun k12 => ?_)
  refine jT.getI 13 6 oh9 rfl k12 (by decide) rfl rfl rfl (fun z13 (az13 : (-1) ≤ z13) (bz13 : z13 ≤ 30) fz13 => ?_)
  have rz13 : -2147483648 ≤ z13 ∧ z13 ≤ 2147483647 := ⟨by omega, by omega⟩
  refine jT.isub rfl (fun z14 rz14 ez14 => ?_)
  replace ez14 := ez14 ⟨by omega, by omega⟩
  refine mj_T.pl (loc' := [some (.ref p0), some (.ref p1), some (.ref p2), some (.ref p3), some (.ref p4), some (.int (jn z14)), none]) rfl rfl rfl rfl ?_
  have t42_18 : ∀ (k19 : Nat) (x15 : Int) (w16 : Option Value) (h17 : mj_H), (-2147483648 ≤ x15 ∧ x15 ≤ 2147483647) → (jO K L R g n tm h17) → (x15 ≤ z14) → (x15 + 1 : Int).toNat = k19 → mj_T (D + 3) mj_m16 42 [some (.ref p0), some (.ref p1), some (.ref p2), some (.ref p3), some (.ref p4), some (.int (jn x15)), w16] [] h17 (jQ K L R g n tm [] (jVi 0 1)) := by
    refine jInd (fun k19 ih20 => ?_)
    intro x15 w16 h17 rx15 oh17 ix15 hm21
    refine mj_T.pl rfl rfl rfl rfl ?_
    refine jT.if0 rfl rx15 (fun c44 => ?_) (fun c44 => ?_)
    · have c44 := of_decide_eq_true c44
      refine mj_T.pl rfl rfl rfl rfl ?_
      refine jT.getR 11 113 13 ty oh17 rfl kp0 (by decide) rfl rfl rfl (fun k22 => ?_)
      refine mj_T.pl rfl rfl rfl rfl ?_
      refine jT.call rfl rfl (Nat.le_of_ble_eq_true rfl) (Nat.le_of_ble_eq_true rfl) (jrv_of oh17 k22 (by decide) rfl (by decide) rfl _) rfl (mj_Ok.up (Nat.add_le_add_left (by decide) D) (jc_44 (D := D) ty hg oh17 k22 kp3)) rfl rfl (fun v23 h24 qv23 oh24 => ?_)
      obtain ⟨z25, az25, bz25, rfl⟩ := qv23
      have rz25 : -2147483648 ≤ z25 ∧ z25 ≤ 2147483647 := ⟨by omega, by omega⟩
      refine mj_T.eq (pc2 := 167) (st2 := [.int (jn z25)]) ?_ rfl rfl rfl rfl
      refine jT.if0 rfl rz25 (fun c167 => ?_) (fun c167 => ?_)
      · have c167 := of_decide_eq_true c167
        refine mj_T.pl rfl rfl rfl rfl ?_
        exact jT.retb oh24 rfl rfl (by omega) (by omega)
      · have c167 := of_decide_eq_false c167
        refine mj_T.pl rfl rfl rfl rfl ?_
        refine jT.getR 11 113 13 ty oh24 rfl kp0 (by decide) rfl rfl rfl (fun k26 => ?_)
        refine mj_T.pl rfl rfl rfl rfl ?_
        refine jT.call rfl rfl (Nat.le_of_ble_eq_true rfl) (Nat.le_of_ble_eq_true rfl) (jrv_of oh24 k26 (by decide) rfl (by decide) rfl _) rfl (mj_Ok.up (Nat.add_le_add_left (by decide) D) (jc_44 (D := D) ty hg oh24 k26 kp4)) rfl rfl (fun v27 h28 qv27 oh28 => ?_)
        obtain ⟨z29, az29, bz29, rfl⟩ := qv27
        have rz29 : -2147483648 ≤ z29 ∧ z29 ≤ 2147483647 := ⟨by omega, by omega⟩
        refine mj_T.eq (pc2 := 179) (st2 := [.int (jn z29)]) ?_ rfl rfl rfl rfl
        refine jT.if0 rfl rz29 (fun c179 => ?_) (fun c179 => ?_)
        · have c179 := of_decide_eq_true c179
          refine mj_T.pl rfl rfl rfl rfl ?_
          exact jT.retb oh28 rfl rfl (by omega) (by omega)
        · have c179 := of_decide_eq_false c179
          iterate 2 refine mj_T.pl rfl rfl rfl rfl ?_
          exact jT.retb oh28 rfl rfl (by omega) (by omega)
    · have c44 := of_decide_eq_false c44
      iterate 2 refine mj_T.pl rfl rfl rfl rfl ?_
      refine jT.iadd rfl (fun z30 rz30 ez30 => ?_)
      replace ez30 := ez30 ⟨by omega, by omega⟩
      refine mj_T.pl (loc' := [some (.ref p0), some (.ref p1), some (.ref p2), some (.ref p3), some (.ref p4), some (.int (jn x15)), some (.int (jn z30))]) rfl rfl rfl rfl ?_
      have t53_33 : ∀ (k34 : Nat) (x31 : Int) (h32 : mj_H), (-2147483648 ≤ x31 ∧ x31 ≤ 2147483647) → (jO K L R g n tm h32) → (z30 ≤ x31) → (2147483647 - x31 : Int).toNat = k34 → mj_T (D + 3) mj_m16 53 [some (.ref p0), some (.ref p1), some (.ref p2), some (.ref p3), some (.ref p4), some (.int (jn x15)), some (.int (jn x31))] [] h32 (jQ K L R g n tm [] (jVi 0 1)) := by
        refine jInd (fun k34 ih35 => ?_)
        intro x31 h32 rx31 oh32 ix31 hm36
        refine mj_T.pl rfl rfl rfl rfl ?_
        refine mj_T.pl rfl rfl rfl rfl ?_
        refine jT.getR 11 113 13 ty oh32 rfl kp0 (by decide) rfl rfl rfl (fun k37 => ?_)
        refine jT.callp rfl rfl (Nat.le_of_ble_eq_true rfl) (Nat.le_of_ble_eq_true rfl) (jrv_of oh32 k37 (by decide) rfl (by decide) rfl _) rfl (mj_Ok.up (Nat.add_le_add_left (by decide) D) (jc_38 (D := D) ty hg oh32 k37)) rfl rfl (fun v38 qv38 => ?_)
        obtain ⟨z39, az39, bz39, rfl⟩ := qv38
        have rz39 : -2147483648 ≤ z39 ∧ z39 ≤ 2147483647 := ⟨by omega, by omega⟩
        refine mj_T.eq (pc2 := 62) (st2 := [.int (jn z39), .int (jn x31)]) ?_ rfl rfl rfl rfl
        refine jT.icmp rfl rx31 rz39 (fun c62 => ?_) (fun c62 => ?_)
        · have c62 := of_decide_eq_true c62
          refine mj_T.pl rfl rfl rfl rfl ?_
          refine jT.getR 11 113 13 ty oh32 rfl kp0 (by decide) rfl rfl rfl (fun k40 => ?_)
          refine mj_T.pl rfl rfl rfl rfl ?_
          refine jT.callp rfl rfl (Nat.le_of_ble_eq_true rfl) (Nat.le_of_ble_eq_true rfl) (jrv_of oh32 k40 (by decide) rfl (by decide) rfl _) rfl (mj_Ok.up (Nat.add_le_add_left (by decide) D) (jc_36 (D := D) ty hg oh32 k40 rx15)) rfl rfl (fun v41 qv41 => ?_)
          obtain ⟨a42, ka42, rfl⟩ := qv41
          refine mj_T.eq (pc2 := 119) (st2 := [.ref a42]) ?_ rfl rfl rfl rfl
          refine mj_T.pl rfl rfl rfl rfl ?_
          refine jT.getR 11 113 13 ty oh32 rfl kp0 (by decide) rfl rfl rfl (fun k43 => ?_)
          refine mj_T.pl rfl rfl rfl rfl ?_
          refine jT.getR 11 113 13 ty oh32 rfl kp0 (by decide) rfl rfl rfl (fun k44 => ?_)
          refine jT.getI 13 6 oh32 rfl k44 (by decide) rfl rfl rfl (fun z45 (az45 : (-1) ≤ z45) (bz45 : z45 ≤ 30) fz45 => ?_)
          have rz45 : -2147483648 ≤ z45 ∧ z45 ≤ 2147483647 := ⟨by omega, by omega⟩
          refine mj_T.pl rfl rfl rfl rfl ?_
          refine jT.iadd rfl (fun z46 rz46 ez46 => ?_)
          replace ez46 := ez46 ⟨by omega, by omega⟩
          refine jT.callp rfl rfl (Nat.le_of_ble_eq_true rfl) (Nat.le_of_ble_eq_true rfl) (jrv_of oh32 k43 (by decide) rfl (by decide) rfl _) rfl (mj_Ok.up (Nat.add_le_add_left (by decide) D) (jc_36 (D := D) ty hg oh32 k43 rz46)) rfl rfl (fun v47 qv47 => ?_)
          obtain ⟨a48, ka48, rfl⟩ := qv47
          refine mj_T.eq (pc2 := 136) (st2 := [.ref a48, .ref a42]) ?_ rfl rfl rfl rfl
          refine jT.call rfl rfl (Nat.le_of_ble_eq_true rfl) (Nat.le_of_ble_eq_true rfl) (jrv_of oh32 ka42 (by decide) rfl (by decide) rfl _) rfl (mj_Ok.up (Nat.add_le_add_left (by decide) D) (jc_87 (D := D) ty hg oh32 ka42 ka48)) rfl rfl (fun v49 h50 qv49 oh50 => ?_)
          obtain rfl : v49 = none := qv49
          refine mj_T.eq (pc2 := 139) (st2 := []) ?_ rfl rfl rfl rfl
          iterate 2 refine mj_T.pl rfl rfl rfl rfl ?_
          refine jT.getR 11 113 13 ty oh50 rfl kp0 (by decide) rfl rfl rfl (fun k51 => ?_)
          refine mj_T.pl rfl rfl rfl rfl ?_
          refine jT.getR 11 113 13 ty oh50 rfl kp0 (by decide) rfl rfl rfl (fun k52 => ?_)
          refine mj_T.pl rfl rfl rfl rfl ?_
          refine jT.call rfl rfl (Nat.le_of_ble_eq_true rfl) (Nat.le_of_ble_eq_true rfl) (jrv_of oh50 kp0 (by decide) rfl (by decide) rfl _) rfl (mj_Ok.up (Nat.add_le_add_left (by decide) D) (jc_17 (D := D) ty hg oh50 kp0 k51 k52 rx15)) rfl rfl (fun v53 h54 qv53 oh54 => ?_)
          obtain rfl : v53 = none := qv53
          refine mj_T.eq (pc2 := 153) (st2 := []) ?_ rfl rfl rfl rfl
          refine jT.iinc rfl rfl (fun z55 rz55 ez55 => ?_)
          replace ez55 := ez55 ⟨by omega, by omega⟩
          refine mj_T.eq (loc2 := [some (.ref p0), some (.ref p1), some (.ref p2), some (.ref p3), some (.ref p4), some (.int (jn z55)), some (.int (jn x31))]) ?_ rfl rfl rfl rfl
          refine mj_T.pl rfl rfl rfl rfl ?_
          exact ih20 ((z55 + 1 : Int).toNat) (by omega) z55 (some (.int (jn x31))) h54 rz55 oh54 (by omega) rfl
        · have c62 := of_decide_eq_false c62
          refine mj_T.pl rfl rfl rfl rfl ?_
          refine jT.getR 11 118 18 ty oh32 rfl kp0 (by decide) rfl rfl rfl (fun k56 => ?_)
          refine mj_T.pl rfl rfl rfl rfl ?_
          refine jT.getR 11 113 13 ty oh32 rfl kp0 (by decide) rfl rfl rfl (fun k57 => ?_)
          refine mj_T.pl rfl rfl rfl rfl ?_
          refine jT.callp rfl rfl (Nat.le_of_ble_eq_true rfl) (Nat.le_of_ble_eq_true rfl) (jrv_of oh32 k57 (by decide) rfl (by decide) rfl _) rfl (mj_Ok.up (Nat.add_le_add_left (by decide) D) (jc_36 (D := D) ty hg oh32 k57 rx31)) rfl rfl (fun v58 qv58 => ?_)
          obtain ⟨a59, ka59, rfl⟩ := qv58
          refine mj_T.eq (pc2 := 78) (st2 := [.ref a59, .ref (R p0 4)]) ?_ rfl rfl rfl rfl
          refine mj_T.pl rfl rfl rfl rfl ?_
          refine jT.getR 11 113 13 ty oh32 rfl kp0 (by decide) rfl rfl rfl (fun k60 => ?_)
          refine jT.callp rfl rfl (Nat.le_of_ble_eq_true rfl) (Nat.le_of_ble_eq_true rfl) (jrv_of oh32 k60 (by decide) rfl (by decide) rfl _) rfl (mj_Ok.up (Nat.add_le_add_left (by decide) D) (jc_37 (D := D) ty hg oh32 k60)) rfl rfl (fun v61 qv61 => ?_)
          obtain ⟨a62, ka62, rfl⟩ := qv61
          refine mj_T.eq (pc2 := 85) (st2 := [.ref a62, .ref a59, .ref (R p0 4)]) ?_ rfl rfl rfl rfl
          refine jT.call rfl rfl (Nat.le_of_ble_eq_true rfl) (Nat.le_of_ble_eq_true rfl) (jrv_of oh32 k56 (by decide) rfl (by decide) rfl _) rfl (mj_Ok.up (Nat.add_le_add_left (by decide) D) (jc_95 (D := D) ty hg oh32 k56 ka59 ka62)) rfl rfl (fun v63 h64 qv63 oh64 => ?_)
          obtain rfl : v63 = none := qv63
          refine mj_T.eq (pc2 := 88) (st2 := []) ?_ rfl rfl rfl rfl
          refine mj_T.pl rfl rfl rfl rfl ?_
          refine jT.getR 11 113 13 ty oh64 rfl kp0 (by decide) rfl rfl rfl (fun k65 => ?_)
          refine mj_T.pl rfl rfl rfl rfl ?_
          refine jT.callp rfl rfl (Nat.le_of_ble_eq_true rfl) (Nat.le_of_ble_eq_true rfl) (jrv_of oh64 k65 (by decide) rfl (by decide) rfl _) rfl (mj_Ok.up (Nat.add_le_add_left (by decide) D) (jc_36 (D := D) ty hg oh64 k65 rx31)) rfl rfl (fun v66 qv66 => ?_)
          obtain ⟨a67, ka67, rfl⟩ := qv66
          refine mj_T.eq (pc2 := 97) (st2 := [.ref a67]) ?_ rfl rfl rfl rfl
          refine mj_T.pl rfl rfl rfl rfl ?_
          refine jT.getR 11 118 18 ty oh64 rfl kp0 (by decide) rfl rfl rfl (fun k68 => ?_)
          refine jT.call rfl rfl (Nat.le_of_ble_eq_true rfl) (Nat.le_of_ble_eq_true rfl) (jrv_of oh64 ka67 (by decide) rfl (by decide) rfl _) rfl (mj_Ok.up (Nat.add_le_add_left (by decide) D) (jc_87 (D := D) ty hg oh64 ka67 k68)) rfl rfl (fun v69 h70 qv69 oh70 => ?_)
          obtain rfl : v69 = none := qv69
          refine mj_T.eq (pc2 := 104) (st2 := []) ?_ rfl rfl rfl rfl
          refine jT.iinc rfl rfl (fun z71 rz71 ez71 => ?_)
          replace ez71 := ez71 ⟨by omega, by omega⟩
          refine mj_T.eq (loc2 := [some (.ref p0), some (.ref p1), some (.ref p2), some (.ref p3), some (.ref p4), some (.int (jn x15)), some (.int (jn z71))]) ?_ rfl rfl rfl rfl
          refine mj_T.pl rfl rfl rfl rfl ?_
          exact ih35 ((2147483647 - z71 : Int).toNat) (by omega) z71 h70 rz71 oh70 (by omega) rfl
      exact t53_33 _ z30 h17 rz30 oh17 (by omega) rfl
  exact t42_18 _ z14 none h9 rz14 oh9 (by omega) rfl
/-! The class by kinds: its methods. -/
-- PolyRegisters$Desk.divideExactly(LPolyRegisters$Poly;LPolyRegisters$Poly;)Z
theorem jc_19 {D n : Nat} {tm : Int} {h g : mj_H} {K L : Nat → Nat} {R : Nat → Nat → Nat} {p0 : Nat} {p1 : Nat} {p2 : Nat} (ty : jTY K L R) (hg : g.length ≤ n) (o : jO K L R g n tm h) (kp0 : K p0 = 11) (kp1 : K p1 = 13) (kp2 : K p2 = 13) : mj_Ok (D + 3) 19 [.ref p0, .ref p1, .ref p2] h (jQ K L R g n tm [] (jVi 0 1)) := by
  refine mj_Ok.of (M := mj_m19) (loc := [some (.ref p0), some (.ref p1), some (.ref p2), none, none, none]) rfl rfl rfl ?_
  refine mj_T.pl rfl rfl rfl rfl ?_
  refine jT.call rfl rfl (Nat.le_of_ble_eq_true rfl) (Nat.le_of_ble_eq_true rfl) (jrv_of o kp2 (by decide) rfl (by decide) rfl _) rfl (mj_Ok.up (Nat.add_le_add_left (by decide) D) (jc_39 (D := D) ty hg o kp2)) rfl rfl (fun v1 h2 qv1 oh2 => ?_)
  obtain rfl : v1 = none := qv1
  refine mj_T.eq (pc2 := 4) (st2 := []) ?_ rfl rfl rfl rfl
  refine mj_T.pl rfl rfl rfl rfl ?_
  refine jT.getR 11 112 12 ty oh2 rfl kp0 (by decide) rfl rfl rfl (fun k3 => ?_)
  refine mj_T.pl rfl rfl rfl rfl ?_
  refine jT.callp rfl rfl (Nat.le_of_ble_eq_true rfl) (Nat.le_of_ble_eq_true rfl) (jrv_of oh2 kp1 (by decide) rfl (by decide) rfl _) rfl (mj_Ok.up (Nat.add_le_add_left (by decide) D) (jc_37 (D := D) ty hg oh2 kp1)) rfl rfl (fun v4 qv4 => ?_)
  obtain ⟨a5, ka5, rfl⟩ := qv4
  refine mj_T.eq (pc2 := 12) (st2 := [.ref a5, .ref (R p0 7)]) ?_ rfl rfl rfl rfl
  refine jT.call rfl rfl (Nat.le_of_ble_eq_true rfl) (Nat.le_of_ble_eq_true rfl) (jrv_of oh2 k3 (by decide) rfl (by decide) rfl _) rfl (mj_Ok.up (Nat.add_le_add_left (by decide) D) (jc_30 (D := D) ty hg oh2 k3 ka5)) rfl rfl (fun v6 h7 qv6 oh7 => ?_)
  obtain rfl : v6 = none := qv6
  refine mj_T.eq (pc2 := 15) (st2 := []) ?_ rfl rfl rfl rfl
  refine mj_T.pl rfl rfl rfl rfl ?_
  refine jT.getR 11 113 13 ty oh7 rfl kp0 (by decide) rfl rfl rfl (fun k8 => ?_)
  refine jT.getI 13 6 oh7 rfl k8 (by decide) rfl rfl rfl (fun z9 (az9 : (-1) ≤ z9) (bz9 : z9 ≤ 30) fz9 => ?_)
  have rz9 : -2147483648 ≤ z9 ∧ z9 ≤ 2147483647 := ⟨by omega, by omega⟩
  refine mj_T.pl rfl rfl rfl rfl ?_
  refine jT.getI 13 6 oh7 rfl kp1 (by decide) rfl rfl rfl (fun z10 (az10 : (-1) ≤ z10) (bz10 : z10 ≤ 30) fz10 => ?_)
  have rz10 : -2147483648 ≤ z10 ∧ z10 ≤ 2147483647 := ⟨by omega, by omega⟩
  refine jT.isub rfl (fun z11 rz11 ez11 => ?_)
  replace ez11 := ez11 ⟨by omega, by omega⟩
  refine mj_T.pl (loc' := [some (.ref p0), some (.ref p1), some (.ref p2), some (.int (jn z11)), none, none]) rfl rfl rfl rfl ?_
  have t28_16 : ∀ (k17 : Nat) (x12 : Int) (w13 : Option Value) (w14 : Option Value) (h15 : mj_H), (-2147483648 ≤ x12 ∧ x12 ≤ 2147483647) → (jO K L R g n tm h15) → (x12 ≤ z11) → (x12 + 1 : Int).toNat = k17 → mj_T (D + 2) mj_m19 28 [some (.ref p0), some (.ref p1), some (.ref p2), some (.int (jn x12)), w13, w14] [] h15 (jQ K L R g n tm [] (jVi 0 1)) := by
    refine jInd (fun k17 ih18 => ?_)
    intro x12 w13 w14 h15 rx12 oh15 ix12 hm19
    refine mj_T.pl rfl rfl rfl rfl ?_
    refine jT.if0 rfl rx12 (fun c29 => ?_) (fun c29 => ?_)
    · have c29 := of_decide_eq_true c29
      refine mj_T.pl rfl rfl rfl rfl ?_
      refine jT.call rfl rfl (Nat.le_of_ble_eq_true rfl) (Nat.le_of_ble_eq_true rfl) (jrv_of oh15 kp2 (by decide) rfl (by decide) rfl _) rfl (mj_Ok.up (Nat.add_le_add_left (by decide) D) (jc_42 (D := D) ty hg oh15 kp2)) rfl rfl (fun v20 h21 qv20 oh21 => ?_)
      obtain rfl : v20 = none := qv20
      refine mj_T.eq (pc2 := 146) (st2 := []) ?_ rfl rfl rfl rfl
      refine mj_T.pl rfl rfl rfl rfl ?_
      refine jT.getR 11 113 13 ty oh21 rfl kp0 (by decide) rfl rfl rfl (fun k22 => ?_)
      refine jT.call rfl rfl (Nat.le_of_ble_eq_true rfl) (Nat.le_of_ble_eq_true rfl) (jrv_of oh21 k22 (by decide) rfl (by decide) rfl _) rfl (mj_Ok.up (Nat.add_le_add_left (by decide) D) (jc_42 (D := D) ty hg oh21 k22)) rfl rfl (fun v23 h24 qv23 oh24 => ?_)
      obtain rfl : v23 = none := qv23
      refine mj_T.eq (pc2 := 153) (st2 := []) ?_ rfl rfl rfl rfl
      refine mj_T.pl rfl rfl rfl rfl ?_
      refine jT.getR 11 113 13 ty oh24 rfl kp0 (by decide) rfl rfl rfl (fun k25 => ?_)
      refine jT.getI 13 6 oh24 rfl k25 (by decide) rfl rfl rfl (fun z26 (az26 : (-1) ≤ z26) (bz26 : z26 ≤ 30) fz26 => ?_)
      have rz26 : -2147483648 ≤ z26 ∧ z26 ≤ 2147483647 := ⟨by omega, by omega⟩
      refine jT.if0 rfl rz26 (fun c160 => ?_) (fun c160 => ?_)
      · have c160 := of_decide_eq_true c160
        refine mj_T.pl rfl rfl rfl rfl ?_
        exact jT.retb oh24 rfl rfl (by omega) (by omega)
      · have c160 := of_decide_eq_false c160
        iterate 2 refine mj_T.pl rfl rfl rfl rfl ?_
        exact jT.retb oh24 rfl rfl (by omega) (by omega)
    · have c29 := of_decide_eq_false c29
      iterate 2 refine mj_T.pl rfl rfl rfl rfl ?_
      refine jT.callp rfl rfl (Nat.le_of_ble_eq_true rfl) (Nat.le_of_ble_eq_true rfl) (jrv_of oh15 kp2 (by decide) rfl (by decide) rfl _) rfl (mj_Ok.up (Nat.add_le_add_left (by decide) D) (jc_36 (D := D) ty hg oh15 kp2 rx12)) rfl rfl (fun v27 qv27 => ?_)
      obtain ⟨a28, ka28, rfl⟩ := qv27
      refine mj_T.eq (pc2 := 37) (st2 := [.ref a28]) ?_ rfl rfl rfl rfl
      refine mj_T.pl (loc' := [some (.ref p0), some (.ref p1), some (.ref p2), some (.int (jn x12)), some (.ref a28), w14]) rfl rfl rfl rfl ?_
      refine mj_T.pl rfl rfl rfl rfl ?_
      refine jT.getR 11 118 18 ty oh15 rfl kp0 (by decide) rfl rfl rfl (fun k29 => ?_)
      refine mj_T.pl rfl rfl rfl rfl ?_
      refine jT.getR 11 113 13 ty oh15 rfl kp0 (by decide) rfl rfl rfl (fun k30 => ?_)
      refine mj_T.pl rfl rfl rfl rfl ?_
      refine jT.getI 13 6 oh15 rfl kp1 (by decide) rfl rfl rfl (fun z31 (az31 : (-1) ≤ z31) (bz31 : z31 ≤ 30) fz31 => ?_)
      have rz31 : -2147483648 ≤ z31 ∧ z31 ≤ 2147483647 := ⟨by omega, by omega⟩
      refine mj_T.pl rfl rfl rfl rfl ?_
      refine jT.iadd rfl (fun z32 rz32 ez32 => ?_)
      replace ez32 := ez32 ⟨by omega, by omega⟩
      refine jT.callp rfl rfl (Nat.le_of_ble_eq_true rfl) (Nat.le_of_ble_eq_true rfl) (jrv_of oh15 k30 (by decide) rfl (by decide) rfl _) rfl (mj_Ok.up (Nat.add_le_add_left (by decide) D) (jc_36 (D := D) ty hg oh15 k30 rz32)) rfl rfl (fun v33 qv33 => ?_)
      obtain ⟨a34, ka34, rfl⟩ := qv33
      refine mj_T.eq (pc2 := 56) (st2 := [.ref a34, .ref (R p0 4)]) ?_ rfl rfl rfl rfl
      refine jT.call rfl rfl (Nat.le_of_ble_eq_true rfl) (Nat.le_of_ble_eq_true rfl) (jrv_of oh15 k29 (by decide) rfl (by decide) rfl _) rfl (mj_Ok.up (Nat.add_le_add_left (by decide) D) (jc_87 (D := D) ty hg oh15 k29 ka34)) rfl rfl (fun v35 h36 qv35 oh36 => ?_)
      obtain rfl : v35 = none := qv35
      refine mj_T.eq (pc2 := 59) (st2 := []) ?_ rfl rfl rfl rfl
      refine mj_T.pl rfl rfl rfl rfl ?_
      refine jT.getR 11 112 12 ty oh36 rfl kp0 (by decide) rfl rfl rfl (fun k37 => ?_)
      refine mj_T.pl rfl rfl rfl rfl ?_
      refine jT.getR 11 118 18 ty oh36 rfl kp0 (by decide) rfl rfl rfl (fun k38 => ?_)
      refine mj_T.pl rfl rfl rfl rfl ?_
      refine jT.call rfl rfl (Nat.le_of_ble_eq_true rfl) (Nat.le_of_ble_eq_true rfl) (jrv_of oh36 k37 (by decide) rfl (by decide) rfl _) rfl (mj_Ok.up (Nat.add_le_add_left (by decide) D) (jc_31 (D := D) ty hg oh36 k37 k38 ka28)) rfl rfl (fun v39 h40 qv39 oh40 => ?_)
      obtain rfl : v39 = none := qv39
      refine mj_T.eq (pc2 := 72) (st2 := []) ?_ rfl rfl rfl rfl
      refine mj_T.pl rfl rfl rfl rfl ?_
      refine jT.getR 11 118 18 ty oh40 rfl kp0 (by decide) rfl rfl rfl (fun k41 => ?_)
      refine jT.getI 18 0 oh40 rfl k41 (by decide) rfl rfl rfl (fun z42 (az42 : (-2147483648) ≤ z42) (bz42 : z42 ≤ 2147483647) fz42 => ?_)
      have rz42 : -2147483648 ≤ z42 ∧ z42 ≤ 2147483647 := ⟨by omega, by omega⟩
      refine jT.if0 rfl rz42 (fun c79 => ?_) (fun c79 => ?_)
      · have c79 := of_decide_eq_true c79
        refine mj_T.pl rfl rfl rfl rfl ?_
        refine mj_T.pl (loc' := [some (.ref p0), some (.ref p1), some (.ref p2), some (.int (jn x12)), some (.ref a28), some (.int (jn 0))]) rfl rfl rfl rfl ?_
        have t87_45 : ∀ (k46 : Nat) (x43 : Int) (h44 : mj_H), (-2147483648 ≤ x43 ∧ x43 ≤ 2147483647) → (jO K L R g n tm h44) → (0 ≤ x43) → (2147483647 - x43 : Int).toNat = k46 → mj_T (D + 2) mj_m19 87 [some (.ref p0), some (.ref p1), some (.ref p2), some (.int (jn x12)), some (.ref a28), some (.int (jn x43))] [] h44 (jQ K L R g n tm [] (jVi 0 1)) := by
          refine jInd (fun k46 ih47 => ?_)
          intro x43 h44 rx43 oh44 ix43 hm48
          refine mj_T.pl rfl rfl rfl rfl ?_
          refine mj_T.pl rfl rfl rfl rfl ?_
          refine jT.getI 13 6 oh44 rfl kp1 (by decide) rfl rfl rfl (fun z49 (az49 : (-1) ≤ z49) (bz49 : z49 ≤ 30) fz49 => ?_)
          have rz49 : -2147483648 ≤ z49 ∧ z49 ≤ 2147483647 := ⟨by omega, by omega⟩
          refine jT.icmp rfl rx43 rz49 (fun c93 => ?_) (fun c93 => ?_)
          · have c93 := of_decide_eq_true c93
            refine jT.iinc rfl rfl (fun z50 rz50 ez50 => ?_)
            replace ez50 := ez50 ⟨by omega, by omega⟩
            refine mj_T.eq (loc2 := [some (.ref p0), some (.ref p1), some (.ref p2), some (.int (jn z50)), some (.ref a28), some (.int (jn x43))]) ?_ rfl rfl rfl rfl
            refine mj_T.pl rfl rfl rfl rfl ?_
            exact ih18 ((z50 + 1 : Int).toNat) (by omega) z50 (some (.ref a28)) (some (.int (jn x43))) h44 rz50 oh44 (by omega) rfl
          · have c93 := of_decide_eq_false c93
            refine mj_T.pl rfl rfl rfl rfl ?_
            refine jT.getR 11 118 18 ty oh44 rfl kp0 (by decide) rfl rfl rfl (fun k51 => ?_)
            iterate 3 refine mj_T.pl rfl rfl rfl rfl ?_
            refine jT.callp rfl rfl (Nat.le_of_ble_eq_true rfl) (Nat.le_of_ble_eq_true rfl) (jrv_of oh44 kp1 (by decide) rfl (by decide) rfl _) rfl (mj_Ok.up (Nat.add_le_add_left (by decide) D) (jc_36 (D := D) ty hg oh44 kp1 rx43)) rfl rfl (fun v52 qv52 => ?_)
            obtain ⟨a53, ka53, rfl⟩ := qv52
            refine mj_T.eq (pc2 := 108) (st2 := [.ref a53, .ref a28, .ref (R p0 5)]) ?_ rfl rfl rfl rfl
            refine jT.call rfl rfl (Nat.le_of_ble_eq_true rfl) (Nat.le_of_ble_eq_true rfl) (jrv_of oh44 k51 (by decide) rfl (by decide) rfl _) rfl (mj_Ok.up (Nat.add_le_add_left (by decide) D) (jc_95 (D := D) ty hg oh44 k51 ka28 ka53)) rfl rfl (fun v54 h55 qv54 oh55 => ?_)
            obtain rfl : v54 = none := qv54
            refine mj_T.eq (pc2 := 111) (st2 := []) ?_ rfl rfl rfl rfl
            refine mj_T.pl rfl rfl rfl rfl ?_
            refine jT.getR 11 113 13 ty oh55 rfl kp0 (by decide) rfl rfl rfl (fun k56 => ?_)
            iterate 2 refine mj_T.pl rfl rfl rfl rfl ?_
            refine jT.iadd rfl (fun z57 rz57 ez57 => ?_)
            replace ez57 := ez57 ⟨by omega, by omega⟩
            refine jT.callp rfl rfl (Nat.le_of_ble_eq_true rfl) (Nat.le_of_ble_eq_true rfl) (jrv_of oh55 k56 (by decide) rfl (by decide) rfl _) rfl (mj_Ok.up (Nat.add_le_add_left (by decide) D) (jc_36 (D := D) ty hg oh55 k56 rz57)) rfl rfl (fun v58 qv58 => ?_)
            obtain ⟨a59, ka59, rfl⟩ := qv58
            refine mj_T.eq (pc2 := 122) (st2 := [.ref a59]) ?_ rfl rfl rfl rfl
            refine mj_T.pl rfl rfl rfl rfl ?_
            refine jT.getR 11 118 18 ty oh55 rfl kp0 (by decide) rfl rfl rfl (fun k60 => ?_)
            refine mj_T.pl rfl rfl rfl rfl ?_
            refine jT.call rfl rfl (Nat.le_of_ble_eq_true rfl) (Nat.le_of_ble_eq_true rfl) (jrv_of oh55 ka59 (by decide) rfl (by decide) rfl _) rfl (mj_Ok.up (Nat.add_le_add_left (by decide) D) (jc_91 (D := D) ty hg oh55 ka59 k60 ⟨by decide, by decide⟩)) rfl rfl (fun v61 h62 qv61 oh62 => ?_)
            obtain rfl : v61 = none := qv61
            refine mj_T.eq (pc2 := 130) (st2 := []) ?_ rfl rfl rfl rfl
            refine jT.iinc rfl rfl (fun z63 rz63 ez63 => ?_)
            replace ez63 := ez63 ⟨by omega, by omega⟩
            refine mj_T.eq (loc2 := [some (.ref p0), some (.ref p1), some (.ref p2), some (.int (jn x12)), some (.ref a28), some (.int (jn z63))]) ?_ rfl rfl rfl rfl
            refine mj_T.pl rfl rfl rfl rfl ?_
            exact ih47 ((2147483647 - z63 : Int).toNat) (by omega) z63 h62 rz63 oh62 (by omega) rfl
        exact t87_45 _ 0 h40 ⟨by decide, by decide⟩ oh40 (by omega) rfl
      · have c79 := of_decide_eq_false c79
        refine mj_T.pl rfl rfl rfl rfl ?_
        exact jT.retb oh40 rfl rfl (by omega) (by omega)
  exact t28_16 _ z11 none none h7 rz11 oh7 (by omega) rfl
-- PolyRegisters$Desk.isDivided([J[J)Z
theorem jc_18 {D n : Nat} {tm : Int} {h g : mj_H} {K L : Nat → Nat} {R : Nat → Nat → Nat} {p0 : Nat} {p1 : Nat} {p2 : Nat} (ty : jTY K L R) (hg : g.length ≤ n) (o : jO K L R g n tm h) (kp0 : K p0 = 11) (kp1 : K p1 = 2) (kp2 : K p2 = 2) : mj_Ok (D + 4) 18 [.ref p0, .ref p1, .ref p2] h (jQ K L R g n tm [] (jVi 0 1)) := by
  refine mj_Ok.of (M := mj_m18) (loc := [some (.ref p0), some (.ref p1), some (.ref p2)]) rfl rfl rfl ?_
  refine mj_T.pl rfl rfl rfl rfl ?_
  refine jT.getR 11 113 13 ty o rfl kp0 (by decide) rfl rfl rfl (fun k1 => ?_)
  refine mj_T.pl rfl rfl rfl rfl ?_
  refine jT.lc 1 rfl rfl ?_
  refine jT.call rfl rfl (Nat.le_of_ble_eq_true rfl) (Nat.le_of_ble_eq_true rfl) (jrv_of o k1 (by decide) rfl (by decide) rfl _) rfl (mj_Ok.up (Nat.add_le_add_left (by decide) D) (jc_40 (D := D) ty hg o k1 kp1 ⟨by decide, by decide⟩)) rfl rfl (fun v2 h3 qv2 oh3 => ?_)
  obtain rfl : v2 = none := qv2
  refine mj_T.eq (pc2 := 9) (st2 := []) ?_ rfl rfl rfl rfl
  refine mj_T.pl rfl rfl rfl rfl ?_
  refine jT.getR 11 113 13 ty oh3 rfl kp0 (by decide) rfl rfl rfl (fun k4 => ?_)
  refine mj_T.pl rfl rfl rfl rfl ?_
  refine jT.lc 1 rfl rfl ?_
  refine jT.call rfl rfl (Nat.le_of_ble_eq_true rfl) (Nat.le_of_ble_eq_true rfl) (jrv_of oh3 k4 (by decide) rfl (by decide) rfl _) rfl (mj_Ok.up (Nat.add_le_add_left (by decide) D) (jc_40 (D := D) ty hg oh3 k4 kp2 ⟨by decide, by decide⟩)) rfl rfl (fun v5 h6 qv5 oh6 => ?_)
  obtain rfl : v5 = none := qv5
  refine mj_T.eq (pc2 := 18) (st2 := []) ?_ rfl rfl rfl rfl
  refine mj_T.pl rfl rfl rfl rfl ?_
  refine jT.getR 11 113 13 ty oh6 rfl kp0 (by decide) rfl rfl rfl (fun k7 => ?_)
  refine jT.getI 13 6 oh6 rfl k7 (by decide) rfl rfl rfl (fun z8 (az8 : (-1) ≤ z8) (bz8 : z8 ≤ 30) fz8 => ?_)
  have rz8 : -2147483648 ≤ z8 ∧ z8 ≤ 2147483647 := ⟨by omega, by omega⟩
  refine mj_T.pl rfl rfl rfl rfl ?_
  refine jT.getR 11 113 13 ty oh6 rfl kp0 (by decide) rfl rfl rfl (fun k9 => ?_)
  refine jT.getI 13 6 oh6 rfl k9 (by decide) rfl rfl rfl (fun z10 (az10 : (-1) ≤ z10) (bz10 : z10 ≤ 30) fz10 => ?_)
  have rz10 : -2147483648 ≤ z10 ∧ z10 ≤ 2147483647 := ⟨by omega, by omega⟩
  have t45_11 : mj_T (D + 3) mj_m18 45 [some (.ref p0), some (.ref p1), some (.ref p2)] [] h6 (jQ K L R g n tm [] (jVi 0 1)) := by
    refine mj_T.pl rfl rfl rfl rfl ?_
    refine jT.getR 11 113 13 ty oh6 rfl kp0 (by decide) rfl rfl rfl (fun k12 => ?_)
    refine jT.getK 13 6 oh6 rfl k12 (by decide) rfl rfl rfl fz8.symm ?_
    refine jT.if0 rfl rz8 (fun c52 => ?_) (fun c52 => ?_)
    · have c52 := of_decide_eq_true c52
      refine mj_T.pl rfl rfl rfl rfl ?_
      exact jT.retb oh6 rfl rfl (by omega) (by omega)
    · have c52 := of_decide_eq_false c52
      iterate 2 refine mj_T.pl rfl rfl rfl rfl ?_
      exact jT.retb oh6 rfl rfl (by omega) (by omega)
  refine jT.icmp rfl rz8 rz10 (fun c32 => ?_) (fun c32 => ?_)
  · have c32 := of_decide_eq_true c32
    exact t45_11 
  · have c32 := of_decide_eq_false c32
    refine mj_T.pl rfl rfl rfl rfl ?_
    refine jT.getR 11 113 13 ty oh6 rfl kp0 (by decide) rfl rfl rfl (fun k13 => ?_)
    refine jT.getK 13 6 oh6 rfl k13 (by decide) rfl rfl rfl fz10.symm ?_
    refine jT.if0 rfl rz10 (fun c42 => ?_) (fun c42 => ?_)
    · have c42 := of_decide_eq_true c42
      iterate 2 refine mj_T.pl rfl rfl rfl rfl ?_
      refine jT.getR 11 113 13 ty oh6 rfl kp0 (by decide) rfl rfl rfl (fun k14 => ?_)
      refine mj_T.pl rfl rfl rfl rfl ?_
      refine jT.getR 11 113 13 ty oh6 rfl kp0 (by decide) rfl rfl rfl (fun k15 => ?_)
      refine jT.call rfl rfl (Nat.le_of_ble_eq_true rfl) (Nat.le_of_ble_eq_true rfl) (jrv_of oh6 kp0 (by decide) rfl (by decide) rfl _) rfl (mj_Ok.up (Nat.add_le_add_left (by decide) D) (jc_19 (D := D) ty hg oh6 kp0 k14 k15)) rfl rfl (fun v16 h17 qv16 oh17 => ?_)
      obtain ⟨z18, az18, bz18, rfl⟩ := qv16
      have rz18 : -2147483648 ≤ z18 ∧ z18 ≤ 2147483647 := ⟨by omega, by omega⟩
      refine mj_T.eq (pc2 := 73) (st2 := [.int (jn z18)]) ?_ rfl rfl rfl rfl
      exact jT.retb oh17 rfl rfl (by omega) (by omega)
    · have c42 := of_decide_eq_false c42
      exact t45_11 
-- PolyRegisters$Desk.divideParts(LPolyRegisters$Poly;LPolyRegisters$Wide;I)V
theorem jc_20 {D n : Nat} {tm : Int} {h g : mj_H} {K L : Nat → Nat} {R : Nat → Nat → Nat} {p0 : Nat} {p1 : Nat} {p2 : Nat} {p3 : Int} (ty : jTY K L R) (hg : g.length ≤ n) (o : jO K L R g n tm h) (kp0 : K p0 = 11) (kp1 : K p1 = 13) (kp2 : K p2 = 18) (rp3 : -2147483648 ≤ p3 ∧ p3 ≤ 2147483647) : mj_Ok (D + 3) 20 [.ref p0, .ref p1, .ref p2, .int (jn p3)] h (jQ K L R g n tm [] jV0) := by
  refine mj_Ok.of (M := mj_m20) (loc := [some (.ref p0), some (.ref p1), some (.ref p2), some (.int (jn p3)), none, none, none]) rfl rfl rfl ?_
  refine mj_T.pl rfl rfl rfl rfl ?_
  refine jT.getR 11 112 12 ty o rfl kp0 (by decide) rfl rfl rfl (fun k1 => ?_)
  refine mj_T.pl rfl rfl rfl rfl ?_
  refine jT.call rfl rfl (Nat.le_of_ble_eq_true rfl) (Nat.le_of_ble_eq_true rfl) (jrv_of o k1 (by decide) rfl (by decide) rfl _) rfl (mj_Ok.up (Nat.add_le_add_left (by decide) D) (jc_30 (D := D) ty hg o k1 kp2)) rfl rfl (fun v2 h3 qv2 oh3 => ?_)
  obtain rfl : v2 = none := qv2
  refine mj_T.eq (pc2 := 8) (st2 := []) ?_ rfl rfl rfl rfl
  refine mj_T.pl rfl rfl rfl rfl ?_
  refine mj_T.pl (loc' := [some (.ref p0), some (.ref p1), some (.ref p2), some (.int (jn p3)), some (.int (jn 0)), none, none]) rfl rfl rfl rfl ?_
  have t11_8 : ∀ (k9 : Nat) (x4 : Int) (w5 : Option Value) (w6 : Option Value) (h7 : mj_H), (-2147483648 ≤ x4 ∧ x4 ≤ 2147483647) → (jO K L R g n tm h7) → (0 ≤ x4) → (2147483647 - x4 : Int).toNat = k9 → mj_T (D + 2) mj_m20 11 [some (.ref p0), some (.ref p1), some (.ref p2), some (.int (jn p3)), some (.int (jn x4)), w5, w6] [] h7 (jQ K L R g n tm [] jV0) := by
    refine jInd (fun k9 ih10 => ?_)
    intro x4 w5 w6 h7 rx4 oh7 ix4 hm11
    refine mj_T.pl rfl rfl rfl rfl ?_
    refine mj_T.pl rfl rfl rfl rfl ?_
    refine jT.getI 13 6 oh7 rfl kp1 (by decide) rfl rfl rfl (fun z12 (az12 : (-1) ≤ z12) (bz12 : z12 ≤ 30) fz12 => ?_)
    have rz12 : -2147483648 ≤ z12 ∧ z12 ≤ 2147483647 := ⟨by omega, by omega⟩
    refine jT.icmp rfl rx4 rz12 (fun c17 => ?_) (fun c17 => ?_)
    · have c17 := of_decide_eq_true c17
      exact jT.ret oh7 rfl rfl rfl rfl
    · have c17 := of_decide_eq_false c17
      iterate 2 refine mj_T.pl rfl rfl rfl rfl ?_
      refine jT.callp rfl rfl (Nat.le_of_ble_eq_true rfl) (Nat.le_of_ble_eq_true rfl) (jrv_of oh7 kp1 (by decide) rfl (by decide) rfl _) rfl (mj_Ok.up (Nat.add_le_add_left (by decide) D) (jc_36 (D := D) ty hg oh7 kp1 rx4)) rfl rfl (fun v13 qv13 => ?_)
      obtain ⟨a14, ka14, rfl⟩ := qv13
      refine mj_T.eq (pc2 := 26) (st2 := [.ref a14]) ?_ rfl rfl rfl rfl
      refine mj_T.pl (loc' := [some (.ref p0), some (.ref p1), some (.ref p2), some (.int (jn p3)), some (.int (jn x4)), some (.ref a14), w6]) rfl rfl rfl rfl ?_
      refine mj_T.pl rfl rfl rfl rfl ?_
      refine mj_T.pl (loc' := [some (.ref p0), some (.ref p1), some (.ref p2), some (.int (jn p3)), some (.int (jn x4)), some (.ref a14), some (.int (jn 0))]) rfl rfl rfl rfl ?_
      have t31_17 : ∀ (k18 : Nat) (x15 : Int) (h16 : mj_H), (-2147483648 ≤ x15 ∧ x15 ≤ 2147483647) → (jO K L R g n tm h16) → (0 ≤ x15) → (2147483647 - x15 : Int).toNat = k18 → mj_T (D + 2) mj_m20 31 [some (.ref p0), some (.ref p1), some (.ref p2), some (.int (jn p3)), some (.int (jn x4)), some (.ref a14), some (.int (jn x15))] [] h16 (jQ K L R g n tm [] jV0) := by
        refine jInd (fun k18 ih19 => ?_)
        intro x15 h16 rx15 oh16 ix15 hm20
        refine mj_T.pl rfl rfl rfl rfl ?_
        refine mj_T.pl rfl rfl rfl rfl ?_
        refine jT.icmp rfl rx15 rp3 (fun c34 => ?_) (fun c34 => ?_)
        · have c34 := of_decide_eq_true c34
          refine jT.iinc rfl rfl (fun z21 rz21 ez21 => ?_)
          replace ez21 := ez21 ⟨by omega, by omega⟩
          refine mj_T.eq (loc2 := [some (.ref p0), some (.ref p1), some (.ref p2), some (.int (jn p3)), some (.int (jn z21)), some (.ref a14), some (.int (jn x15))]) ?_ rfl rfl rfl rfl
          refine mj_T.pl rfl rfl rfl rfl ?_
          exact ih10 ((2147483647 - z21 : Int).toNat) (by omega) z21 (some (.ref a14)) (some (.int (jn x15))) h16 rz21 oh16 (by omega) rfl
        · have c34 := of_decide_eq_false c34
          refine mj_T.pl rfl rfl rfl rfl ?_
          refine jT.getR 11 112 12 ty oh16 rfl kp0 (by decide) rfl rfl rfl (fun k22 => ?_)
          iterate 2 refine mj_T.pl rfl rfl rfl rfl ?_
          refine jT.getR 11 118 18 ty oh16 rfl kp0 (by decide) rfl rfl rfl (fun k23 => ?_)
          refine jT.call rfl rfl (Nat.le_of_ble_eq_true rfl) (Nat.le_of_ble_eq_true rfl) (jrv_of oh16 k22 (by decide) rfl (by decide) rfl _) rfl (mj_Ok.up (Nat.add_le_add_left (by decide) D) (jc_31 (D := D) ty hg oh16 k22 ka14 k23)) rfl rfl (fun v24 h25 qv24 oh25 => ?_)
          obtain rfl : v24 = none := qv24
          refine mj_T.eq (pc2 := 50) (st2 := []) ?_ rfl rfl rfl rfl
          iterate 2 refine mj_T.pl rfl rfl rfl rfl ?_
          refine jT.getR 11 118 18 ty oh25 rfl kp0 (by decide) rfl rfl rfl (fun k26 => ?_)
          refine jT.call rfl rfl (Nat.le_of_ble_eq_true rfl) (Nat.le_of_ble_eq_true rfl) (jrv_of oh25 ka14 (by decide) rfl (by decide) rfl _) rfl (mj_Ok.up (Nat.add_le_add_left (by decide) D) (jc_87 (D := D) ty hg oh25 ka14 k26)) rfl rfl (fun v27 h28 qv27 oh28 => ?_)
          obtain rfl : v27 = none := qv27
          refine mj_T.eq (pc2 := 59) (st2 := []) ?_ rfl rfl rfl rfl
          refine jT.iinc rfl rfl (fun z29 rz29 ez29 => ?_)
          replace ez29 := ez29 ⟨by omega, by omega⟩
          refine mj_T.eq (loc2 := [some (.ref p0), some (.ref p1), some (.ref p2), some (.int (jn p3)), some (.int (jn x4)), some (.ref a14), some (.int (jn z29))]) ?_ rfl rfl rfl rfl
          refine mj_T.pl rfl rfl rfl rfl ?_
          exact ih19 ((2147483647 - z29 : Int).toNat) (by omega) z29 h28 rz29 oh28 (by omega) rfl
      exact t31_17 _ 0 h7 ⟨by decide, by decide⟩ oh7 (by omega) rfl
  exact t11_8 _ 0 none none h3 ⟨by decide, by decide⟩ oh3 (by omega) rfl
-- PolyRegisters$Desk.gather(J[J)V
theorem jc_21 {D n : Nat} {tm : Int} {h g : mj_H} {K L : Nat → Nat} {R : Nat → Nat → Nat} {p0 : Nat} {p1 : Int} {p2 : Nat} (ty : jTY K L R) (hg : g.length ≤ n) (o : jO K L R g n tm h) (kp0 : K p0 = 11) (jp1 : jR p1) (kp2 : K p2 = 2) : mj_Ok (D + 3) 21 [.ref p0, .long (jl p1), .ref p2] h (jQ K L R g n tm [] jV0) := by
  refine mj_Ok.of (M := mj_m21) (loc := [some (.ref p0), some (.long (jl p1)), none, some (.ref p2), none]) rfl rfl rfl ?_
  refine mj_T.pl rfl rfl rfl rfl ?_
  refine jT.getR 11 118 18 ty o rfl kp0 (by decide) rfl rfl rfl (fun k1 => ?_)
  refine mj_T.pl rfl rfl rfl rfl ?_
  refine jT.call rfl rfl (Nat.le_of_ble_eq_true rfl) (Nat.le_of_ble_eq_true rfl) (jrv_of o k1 (by decide) rfl (by decide) rfl _) rfl (mj_Ok.up (Nat.add_le_add_left (by decide) D) (jc_86 (D := D) ty hg o k1 jp1)) rfl rfl (fun v2 h3 qv2 oh3 => ?_)
  obtain rfl : v2 = none := qv2
  refine mj_T.eq (pc2 := 8) (st2 := []) ?_ rfl rfl rfl rfl
  refine mj_T.pl rfl rfl rfl rfl ?_
  refine mj_T.pl (loc' := [some (.ref p0), some (.long (jl p1)), none, some (.ref p2), some (.int (jn 0))]) rfl rfl rfl rfl ?_
  have t11_6 : ∀ (k7 : Nat) (x4 : Int) (h5 : mj_H), (-2147483648 ≤ x4 ∧ x4 ≤ 2147483647) → (jO K L R g n tm h5) → (0 ≤ x4) → (2147483647 - x4 : Int).toNat = k7 → mj_T (D + 2) mj_m21 11 [some (.ref p0), some (.long (jl p1)), none, some (.ref p2), some (.int (jn x4))] [] h5 (jQ K L R g n tm [] jV0) := by
    refine jInd (fun k7 ih8 => ?_)
    intro x4 h5 rx4 oh5 ix4 hm9
    refine mj_T.pl rfl rfl rfl rfl ?_
    refine mj_T.pl rfl rfl rfl rfl ?_
    refine jT.alen 2 ty oh5 rfl kp2 (by decide) (by decide) (fun z10 ez10 (az10 : 13 ≤ z10) (bz10 : z10 ≤ 13) => ?_)
    have rz10 : -2147483648 ≤ z10 ∧ z10 ≤ 2147483647 := ⟨by omega, by omega⟩
    refine jT.icmp rfl rx4 rz10 (fun c15 => ?_) (fun c15 => ?_)
    · have c15 := of_decide_eq_true c15
      refine mj_T.pl rfl rfl rfl rfl ?_
      refine jT.getR 11 113 13 ty oh5 rfl kp0 (by decide) rfl rfl rfl (fun k11 => ?_)
      refine jT.call rfl rfl (Nat.le_of_ble_eq_true rfl) (Nat.le_of_ble_eq_true rfl) (jrv_of oh5 k11 (by decide) rfl (by decide) rfl _) rfl (mj_Ok.up (Nat.add_le_add_left (by decide) D) (jc_42 (D := D) ty hg oh5 k11)) rfl rfl (fun v12 h13 qv12 oh13 => ?_)
      obtain rfl : v12 = none := qv12
      refine mj_T.eq (pc2 := 74) (st2 := []) ?_ rfl rfl rfl rfl
      exact jT.ret oh13 rfl rfl rfl rfl
    · have c15 := of_decide_eq_false c15
      refine mj_T.pl rfl rfl rfl rfl ?_
      refine jT.getR 11 118 18 ty oh5 rfl kp0 (by decide) rfl rfl rfl (fun k14 => ?_)
      iterate 2 refine mj_T.pl rfl rfl rfl rfl ?_
      refine jT.lald oh5 rfl kp2 rx4 ⟨by omega, by omega⟩ (fun z15 jz15 => ?_)
      refine jT.call rfl rfl (Nat.le_of_ble_eq_true rfl) (Nat.le_of_ble_eq_true rfl) (jrv_of oh5 k14 (by decide) rfl (by decide) rfl _) rfl (mj_Ok.up (Nat.add_le_add_left (by decide) D) (jc_86 (D := D) ty hg oh5 k14 jz15)) rfl rfl (fun v16 h17 qv16 oh17 => ?_)
      obtain rfl : v16 = none := qv16
      refine mj_T.eq (pc2 := 29) (st2 := []) ?_ rfl rfl rfl rfl
      refine mj_T.pl rfl rfl rfl rfl ?_
      refine jT.getR 11 118 18 ty oh17 rfl kp0 (by decide) rfl rfl rfl (fun k18 => ?_)
      refine mj_T.pl rfl rfl rfl rfl ?_
      refine jT.getR 11 118 18 ty oh17 rfl kp0 (by decide) rfl rfl rfl (fun k19 => ?_)
      refine mj_T.pl rfl rfl rfl rfl ?_
      refine jT.getR 11 118 18 ty oh17 rfl kp0 (by decide) rfl rfl rfl (fun k20 => ?_)
      refine jT.call rfl rfl (Nat.le_of_ble_eq_true rfl) (Nat.le_of_ble_eq_true rfl) (jrv_of oh17 k18 (by decide) rfl (by decide) rfl _) rfl (mj_Ok.up (Nat.add_le_add_left (by decide) D) (jc_95 (D := D) ty hg oh17 k18 k19 k20)) rfl rfl (fun v21 h22 qv21 oh22 => ?_)
      obtain rfl : v21 = none := qv21
      refine mj_T.eq (pc2 := 44) (st2 := []) ?_ rfl rfl rfl rfl
      refine mj_T.pl rfl rfl rfl rfl ?_
      refine jT.getR 11 113 13 ty oh22 rfl kp0 (by decide) rfl rfl rfl (fun k23 => ?_)
      refine mj_T.pl rfl rfl rfl rfl ?_
      refine jT.callp rfl rfl (Nat.le_of_ble_eq_true rfl) (Nat.le_of_ble_eq_true rfl) (jrv_of oh22 k23 (by decide) rfl (by decide) rfl _) rfl (mj_Ok.up (Nat.add_le_add_left (by decide) D) (jc_36 (D := D) ty hg oh22 k23 rx4)) rfl rfl (fun v24 qv24 => ?_)
      obtain ⟨a25, ka25, rfl⟩ := qv24
      refine mj_T.eq (pc2 := 53) (st2 := [.ref a25]) ?_ rfl rfl rfl rfl
      refine mj_T.pl rfl rfl rfl rfl ?_
      refine jT.getR 11 118 18 ty oh22 rfl kp0 (by decide) rfl rfl rfl (fun k26 => ?_)
      refine mj_T.pl rfl rfl rfl rfl ?_
      refine jT.call rfl rfl (Nat.le_of_ble_eq_true rfl) (Nat.le_of_ble_eq_true rfl) (jrv_of oh22 ka25 (by decide) rfl (by decide) rfl _) rfl (mj_Ok.up (Nat.add_le_add_left (by decide) D) (jc_91 (D := D) ty hg oh22 ka25 k26 ⟨by decide, by decide⟩)) rfl rfl (fun v27 h28 qv27 oh28 => ?_)
      obtain rfl : v27 = none := qv27
      refine mj_T.eq (pc2 := 61) (st2 := []) ?_ rfl rfl rfl rfl
      refine jT.iinc rfl rfl (fun z29 rz29 ez29 => ?_)
      replace ez29 := ez29 ⟨by omega, by omega⟩
      refine mj_T.eq (loc2 := [some (.ref p0), some (.long (jl p1)), none, some (.ref p2), some (.int (jn z29))]) ?_ rfl rfl rfl rfl
      refine mj_T.pl rfl rfl rfl rfl ?_
      exact ih8 ((2147483647 - z29 : Int).toNat) (by omega) z29 h28 rz29 oh28 (by omega) rfl
  exact t11_6 _ 0 h3 ⟨by decide, by decide⟩ oh3 (by omega) rfl
-- PolyRegisters$Desk.commonOf(LPolyRegisters$Wide;J)J
theorem jc_23 {D n : Nat} {tm : Int} {h g : mj_H} {K L : Nat → Nat} {R : Nat → Nat → Nat} {p0 : Nat} {p1 : Nat} {p2 : Int} (ty : jTY K L R) (hg : g.length ≤ n) (o : jO K L R g n tm h) (kp0 : K p0 = 11) (kp1 : K p1 = 18) (jp2 : jR p2) : mj_Ok (D + 3) 23 [.ref p0, .ref p1, .long (jl p2)] h (jQ K L R g n tm [] jVl) := by
  refine mj_Ok.of (M := mj_m23) (loc := [some (.ref p0), some (.ref p1), some (.long (jl p2)), none]) rfl rfl rfl ?_
  refine mj_T.pl rfl rfl rfl rfl ?_
  refine jT.getR 11 118 18 ty o rfl kp0 (by decide) rfl rfl rfl (fun k1 => ?_)
  refine mj_T.pl rfl rfl rfl rfl ?_
  refine jT.call rfl rfl (Nat.le_of_ble_eq_true rfl) (Nat.le_of_ble_eq_true rfl) (jrv_of o k1 (by decide) rfl (by decide) rfl _) rfl (mj_Ok.up (Nat.add_le_add_left (by decide) D) (jc_86 (D := D) ty hg o k1 jp2)) rfl rfl (fun v2 h3 qv2 oh3 => ?_)
  obtain rfl : v2 = none := qv2
  refine mj_T.eq (pc2 := 8) (st2 := []) ?_ rfl rfl rfl rfl
  refine mj_T.pl rfl rfl rfl rfl ?_
  refine jT.getR 11 112 12 ty oh3 rfl kp0 (by decide) rfl rfl rfl (fun k4 => ?_)
  refine mj_T.pl rfl rfl rfl rfl ?_
  refine jT.getR 11 118 18 ty oh3 rfl kp0 (by decide) rfl rfl rfl (fun k5 => ?_)
  refine jT.call rfl rfl (Nat.le_of_ble_eq_true rfl) (Nat.le_of_ble_eq_true rfl) (jrv_of oh3 k4 (by decide) rfl (by decide) rfl _) rfl (mj_Ok.up (Nat.add_le_add_left (by decide) D) (jc_30 (D := D) ty hg oh3 k4 k5)) rfl rfl (fun v6 h7 qv6 oh7 => ?_)
  obtain rfl : v6 = none := qv6
  refine mj_T.eq (pc2 := 19) (st2 := []) ?_ rfl rfl rfl rfl
  refine mj_T.pl rfl rfl rfl rfl ?_
  refine jT.getR 11 118 18 ty oh7 rfl kp0 (by decide) rfl rfl rfl (fun k8 => ?_)
  refine mj_T.pl rfl rfl rfl rfl ?_
  refine jT.call rfl rfl (Nat.le_of_ble_eq_true rfl) (Nat.le_of_ble_eq_true rfl) (jrv_of oh7 k8 (by decide) rfl (by decide) rfl _) rfl (mj_Ok.up (Nat.add_le_add_left (by decide) D) (jc_87 (D := D) ty hg oh7 k8 kp1)) rfl rfl (fun v9 h10 qv9 oh10 => ?_)
  obtain rfl : v9 = none := qv9
  refine mj_T.eq (pc2 := 27) (st2 := []) ?_ rfl rfl rfl rfl
  refine mj_T.pl rfl rfl rfl rfl ?_
  refine jT.getR 11 112 12 ty oh10 rfl kp0 (by decide) rfl rfl rfl (fun k11 => ?_)
  refine mj_T.pl rfl rfl rfl rfl ?_
  refine jT.getR 11 118 18 ty oh10 rfl kp0 (by decide) rfl rfl rfl (fun k12 => ?_)
  refine mj_T.pl rfl rfl rfl rfl ?_
  refine jT.getR 11 118 18 ty oh10 rfl kp0 (by decide) rfl rfl rfl (fun k13 => ?_)
  refine jT.call rfl rfl (Nat.le_of_ble_eq_true rfl) (Nat.le_of_ble_eq_true rfl) (jrv_of oh10 k11 (by decide) rfl (by decide) rfl _) rfl (mj_Ok.up (Nat.add_le_add_left (by decide) D) (jc_31 (D := D) ty hg oh10 k11 k12 k13)) rfl rfl (fun v14 h15 qv14 oh15 => ?_)
  obtain rfl : v14 = none := qv14
  refine mj_T.eq (pc2 := 42) (st2 := []) ?_ rfl rfl rfl rfl
  refine mj_T.pl rfl rfl rfl rfl ?_
  refine jT.getR 11 118 18 ty oh15 rfl kp0 (by decide) rfl rfl rfl (fun k16 => ?_)
  refine jT.callp rfl rfl (Nat.le_of_ble_eq_true rfl) (Nat.le_of_ble_eq_true rfl) (jrv_of oh15 k16 (by decide) rfl (by decide) rfl _) rfl (mj_Ok.up (Nat.add_le_add_left (by decide) D) (jc_100 (D := D) ty hg oh15 k16)) rfl rfl (fun v17 qv17 => ?_)
  obtain ⟨z18, jz18, rfl⟩ := qv17
  refine mj_T.eq (pc2 := 49) (st2 := [.long (jl z18)]) ?_ rfl rfl rfl rfl
  refine mj_T.pl rfl rfl rfl rfl ?_
  refine jT.callp rfl rfl (Nat.le_of_ble_eq_true rfl) (Nat.le_of_ble_eq_true rfl) rfl rfl (mj_Ok.up (Nat.add_le_add_left (by decide) D) (jc_171 (D := D) ty hg oh15 jz18 jp2)) rfl rfl (fun v19 qv19 => ?_)
  obtain ⟨z20, jz20, rfl⟩ := qv19
  refine mj_T.eq (pc2 := 53) (st2 := [.long (jl z20)]) ?_ rfl rfl rfl rfl
  exact jT.ret oh15 rfl rfl rfl ⟨z20, jz20, rfl⟩
-- PolyRegisters$Desk.shorten(J)J
theorem jc_22 {D n : Nat} {tm : Int} {h g : mj_H} {K L : Nat → Nat} {R : Nat → Nat → Nat} {p0 : Nat} {p1 : Int} (ty : jTY K L R) (hg : g.length ≤ n) (o : jO K L R g n tm h) (kp0 : K p0 = 11) (jp1 : jR p1) : mj_Ok (D + 4) 22 [.ref p0, .long (jl p1)] h (jQ K L R g n tm [] jVl) := by
  refine mj_Ok.of (M := mj_m22) (loc := [some (.ref p0), some (.long (jl p1)), none, none, none, none]) rfl rfl rfl ?_
  refine mj_T.pl rfl rfl rfl rfl ?_
  refine mj_T.pl (loc' := [some (.ref p0), some (.long (jl p1)), none, some (.long (jl p1)), none, none]) rfl rfl rfl rfl ?_
  refine mj_T.pl rfl rfl rfl rfl ?_
  refine mj_T.pl (loc' := [some (.ref p0), some (.long (jl p1)), none, some (.long (jl p1)), none, some (.int (jn 0))]) rfl rfl rfl rfl ?_
  have t5_4 : ∀ (k5 : Nat) (y1 : Int) (x2 : Int) (h3 : mj_H), (jR y1) → (-2147483648 ≤ x2 ∧ x2 ≤ 2147483647) → (jO K L R g n tm h3) → (0 ≤ x2) → (2147483647 - x2 : Int).toNat = k5 → mj_T (D + 3) mj_m22 5 [some (.ref p0), some (.long (jl p1)), none, some (.long (jl y1)), none, some (.int (jn x2))] [] h3 (jQ K L R g n tm [] jVl) := by
    refine jInd (fun k5 ih6 => ?_)
    intro y1 x2 h3 jy1 rx2 oh3 ix2 hm7
    refine mj_T.pl rfl rfl rfl rfl ?_
    refine mj_T.pl rfl rfl rfl rfl ?_
    refine jT.getR 11 113 13 ty oh3 rfl kp0 (by decide) rfl rfl rfl (fun k8 => ?_)
    refine jT.getI 13 6 oh3 rfl k8 (by decide) rfl rfl rfl (fun z9 (az9 : (-1) ≤ z9) (bz9 : z9 ≤ 30) fz9 => ?_)
    have rz9 : -2147483648 ≤ z9 ∧ z9 ≤ 2147483647 := ⟨by omega, by omega⟩
    refine jT.icmp rfl rx2 rz9 (fun c14 => ?_) (fun c14 => ?_)
    · have c14 := of_decide_eq_true c14
      refine mj_T.pl rfl rfl rfl rfl ?_
      refine jT.getR 11 118 18 ty oh3 rfl kp0 (by decide) rfl rfl rfl (fun k10 => ?_)
      refine mj_T.pl rfl rfl rfl rfl ?_
      refine jT.call rfl rfl (Nat.le_of_ble_eq_true rfl) (Nat.le_of_ble_eq_true rfl) (jrv_of oh3 k10 (by decide) rfl (by decide) rfl _) rfl (mj_Ok.up (Nat.add_le_add_left (by decide) D) (jc_86 (D := D) ty hg oh3 k10 jy1)) rfl rfl (fun v11 h12 qv11 oh12 => ?_)
      obtain rfl : v11 = none := qv11
      refine mj_T.eq (pc2 := 46) (st2 := []) ?_ rfl rfl rfl rfl
      iterate 2 refine mj_T.pl rfl rfl rfl rfl ?_
      refine jT.getR 11 113 13 ty oh12 rfl kp0 (by decide) rfl rfl rfl (fun k13 => ?_)
      refine mj_T.pl rfl rfl rfl rfl ?_
      refine jT.getR 11 118 18 ty oh12 rfl kp0 (by decide) rfl rfl rfl (fun k14 => ?_)
      refine mj_T.pl rfl rfl rfl rfl ?_
      refine jT.call rfl rfl (Nat.le_of_ble_eq_true rfl) (Nat.le_of_ble_eq_true rfl) (jrv_of oh12 kp0 (by decide) rfl (by decide) rfl _) rfl (mj_Ok.up (Nat.add_le_add_left (by decide) D) (jc_20 (D := D) ty hg oh12 kp0 k13 k14 ⟨by decide, by decide⟩)) rfl rfl (fun v15 h16 qv15 oh16 => ?_)
      obtain rfl : v15 = none := qv15
      refine mj_T.eq (pc2 := 59) (st2 := []) ?_ rfl rfl rfl rfl
      refine mj_T.pl rfl rfl rfl rfl ?_
      exact jT.ret oh16 rfl rfl rfl ⟨y1, jy1, rfl⟩
    · have c14 := of_decide_eq_false c14
      iterate 2 refine mj_T.pl rfl rfl rfl rfl ?_
      refine jT.getR 11 113 13 ty oh3 rfl kp0 (by decide) rfl rfl rfl (fun k17 => ?_)
      refine mj_T.pl rfl rfl rfl rfl ?_
      refine jT.callp rfl rfl (Nat.le_of_ble_eq_true rfl) (Nat.le_of_ble_eq_true rfl) (jrv_of oh3 k17 (by decide) rfl (by decide) rfl _) rfl (mj_Ok.up (Nat.add_le_add_left (by decide) D) (jc_36 (D := D) ty hg oh3 k17 rx2)) rfl rfl (fun v18 qv18 => ?_)
      obtain ⟨a19, ka19, rfl⟩ := qv18
      refine mj_T.eq (pc2 := 27) (st2 := [.ref a19, .ref p0]) ?_ rfl rfl rfl rfl
      refine mj_T.pl rfl rfl rfl rfl ?_
      refine jT.call rfl rfl (Nat.le_of_ble_eq_true rfl) (Nat.le_of_ble_eq_true rfl) (jrv_of oh3 kp0 (by decide) rfl (by decide) rfl _) rfl (mj_Ok.up (Nat.add_le_add_left (by decide) D) (jc_23 (D := D) ty hg oh3 kp0 ka19 jy1)) rfl rfl (fun v20 h21 qv20 oh21 => ?_)
      obtain ⟨z22, jz22, rfl⟩ := qv20
      refine mj_T.eq (pc2 := 31) (st2 := [.long (jl z22)]) ?_ rfl rfl rfl rfl
      refine mj_T.pl (loc' := [some (.ref p0), some (.long (jl p1)), none, some (.long (jl z22)), none, some (.int (jn x2))]) rfl rfl rfl rfl ?_
      refine jT.iinc rfl rfl (fun z23 rz23 ez23 => ?_)
      replace ez23 := ez23 ⟨by omega, by omega⟩
      refine mj_T.eq (loc2 := [some (.ref p0), some (.long (jl p1)), none, some (.long (jl z22)), none, some (.int (jn z23))]) ?_ rfl rfl rfl rfl
      refine mj_T.pl rfl rfl rfl rfl ?_
      exact ih6 ((2147483647 - z23 : Int).toNat) (by omega) z22 z23 h21 jz22 rz23 oh21 (by omega) rfl
  exact t5_4 _ p1 0 h jp1 ⟨by decide, by decide⟩ o (by omega) rfl
-- PolyRegisters$Desk.enlarge(LPolyRegisters$Wide;J)V
theorem jc_24 {D n : Nat} {tm : Int} {h g : mj_H} {K L : Nat → Nat} {R : Nat → Nat → Nat} {p0 : Nat} {p1 : Nat} {p2 : Int} (ty : jTY K L R) (hg : g.length ≤ n) (o : jO K L R g n tm h) (kp0 : K p0 = 11) (kp1 : K p1 = 18) (jp2 : jR p2) : mj_Ok (D + 2) 24 [.ref p0, .ref p1, .long (jl p2)] h (jQ K L R g n tm [] jV0) := by
  refine mj_Ok.of (M := mj_m24) (loc := [some (.ref p0), some (.ref p1), some (.long (jl p2)), none]) rfl rfl rfl ?_
  refine mj_T.pl rfl rfl rfl rfl ?_
  refine jT.getR 11 118 18 ty o rfl kp0 (by decide) rfl rfl rfl (fun k1 => ?_)
  refine mj_T.pl rfl rfl rfl rfl ?_
  refine jT.call rfl rfl (Nat.le_of_ble_eq_true rfl) (Nat.le_of_ble_eq_true rfl) (jrv_of o k1 (by decide) rfl (by decide) rfl _) rfl (mj_Ok.up (Nat.add_le_add_left (by decide) D) (jc_86 (D := D) ty hg o k1 jp2)) rfl rfl (fun v2 h3 qv2 oh3 => ?_)
  obtain rfl : v2 = none := qv2
  refine mj_T.eq (pc2 := 8) (st2 := []) ?_ rfl rfl rfl rfl
  refine mj_T.pl rfl rfl rfl rfl ?_
  refine jT.getR 11 118 18 ty oh3 rfl kp0 (by decide) rfl rfl rfl (fun k4 => ?_)
  iterate 2 refine mj_T.pl rfl rfl rfl rfl ?_
  refine jT.getR 11 118 18 ty oh3 rfl kp0 (by decide) rfl rfl rfl (fun k5 => ?_)
  refine jT.call rfl rfl (Nat.le_of_ble_eq_true rfl) (Nat.le_of_ble_eq_true rfl) (jrv_of oh3 k4 (by decide) rfl (by decide) rfl _) rfl (mj_Ok.up (Nat.add_le_add_left (by decide) D) (jc_95 (D := D) ty hg oh3 k4 kp1 k5)) rfl rfl (fun v6 h7 qv6 oh7 => ?_)
  obtain rfl : v6 = none := qv6
  refine mj_T.eq (pc2 := 20) (st2 := []) ?_ rfl rfl rfl rfl
  iterate 2 refine mj_T.pl rfl rfl rfl rfl ?_
  refine jT.getR 11 118 18 ty oh7 rfl kp0 (by decide) rfl rfl rfl (fun k8 => ?_)
  refine jT.call rfl rfl (Nat.le_of_ble_eq_true rfl) (Nat.le_of_ble_eq_true rfl) (jrv_of oh7 kp1 (by decide) rfl (by decide) rfl _) rfl (mj_Ok.up (Nat.add_le_add_left (by decide) D) (jc_87 (D := D) ty hg oh7 kp1 k8)) rfl rfl (fun v9 h10 qv9 oh10 => ?_)
  obtain rfl : v9 = none := qv9
  refine mj_T.eq (pc2 := 28) (st2 := []) ?_ rfl rfl rfl rfl
  exact jT.ret oh10 rfl rfl rfl rfl
-- PolyRegisters$Desk.lessen(LPolyRegisters$Wide;J)V
theorem jc_25 {D n : Nat} {tm : Int} {h g : mj_H} {K L : Nat → Nat} {R : Nat → Nat → Nat} {p0 : Nat} {p1 : Nat} {p2 : Int} (ty : jTY K L R) (hg : g.length ≤ n) (o : jO K L R g n tm h) (kp0 : K p0 = 11) (kp1 : K p1 = 18) (jp2 : jR p2) : mj_Ok (D + 3) 25 [.ref p0, .ref p1, .long (jl p2)] h (jQ K L R g n tm [] jV0) := by
  refine mj_Ok.of (M := mj_m25) (loc := [some (.ref p0), some (.ref p1), some (.long (jl p2)), none]) rfl rfl rfl ?_
  refine mj_T.pl rfl rfl rfl rfl ?_
  refine jT.getR 11 118 18 ty o rfl kp0 (by decide) rfl rfl rfl (fun k1 => ?_)
  refine mj_T.pl rfl rfl rfl rfl ?_
  refine jT.call rfl rfl (Nat.le_of_ble_eq_true rfl) (Nat.le_of_ble_eq_true rfl) (jrv_of o k1 (by decide) rfl (by decide) rfl _) rfl (mj_Ok.up (Nat.add_le_add_left (by decide) D) (jc_86 (D := D) ty hg o k1 jp2)) rfl rfl (fun v2 h3 qv2 oh3 => ?_)
  obtain rfl : v2 = none := qv2
  refine mj_T.eq (pc2 := 8) (st2 := []) ?_ rfl rfl rfl rfl
  refine mj_T.pl rfl rfl rfl rfl ?_
  refine jT.getR 11 112 12 ty oh3 rfl kp0 (by decide) rfl rfl rfl (fun k4 => ?_)
  refine mj_T.pl rfl rfl rfl rfl ?_
  refine jT.getR 11 118 18 ty oh3 rfl kp0 (by decide) rfl rfl rfl (fun k5 => ?_)
  refine jT.call rfl rfl (Nat.le_of_ble_eq_true rfl) (Nat.le_of_ble_eq_true rfl) (jrv_of oh3 k4 (by decide) rfl (by decide) rfl _) rfl (mj_Ok.up (Nat.add_le_add_left (by decide) D) (jc_30 (D := D) ty hg oh3 k4 k5)) rfl rfl (fun v6 h7 qv6 oh7 => ?_)
  obtain rfl : v6 = none := qv6
  refine mj_T.eq (pc2 := 19) (st2 := []) ?_ rfl rfl rfl rfl
  refine mj_T.pl rfl rfl rfl rfl ?_
  refine jT.getR 11 112 12 ty oh7 rfl kp0 (by decide) rfl rfl rfl (fun k8 => ?_)
  iterate 2 refine mj_T.pl rfl rfl rfl rfl ?_
  refine jT.getR 11 118 18 ty oh7 rfl kp0 (by decide) rfl rfl rfl (fun k9 => ?_)
  refine jT.call rfl rfl (Nat.le_of_ble_eq_true rfl) (Nat.le_of_ble_eq_true rfl) (jrv_of oh7 k8 (by decide) rfl (by decide) rfl _) rfl (mj_Ok.up (Nat.add_le_add_left (by decide) D) (jc_31 (D := D) ty hg oh7 k8 kp1 k9)) rfl rfl (fun v10 h11 qv10 oh11 => ?_)
  obtain rfl : v10 = none := qv10
  refine mj_T.eq (pc2 := 31) (st2 := []) ?_ rfl rfl rfl rfl
  iterate 2 refine mj_T.pl rfl rfl rfl rfl ?_
  refine jT.getR 11 118 18 ty oh11 rfl kp0 (by decide) rfl rfl rfl (fun k12 => ?_)
  refine jT.call rfl rfl (Nat.le_of_ble_eq_true rfl) (Nat.le_of_ble_eq_true rfl) (jrv_of oh11 kp1 (by decide) rfl (by decide) rfl _) rfl (mj_Ok.up (Nat.add_le_add_left (by decide) D) (jc_87 (D := D) ty hg oh11 kp1 k12)) rfl rfl (fun v13 h14 qv13 oh14 => ?_)
  obtain rfl : v13 = none := qv13
  refine mj_T.eq (pc2 := 39) (st2 := []) ?_ rfl rfl rfl rfl
  exact jT.ret oh14 rfl rfl rfl rfl
-- PolyRegisters$Desk.stretch(LPolyRegisters$Poly;J)V
theorem jc_26 {D n : Nat} {tm : Int} {h g : mj_H} {K L : Nat → Nat} {R : Nat → Nat → Nat} {p0 : Nat} {p1 : Nat} {p2 : Int} (ty : jTY K L R) (hg : g.length ≤ n) (o : jO K L R g n tm h) (kp0 : K p0 = 11) (kp1 : K p1 = 13) (jp2 : jR p2) : mj_Ok (D + 2) 26 [.ref p0, .ref p1, .long (jl p2)] h (jQ K L R g n tm [] jV0) := by
  refine mj_Ok.of (M := mj_m26) (loc := [some (.ref p0), some (.ref p1), some (.long (jl p2)), none, none]) rfl rfl rfl ?_
  refine mj_T.pl rfl rfl rfl rfl ?_
  refine jT.getR 11 118 18 ty o rfl kp0 (by decide) rfl rfl rfl (fun k1 => ?_)
  refine jT.lc 1 rfl rfl ?_
  refine jT.call rfl rfl (Nat.le_of_ble_eq_true rfl) (Nat.le_of_ble_eq_true rfl) (jrv_of o k1 (by decide) rfl (by decide) rfl _) rfl (mj_Ok.up (Nat.add_le_add_left (by decide) D) (jc_86 (D := D) ty hg o k1 ⟨by decide, by decide⟩)) rfl rfl (fun v2 h3 qv2 oh3 => ?_)
  obtain rfl : v2 = none := qv2
  refine mj_T.eq (pc2 := 8) (st2 := []) ?_ rfl rfl rfl rfl
  refine mj_T.pl rfl rfl rfl rfl ?_
  refine jT.getI 13 6 oh3 rfl kp1 (by decide) rfl rfl rfl (fun z4 (az4 : (-1) ≤ z4) (bz4 : z4 ≤ 30) fz4 => ?_)
  have rz4 : -2147483648 ≤ z4 ∧ z4 ≤ 2147483647 := ⟨by omega, by omega⟩
  refine mj_T.pl rfl rfl rfl rfl ?_
  refine jT.isub rfl (fun z5 rz5 ez5 => ?_)
  replace ez5 := ez5 ⟨by omega, by omega⟩
  refine mj_T.pl (loc' := [some (.ref p0), some (.ref p1), some (.long (jl p2)), none, some (.int (jn z5))]) rfl rfl rfl rfl ?_
  have t16_8 : ∀ (k9 : Nat) (x6 : Int) (h7 : mj_H), (-2147483648 ≤ x6 ∧ x6 ≤ 2147483647) → (jO K L R g n tm h7) → (x6 ≤ z5) → (x6 + 1 : Int).toNat = k9 → mj_T (D + 1) mj_m26 16 [some (.ref p0), some (.ref p1), some (.long (jl p2)), none, some (.int (jn x6))] [] h7 (jQ K L R g n tm [] jV0) := by
    refine jInd (fun k9 ih10 => ?_)
    intro x6 h7 rx6 oh7 ix6 hm11
    refine mj_T.pl rfl rfl rfl rfl ?_
    refine jT.if0 rfl rx6 (fun c18 => ?_) (fun c18 => ?_)
    · have c18 := of_decide_eq_true c18
      exact jT.ret oh7 rfl rfl rfl rfl
    · have c18 := of_decide_eq_false c18
      refine mj_T.pl rfl rfl rfl rfl ?_
      refine jT.lc 1 rfl rfl ?_
      refine mj_T.lif rfl rfl jp2 ⟨by decide, by decide⟩ (fun c23 => ?_) (fun c23 => ?_)
      · have c23 := of_decide_eq_true c23
        exact jT.ret oh7 rfl rfl rfl rfl
      · have c23 := of_decide_eq_false c23
        refine mj_T.pl rfl rfl rfl rfl ?_
        refine jT.getR 11 118 18 ty oh7 rfl kp0 (by decide) rfl rfl rfl (fun k12 => ?_)
        refine mj_T.pl rfl rfl rfl rfl ?_
        refine jT.call rfl rfl (Nat.le_of_ble_eq_true rfl) (Nat.le_of_ble_eq_true rfl) (jrv_of oh7 k12 (by decide) rfl (by decide) rfl _) rfl (mj_Ok.up (Nat.add_le_add_left (by decide) D) (jc_86 (D := D) ty hg oh7 k12 jp2)) rfl rfl (fun v13 h14 qv13 oh14 => ?_)
        obtain rfl : v13 = none := qv13
        refine mj_T.eq (pc2 := 35) (st2 := []) ?_ rfl rfl rfl rfl
        refine mj_T.pl rfl rfl rfl rfl ?_
        refine jT.getR 11 118 18 ty oh14 rfl kp0 (by decide) rfl rfl rfl (fun k15 => ?_)
        refine mj_T.pl rfl rfl rfl rfl ?_
        refine jT.getR 11 118 18 ty oh14 rfl kp0 (by decide) rfl rfl rfl (fun k16 => ?_)
        refine mj_T.pl rfl rfl rfl rfl ?_
        refine jT.getR 11 118 18 ty oh14 rfl kp0 (by decide) rfl rfl rfl (fun k17 => ?_)
        refine jT.call rfl rfl (Nat.le_of_ble_eq_true rfl) (Nat.le_of_ble_eq_true rfl) (jrv_of oh14 k15 (by decide) rfl (by decide) rfl _) rfl (mj_Ok.up (Nat.add_le_add_left (by decide) D) (jc_95 (D := D) ty hg oh14 k15 k16 k17)) rfl rfl (fun v18 h19 qv18 oh19 => ?_)
        obtain rfl : v18 = none := qv18
        refine mj_T.eq (pc2 := 50) (st2 := []) ?_ rfl rfl rfl rfl
        refine mj_T.pl rfl rfl rfl rfl ?_
        refine jT.getR 11 118 18 ty oh19 rfl kp0 (by decide) rfl rfl rfl (fun k20 => ?_)
        refine mj_T.pl rfl rfl rfl rfl ?_
        refine jT.getR 11 118 18 ty oh19 rfl kp0 (by decide) rfl rfl rfl (fun k21 => ?_)
        refine jT.call rfl rfl (Nat.le_of_ble_eq_true rfl) (Nat.le_of_ble_eq_true rfl) (jrv_of oh19 k20 (by decide) rfl (by decide) rfl _) rfl (mj_Ok.up (Nat.add_le_add_left (by decide) D) (jc_87 (D := D) ty hg oh19 k20 k21)) rfl rfl (fun v22 h23 qv22 oh23 => ?_)
        obtain rfl : v22 = none := qv22
        refine mj_T.eq (pc2 := 61) (st2 := []) ?_ rfl rfl rfl rfl
        refine mj_T.pl rfl rfl rfl rfl ?_
        refine jT.getR 11 118 18 ty oh23 rfl kp0 (by decide) rfl rfl rfl (fun k24 => ?_)
        iterate 2 refine mj_T.pl rfl rfl rfl rfl ?_
        refine jT.callp rfl rfl (Nat.le_of_ble_eq_true rfl) (Nat.le_of_ble_eq_true rfl) (jrv_of oh23 kp1 (by decide) rfl (by decide) rfl _) rfl (mj_Ok.up (Nat.add_le_add_left (by decide) D) (jc_36 (D := D) ty hg oh23 kp1 rx6)) rfl rfl (fun v25 qv25 => ?_)
        obtain ⟨a26, ka26, rfl⟩ := qv25
        refine mj_T.eq (pc2 := 71) (st2 := [.ref a26, .ref (R p0 4)]) ?_ rfl rfl rfl rfl
        refine mj_T.pl rfl rfl rfl rfl ?_
        refine jT.getR 11 118 18 ty oh23 rfl kp0 (by decide) rfl rfl rfl (fun k27 => ?_)
        refine jT.call rfl rfl (Nat.le_of_ble_eq_true rfl) (Nat.le_of_ble_eq_true rfl) (jrv_of oh23 k24 (by decide) rfl (by decide) rfl _) rfl (mj_Ok.up (Nat.add_le_add_left (by decide) D) (jc_95 (D := D) ty hg oh23 k24 ka26 k27)) rfl rfl (fun v28 h29 qv28 oh29 => ?_)
        obtain rfl : v28 = none := qv28
        refine mj_T.eq (pc2 := 78) (st2 := []) ?_ rfl rfl rfl rfl
        iterate 2 refine mj_T.pl rfl rfl rfl rfl ?_
        refine jT.callp rfl rfl (Nat.le_of_ble_eq_true rfl) (Nat.le_of_ble_eq_true rfl) (jrv_of oh29 kp1 (by decide) rfl (by decide) rfl _) rfl (mj_Ok.up (Nat.add_le_add_left (by decide) D) (jc_36 (D := D) ty hg oh29 kp1 rx6)) rfl rfl (fun v30 qv30 => ?_)
        obtain ⟨a31, ka31, rfl⟩ := qv30
        refine mj_T.eq (pc2 := 84) (st2 := [.ref a31]) ?_ rfl rfl rfl rfl
        refine mj_T.pl rfl rfl rfl rfl ?_
        refine jT.getR 11 118 18 ty oh29 rfl kp0 (by decide) rfl rfl rfl (fun k32 => ?_)
        refine jT.call rfl rfl (Nat.le_of_ble_eq_true rfl) (Nat.le_of_ble_eq_true rfl) (jrv_of oh29 ka31 (by decide) rfl (by decide) rfl _) rfl (mj_Ok.up (Nat.add_le_add_left (by decide) D) (jc_87 (D := D) ty hg oh29 ka31 k32)) rfl rfl (fun v33 h34 qv33 oh34 => ?_)
        obtain rfl : v33 = none := qv33
        refine mj_T.eq (pc2 := 91) (st2 := []) ?_ rfl rfl rfl rfl
        refine jT.iinc rfl rfl (fun z35 rz35 ez35 => ?_)
        replace ez35 := ez35 ⟨by omega, by omega⟩
        refine mj_T.eq (loc2 := [some (.ref p0), some (.ref p1), some (.long (jl p2)), none, some (.int (jn z35))]) ?_ rfl rfl rfl rfl
        refine mj_T.pl rfl rfl rfl rfl ?_
        exact ih10 ((z35 + 1 : Int).toNat) (by omega) z35 h34 rz35 oh34 (by omega) rfl
  exact t16_8 _ z5 h3 rz5 oh3 (by omega) rfl
-- PolyRegisters$Desk.valueAt(LPolyRegisters$Poly;LPolyRegisters$Wide;)I
theorem jc_28 {D n : Nat} {tm : Int} {h g : mj_H} {K L : Nat → Nat} {R : Nat → Nat → Nat} {p0 : Nat} {p1 : Nat} {p2 : Nat} (ty : jTY K L R) (hg : g.length ≤ n) (o : jO K L R g n tm h) (kp0 : K p0 = 11) (kp1 : K p1 = 13) (kp2 : K p2 = 18) : mj_Ok (D + 3) 28 [.ref p0, .ref p1, .ref p2] h (jQ K L R g n tm [] (jVi (-2147483648) 2147483647)) := by
  refine mj_Ok.of (M := mj_m28) (loc := [some (.ref p0), some (.ref p1), some (.ref p2), none]) rfl rfl rfl ?_
  refine mj_T.pl rfl rfl rfl rfl ?_
  refine jT.getR 11 118 18 ty o rfl kp0 (by decide) rfl rfl rfl (fun k1 => ?_)
  refine jT.lc 0 rfl rfl ?_
  refine jT.call rfl rfl (Nat.le_of_ble_eq_true rfl) (Nat.le_of_ble_eq_true rfl) (jrv_of o k1 (by decide) rfl (by decide) rfl _) rfl (mj_Ok.up (Nat.add_le_add_left (by decide) D) (jc_86 (D := D) ty hg o k1 ⟨by decide, by decide⟩)) rfl rfl (fun v2 h3 qv2 oh3 => ?_)
  obtain rfl : v2 = none := qv2
  refine mj_T.eq (pc2 := 8) (st2 := []) ?_ rfl rfl rfl rfl
  refine mj_T.pl rfl rfl rfl rfl ?_
  refine jT.getI 13 6 oh3 rfl kp1 (by decide) rfl rfl rfl (fun z4 (az4 : (-1) ≤ z4) (bz4 : z4 ≤ 30) fz4 => ?_)
  have rz4 : -2147483648 ≤ z4 ∧ z4 ≤ 2147483647 := ⟨by omega, by omega⟩
  refine mj_T.pl (loc' := [some (.ref p0), some (.ref p1), some (.ref p2), some (.int (jn z4))]) rfl rfl rfl rfl ?_
  have t13_7 : ∀ (k8 : Nat) (x5 : Int) (h6 : mj_H), (-2147483648 ≤ x5 ∧ x5 ≤ 2147483647) → (jO K L R g n tm h6) → (x5 ≤ z4) → (x5 + 1 : Int).toNat = k8 → mj_T (D + 2) mj_m28 13 [some (.ref p0), some (.ref p1), some (.ref p2), some (.int (jn x5))] [] h6 (jQ K L R g n tm [] (jVi (-2147483648) 2147483647)) := by
    refine jInd (fun k8 ih9 => ?_)
    intro x5 h6 rx5 oh6 ix5 hm10
    refine mj_T.pl rfl rfl rfl rfl ?_
    refine jT.if0 rfl rx5 (fun c14 => ?_) (fun c14 => ?_)
    · have c14 := of_decide_eq_true c14
      refine mj_T.pl rfl rfl rfl rfl ?_
      refine jT.getR 11 118 18 ty oh6 rfl kp0 (by decide) rfl rfl rfl (fun k11 => ?_)
      refine jT.getI 18 0 oh6 rfl k11 (by decide) rfl rfl rfl (fun z12 (az12 : (-2147483648) ≤ z12) (bz12 : z12 ≤ 2147483647) fz12 => ?_)
      have rz12 : -2147483648 ≤ z12 ∧ z12 ≤ 2147483647 := ⟨by omega, by omega⟩
      exact jT.ret oh6 rfl rfl rfl ⟨z12, by omega, by omega, rfl⟩
    · have c14 := of_decide_eq_false c14
      refine mj_T.pl rfl rfl rfl rfl ?_
      refine jT.getR 11 118 18 ty oh6 rfl kp0 (by decide) rfl rfl rfl (fun k13 => ?_)
      refine mj_T.pl rfl rfl rfl rfl ?_
      refine jT.getR 11 118 18 ty oh6 rfl kp0 (by decide) rfl rfl rfl (fun k14 => ?_)
      refine mj_T.pl rfl rfl rfl rfl ?_
      refine jT.call rfl rfl (Nat.le_of_ble_eq_true rfl) (Nat.le_of_ble_eq_true rfl) (jrv_of oh6 k13 (by decide) rfl (by decide) rfl _) rfl (mj_Ok.up (Nat.add_le_add_left (by decide) D) (jc_95 (D := D) ty hg oh6 k13 k14 kp2)) rfl rfl (fun v15 h16 qv15 oh16 => ?_)
      obtain rfl : v15 = none := qv15
      refine mj_T.eq (pc2 := 29) (st2 := []) ?_ rfl rfl rfl rfl
      refine mj_T.pl rfl rfl rfl rfl ?_
      refine jT.getR 11 118 18 ty oh16 rfl kp0 (by decide) rfl rfl rfl (fun k17 => ?_)
      iterate 2 refine mj_T.pl rfl rfl rfl rfl ?_
      refine jT.callp rfl rfl (Nat.le_of_ble_eq_true rfl) (Nat.le_of_ble_eq_true rfl) (jrv_of oh16 kp1 (by decide) rfl (by decide) rfl _) rfl (mj_Ok.up (Nat.add_le_add_left (by decide) D) (jc_36 (D := D) ty hg oh16 kp1 rx5)) rfl rfl (fun v18 qv18 => ?_)
      obtain ⟨a19, ka19, rfl⟩ := qv18
      refine mj_T.eq (pc2 := 38) (st2 := [.ref a19, .ref (R p0 5)]) ?_ rfl rfl rfl rfl
      refine mj_T.pl rfl rfl rfl rfl ?_
      refine jT.call rfl rfl (Nat.le_of_ble_eq_true rfl) (Nat.le_of_ble_eq_true rfl) (jrv_of oh16 k17 (by decide) rfl (by decide) rfl _) rfl (mj_Ok.up (Nat.add_le_add_left (by decide) D) (jc_91 (D := D) ty hg oh16 k17 ka19 ⟨by decide, by decide⟩)) rfl rfl (fun v20 h21 qv20 oh21 => ?_)
      obtain rfl : v20 = none := qv20
      refine mj_T.eq (pc2 := 42) (st2 := []) ?_ rfl rfl rfl rfl
      refine mj_T.pl rfl rfl rfl rfl ?_
      refine jT.getR 11 118 18 ty oh21 rfl kp0 (by decide) rfl rfl rfl (fun k22 => ?_)
      refine mj_T.pl rfl rfl rfl rfl ?_
      refine jT.getR 11 118 18 ty oh21 rfl kp0 (by decide) rfl rfl rfl (fun k23 => ?_)
      refine jT.call rfl rfl (Nat.le_of_ble_eq_true rfl) (Nat.le_of_ble_eq_true rfl) (jrv_of oh21 k22 (by decide) rfl (by decide) rfl _) rfl (mj_Ok.up (Nat.add_le_add_left (by decide) D) (jc_87 (D := D) ty hg oh21 k22 k23)) rfl rfl (fun v24 h25 qv24 oh25 => ?_)
      obtain rfl : v24 = none := qv24
      refine mj_T.eq (pc2 := 53) (st2 := []) ?_ rfl rfl rfl rfl
      refine jT.iinc rfl rfl (fun z26 rz26 ez26 => ?_)
      replace ez26 := ez26 ⟨by omega, by omega⟩
      refine mj_T.eq (loc2 := [some (.ref p0), some (.ref p1), some (.ref p2), some (.int (jn z26))]) ?_ rfl rfl rfl rfl
      refine mj_T.pl rfl rfl rfl rfl ?_
      exact ih9 ((z26 + 1 : Int).toNat) (by omega) z26 h25 rz26 oh25 (by omega) rfl
  exact t13_7 _ z4 h3 rz4 oh3 (by omega) rfl
-- PolyRegisters$Desk.valueAt([JII)I
theorem jc_27 {D n : Nat} {tm : Int} {h g : mj_H} {K L : Nat → Nat} {R : Nat → Nat → Nat} {p0 : Nat} {p1 : Nat} {p2 : Int} {p3 : Int} (ty : jTY K L R) (hg : g.length ≤ n) (o : jO K L R g n tm h) (kp0 : K p0 = 11) (kp1 : K p1 = 2) (rp2 : -2147483648 ≤ p2 ∧ p2 ≤ 2147483647) (rp3 : -2147483648 ≤ p3 ∧ p3 ≤ 2147483647) : mj_Ok (D + 4) 27 [.ref p0, .ref p1, .int (jn p2), .int (jn p3)] h (jQ K L R g n tm [] (jVi (-2147483648) 2147483647)) := by
  refine mj_Ok.of (M := mj_m27) (loc := [some (.ref p0), some (.ref p1), some (.int (jn p2)), some (.int (jn p3))]) rfl rfl rfl ?_
  refine mj_T.pl rfl rfl rfl rfl ?_
  refine jT.getR 11 113 13 ty o rfl kp0 (by decide) rfl rfl rfl (fun k1 => ?_)
  refine mj_T.pl rfl rfl rfl rfl ?_
  refine jT.lc 1 rfl rfl ?_
  refine jT.call rfl rfl (Nat.le_of_ble_eq_true rfl) (Nat.le_of_ble_eq_true rfl) (jrv_of o k1 (by decide) rfl (by decide) rfl _) rfl (mj_Ok.up (Nat.add_le_add_left (by decide) D) (jc_40 (D := D) ty hg o k1 kp1 ⟨by decide, by decide⟩)) rfl rfl (fun v2 h3 qv2 oh3 => ?_)
  obtain rfl : v2 = none := qv2
  refine mj_T.eq (pc2 := 9) (st2 := []) ?_ rfl rfl rfl rfl
  iterate 2 refine mj_T.pl rfl rfl rfl rfl ?_
  refine jT.getR 11 113 13 ty oh3 rfl kp0 (by decide) rfl rfl rfl (fun k4 => ?_)
  refine mj_T.pl rfl rfl rfl rfl ?_
  refine jT.i2l rfl rp3 ?_
  have j5 : jR p3 := ⟨by omega, by omega⟩
  refine jT.call rfl rfl (Nat.le_of_ble_eq_true rfl) (Nat.le_of_ble_eq_true rfl) (jrv_of oh3 kp0 (by decide) rfl (by decide) rfl _) rfl (mj_Ok.up (Nat.add_le_add_left (by decide) D) (jc_26 (D := D) ty hg oh3 kp0 k4 j5)) rfl rfl (fun v6 h7 qv6 oh7 => ?_)
  obtain rfl : v6 = none := qv6
  refine mj_T.eq (pc2 := 19) (st2 := []) ?_ rfl rfl rfl rfl
  refine mj_T.pl rfl rfl rfl rfl ?_
  refine jT.getR 11 118 18 ty oh7 rfl kp0 (by decide) rfl rfl rfl (fun k8 => ?_)
  refine mj_T.pl rfl rfl rfl rfl ?_
  refine jT.i2l rfl rp2 ?_
  have j9 : jR p2 := ⟨by omega, by omega⟩
  refine jT.call rfl rfl (Nat.le_of_ble_eq_true rfl) (Nat.le_of_ble_eq_true rfl) (jrv_of oh7 k8 (by decide) rfl (by decide) rfl _) rfl (mj_Ok.up (Nat.add_le_add_left (by decide) D) (jc_86 (D := D) ty hg oh7 k8 j9)) rfl rfl (fun v10 h11 qv10 oh11 => ?_)
  obtain rfl : v10 = none := qv10
  refine mj_T.eq (pc2 := 28) (st2 := []) ?_ rfl rfl rfl rfl
  iterate 2 refine mj_T.pl rfl rfl rfl rfl ?_
  refine jT.getR 11 113 13 ty oh11 rfl kp0 (by decide) rfl rfl rfl (fun k12 => ?_)
  refine mj_T.pl rfl rfl rfl rfl ?_
  refine jT.getR 11 118 18 ty oh11 rfl kp0 (by decide) rfl rfl rfl (fun k13 => ?_)
  refine jT.call rfl rfl (Nat.le_of_ble_eq_true rfl) (Nat.le_of_ble_eq_true rfl) (jrv_of oh11 kp0 (by decide) rfl (by decide) rfl _) rfl (mj_Ok.up (Nat.add_le_add_left (by decide) D) (jc_28 (D := D) ty hg oh11 kp0 k12 k13)) rfl rfl (fun v14 h15 qv14 oh15 => ?_)
  obtain ⟨z16, az16, bz16, rfl⟩ := qv14
  have rz16 : -2147483648 ≤ z16 ∧ z16 ≤ 2147483647 := ⟨by omega, by omega⟩
  refine mj_T.eq (pc2 := 40) (st2 := [.int (jn z16)]) ?_ rfl rfl rfl rfl
  exact jT.ret oh15 rfl rfl rfl ⟨z16, by omega, by omega, rfl⟩
/-! The class by kinds: its methods. -/
-- PolyRegisters$Sturm.renewKnown(I)V
theorem jc_72 {D n : Nat} {tm : Int} {h g : mj_H} {K L : Nat → Nat} {R : Nat → Nat → Nat} {p0 : Nat} {p1 : Int} (ty : jTY K L R) (hg : g.length ≤ n) (o : jO K L R g n tm h) (kp0 : K p0 = 16) (rp1 : -2147483648 ≤ p1 ∧ p1 ≤ 2147483647) : mj_Ok (D + 3) 72 [.ref p0, .int (jn p1)] h (jQ K L R g n tm [] jV0) := by
  refine mj_Ok.of (M := mj_m72) (loc := [some (.ref p0), some (.int (jn p1)), none, none]) rfl rfl rfl ?_
  refine mj_T.pl rfl rfl rfl rfl ?_
  refine jT.getR 16 111 11 ty o rfl kp0 (by decide) rfl rfl rfl (fun k1 => ?_)
  refine jT.getR 11 118 18 ty o rfl k1 (by decide) rfl rfl rfl (fun k2 => ?_)
  refine mj_T.pl (loc' := [some (.ref p0), some (.int (jn p1)), some (.ref (R (R p0 0) 4)), none]) rfl rfl rfl rfl ?_
  iterate 2 refine mj_T.pl rfl rfl rfl rfl ?_
  refine jT.getR 16 118 18 ty o rfl kp0 (by decide) rfl rfl rfl (fun k3 => ?_)
  refine jT.call rfl rfl (Nat.le_of_ble_eq_true rfl) (Nat.le_of_ble_eq_true rfl) (jrv_of o k2 (by decide) rfl (by decide) rfl _) rfl (mj_Ok.up (Nat.add_le_add_left (by decide) D) (jc_87 (D := D) ty hg o k2 k3)) rfl rfl (fun v4 h5 qv4 oh5 => ?_)
  obtain rfl : v4 = none := qv4
  refine mj_T.eq (pc2 := 16) (st2 := []) ?_ rfl rfl rfl rfl
  refine mj_T.pl rfl rfl rfl rfl ?_
  refine mj_T.pl (loc' := [some (.ref p0), some (.int (jn p1)), some (.ref (R (R p0 0) 4)), some (.int (jn 1))]) rfl rfl rfl rfl ?_
  have t18_8 : ∀ (k9 : Nat) (x6 : Int) (h7 : mj_H), (-2147483648 ≤ x6 ∧ x6 ≤ 2147483647) → (jO K L R g n tm h7) → (1 ≤ x6) → (2147483647 - x6 : Int).toNat = k9 → mj_T (D + 2) mj_m72 18 [some (.ref p0), some (.int (jn p1)), some (.ref (R (R p0 0) 4)), some (.int (jn x6))] [] h7 (jQ K L R g n tm [] jV0) := by
    refine jInd (fun k9 ih10 => ?_)
    intro x6 h7 rx6 oh7 ix6 hm11
    refine mj_T.pl rfl rfl rfl rfl ?_
    refine mj_T.pl rfl rfl rfl rfl ?_
    refine jT.icmp rfl rx6 rp1 (fun c20 => ?_) (fun c20 => ?_)
    · have c20 := of_decide_eq_true c20
      refine mj_T.pl rfl rfl rfl rfl ?_
      refine jT.getR 16 111 11 ty oh7 rfl kp0 (by decide) rfl rfl rfl (fun k12 => ?_)
      refine jT.getR 11 112 12 ty oh7 rfl k12 (by decide) rfl rfl rfl (fun k13 => ?_)
      refine mj_T.pl rfl rfl rfl rfl ?_
      refine jT.getR 16 118 18 ty oh7 rfl kp0 (by decide) rfl rfl rfl (fun k14 => ?_)
      refine jT.call rfl rfl (Nat.le_of_ble_eq_true rfl) (Nat.le_of_ble_eq_true rfl) (jrv_of oh7 k13 (by decide) rfl (by decide) rfl _) rfl (mj_Ok.up (Nat.add_le_add_left (by decide) D) (jc_30 (D := D) ty hg oh7 k13 k14)) rfl rfl (fun v15 h16 qv15 oh16 => ?_)
      obtain rfl : v15 = none := qv15
      refine mj_T.eq (pc2 := 69) (st2 := []) ?_ rfl rfl rfl rfl
      refine mj_T.pl rfl rfl rfl rfl ?_
      refine mj_T.pl (loc' := [some (.ref p0), some (.int (jn p1)), some (.ref (R (R p0 0) 4)), some (.int (jn 1))]) rfl rfl rfl rfl ?_
      have t71_19 : ∀ (k20 : Nat) (x17 : Int) (h18 : mj_H), (-2147483648 ≤ x17 ∧ x17 ≤ 2147483647) → (jO K L R g n tm h18) → (1 ≤ x17) → (2147483647 - x17 : Int).toNat = k20 → mj_T (D + 2) mj_m72 71 [some (.ref p0), some (.int (jn p1)), some (.ref (R (R p0 0) 4)), some (.int (jn x17))] [] h18 (jQ K L R g n tm [] jV0) := by
        refine jInd (fun k20 ih21 => ?_)
        intro x17 h18 rx17 oh18 ix17 hm22
        refine mj_T.pl rfl rfl rfl rfl ?_
        refine mj_T.pl rfl rfl rfl rfl ?_
        refine jT.icmp rfl rx17 rp1 (fun c73 => ?_) (fun c73 => ?_)
        · have c73 := of_decide_eq_true c73
          refine mj_T.pl rfl rfl rfl rfl ?_
          refine jT.getR 16 118 18 ty oh18 rfl kp0 (by decide) rfl rfl rfl (fun k23 => ?_)
          refine mj_T.pl rfl rfl rfl rfl ?_
          refine jT.call rfl rfl (Nat.le_of_ble_eq_true rfl) (Nat.le_of_ble_eq_true rfl) (jrv_of oh18 k23 (by decide) rfl (by decide) rfl _) rfl (mj_Ok.up (Nat.add_le_add_left (by decide) D) (jc_87 (D := D) ty hg oh18 k23 k2)) rfl rfl (fun v24 h25 qv24 oh25 => ?_)
          obtain rfl : v24 = none := qv24
          refine mj_T.eq (pc2 := 119) (st2 := []) ?_ rfl rfl rfl rfl
          exact jT.ret oh25 rfl rfl rfl rfl
        · have c73 := of_decide_eq_false c73
          refine mj_T.pl rfl rfl rfl rfl ?_
          refine jT.getR 16 111 11 ty oh18 rfl kp0 (by decide) rfl rfl rfl (fun k26 => ?_)
          refine jT.getR 11 112 12 ty oh18 rfl k26 (by decide) rfl rfl rfl (fun k27 => ?_)
          iterate 2 refine mj_T.pl rfl rfl rfl rfl ?_
          refine jT.getR 16 111 11 ty oh18 rfl kp0 (by decide) rfl rfl rfl (fun k28 => ?_)
          refine jT.getR 11 118 18 ty oh18 rfl k28 (by decide) rfl rfl rfl (fun k29 => ?_)
          refine jT.call rfl rfl (Nat.le_of_ble_eq_true rfl) (Nat.le_of_ble_eq_true rfl) (jrv_of oh18 k27 (by decide) rfl (by decide) rfl _) rfl (mj_Ok.up (Nat.add_le_add_left (by decide) D) (jc_31 (D := D) ty hg oh18 k27 k2 k29)) rfl rfl (fun v30 h31 qv30 oh31 => ?_)
          obtain rfl : v30 = none := qv30
          refine mj_T.eq (pc2 := 94) (st2 := []) ?_ rfl rfl rfl rfl
          iterate 2 refine mj_T.pl rfl rfl rfl rfl ?_
          refine jT.getR 16 111 11 ty oh31 rfl kp0 (by decide) rfl rfl rfl (fun k32 => ?_)
          refine jT.getR 11 118 18 ty oh31 rfl k32 (by decide) rfl rfl rfl (fun k33 => ?_)
          refine jT.call rfl rfl (Nat.le_of_ble_eq_true rfl) (Nat.le_of_ble_eq_true rfl) (jrv_of oh31 k2 (by decide) rfl (by decide) rfl _) rfl (mj_Ok.up (Nat.add_le_add_left (by decide) D) (jc_87 (D := D) ty hg oh31 k2 k33)) rfl rfl (fun v34 h35 qv34 oh35 => ?_)
          obtain rfl : v34 = none := qv34
          refine mj_T.eq (pc2 := 105) (st2 := []) ?_ rfl rfl rfl rfl
          refine jT.iinc rfl rfl (fun z36 rz36 ez36 => ?_)
          replace ez36 := ez36 ⟨by omega, by omega⟩
          refine mj_T.eq (loc2 := [some (.ref p0), some (.int (jn p1)), some (.ref (R (R p0 0) 4)), some (.int (jn z36))]) ?_ rfl rfl rfl rfl
          refine mj_T.pl rfl rfl rfl rfl ?_
          exact ih21 ((2147483647 - z36 : Int).toNat) (by omega) z36 h35 rz36 oh35 (by omega) rfl
      exact t71_19 _ 1 h16 ⟨by decide, by decide⟩ oh16 (by omega) rfl
    · have c20 := of_decide_eq_false c20
      refine mj_T.pl rfl rfl rfl rfl ?_
      refine jT.getR 16 111 11 ty oh7 rfl kp0 (by decide) rfl rfl rfl (fun k37 => ?_)
      refine jT.getR 11 118 18 ty oh7 rfl k37 (by decide) rfl rfl rfl (fun k38 => ?_)
      iterate 2 refine mj_T.pl rfl rfl rfl rfl ?_
      refine jT.getR 16 118 18 ty oh7 rfl kp0 (by decide) rfl rfl rfl (fun k39 => ?_)
      refine jT.call rfl rfl (Nat.le_of_ble_eq_true rfl) (Nat.le_of_ble_eq_true rfl) (jrv_of oh7 k38 (by decide) rfl (by decide) rfl _) rfl (mj_Ok.up (Nat.add_le_add_left (by decide) D) (jc_95 (D := D) ty hg oh7 k38 k2 k39)) rfl rfl (fun v40 h41 qv40 oh41 => ?_)
      obtain rfl : v40 = none := qv40
      refine mj_T.eq (pc2 := 38) (st2 := []) ?_ rfl rfl rfl rfl
      iterate 2 refine mj_T.pl rfl rfl rfl rfl ?_
      refine jT.getR 16 111 11 ty oh41 rfl kp0 (by decide) rfl rfl rfl (fun k42 => ?_)
      refine jT.getR 11 118 18 ty oh41 rfl k42 (by decide) rfl rfl rfl (fun k43 => ?_)
      refine jT.call rfl rfl (Nat.le_of_ble_eq_true rfl) (Nat.le_of_ble_eq_true rfl) (jrv_of oh41 k2 (by decide) rfl (by decide) rfl _) rfl (mj_Ok.up (Nat.add_le_add_left (by decide) D) (jc_87 (D := D) ty hg oh41 k2 k43)) rfl rfl (fun v44 h45 qv44 oh45 => ?_)
      obtain rfl : v44 = none := qv44
      refine mj_T.eq (pc2 := 49) (st2 := []) ?_ rfl rfl rfl rfl
      refine jT.iinc rfl rfl (fun z46 rz46 ez46 => ?_)
      replace ez46 := ez46 ⟨by omega, by omega⟩
      refine mj_T.eq (loc2 := [some (.ref p0), some (.int (jn p1)), some (.ref (R (R p0 0) 4)), some (.int (jn z46))]) ?_ rfl rfl rfl rfl
      refine mj_T.pl rfl rfl rfl rfl ?_
      exact ih10 ((2147483647 - z46 : Int).toNat) (by omega) z46 h45 rz46 oh45 (by omega) rfl
  exact t18_8 _ 1 h5 ⟨by decide, by decide⟩ oh5 (by omega) rfl
-- PolyRegisters$Sturm.makeNext(LPolyRegisters$Poly;LPolyRegisters$Poly;LPolyRegisters$Poly;)V
theorem jc_71 {D n : Nat} {tm : Int} {h g : mj_H} {K L : Nat → Nat} {R : Nat → Nat → Nat} {p0 : Nat} {p1 : Nat} {p2 : Nat} {p3 : Nat} (ty : jTY K L R) (hg : g.length ≤ n) (o : jO K L R g n tm h) (kp0 : K p0 = 16) (kp1 : K p1 = 13) (kp2 : K p2 = 13) (kp3 : K p3 = 13) : mj_Ok (D + 4) 71 [.ref p0, .ref p1, .ref p2, .ref p3] h (jQ K L R g n tm [] jV0) := by
  refine mj_Ok.of (M := mj_m71) (loc := [some (.ref p0), some (.ref p1), some (.ref p2), some (.ref p3), none, none]) rfl rfl rfl ?_
  refine mj_T.pl rfl rfl rfl rfl ?_
  refine jT.getI 13 6 o rfl kp1 (by decide) rfl rfl rfl (fun z1 (az1 : (-1) ≤ z1) (bz1 : z1 ≤ 30) fz1 => ?_)
  have rz1 : -2147483648 ≤ z1 ∧ z1 ≤ 2147483647 := ⟨by omega, by omega⟩
  refine mj_T.pl rfl rfl rfl rfl ?_
  refine jT.getI 13 6 o rfl kp2 (by decide) rfl rfl rfl (fun z2 (az2 : (-1) ≤ z2) (bz2 : z2 ≤ 30) fz2 => ?_)
  have rz2 : -2147483648 ≤ z2 ∧ z2 ≤ 2147483647 := ⟨by omega, by omega⟩
  refine jT.isub rfl (fun z3 rz3 ez3 => ?_)
  replace ez3 := ez3 ⟨by omega, by omega⟩
  refine mj_T.pl (loc' := [some (.ref p0), some (.ref p1), some (.ref p2), some (.ref p3), some (.int (jn z3)), none]) rfl rfl rfl rfl ?_
  refine mj_T.pl rfl rfl rfl rfl ?_
  refine jT.getR 16 111 11 ty o rfl kp0 (by decide) rfl rfl rfl (fun k4 => ?_)
  refine jT.getR 11 113 13 ty o rfl k4 (by decide) rfl rfl rfl (fun k5 => ?_)
  refine mj_T.pl rfl rfl rfl rfl ?_
  refine jT.call rfl rfl (Nat.le_of_ble_eq_true rfl) (Nat.le_of_ble_eq_true rfl) (jrv_of o k5 (by decide) rfl (by decide) rfl _) rfl (mj_Ok.up (Nat.add_le_add_left (by decide) D) (jc_41 (D := D) ty hg o k5 kp1)) rfl rfl (fun v6 h7 qv6 oh7 => ?_)
  obtain rfl : v6 = none := qv6
  refine mj_T.eq (pc2 := 22) (st2 := []) ?_ rfl rfl rfl rfl
  refine mj_T.pl rfl rfl rfl rfl ?_
  refine mj_T.pl (loc' := [some (.ref p0), some (.ref p1), some (.ref p2), some (.ref p3), some (.int (jn z3)), some (.int (jn z3))]) rfl rfl rfl rfl ?_
  have t26_10 : ∀ (k11 : Nat) (x8 : Int) (h9 : mj_H), (-2147483648 ≤ x8 ∧ x8 ≤ 2147483647) → (jO K L R g n tm h9) → (x8 ≤ z3) → (x8 + 1 : Int).toNat = k11 → mj_T (D + 3) mj_m71 26 [some (.ref p0), some (.ref p1), some (.ref p2), some (.ref p3), some (.int (jn z3)), some (.int (jn x8))] [] h9 (jQ K L R g n tm [] jV0) := by
    refine jInd (fun k11 ih12 => ?_)
    intro x8 h9 rx8 oh9 ix8 hm13
    refine mj_T.pl rfl rfl rfl rfl ?_
    refine jT.if0 rfl rx8 (fun c28 => ?_) (fun c28 => ?_)
    · have c28 := of_decide_eq_true c28
      refine mj_T.pl rfl rfl rfl rfl ?_
      refine jT.getR 16 111 11 ty oh9 rfl kp0 (by decide) rfl rfl rfl (fun k14 => ?_)
      refine jT.getR 11 113 13 ty oh9 rfl k14 (by decide) rfl rfl rfl (fun k15 => ?_)
      refine jT.call rfl rfl (Nat.le_of_ble_eq_true rfl) (Nat.le_of_ble_eq_true rfl) (jrv_of oh9 k15 (by decide) rfl (by decide) rfl _) rfl (mj_Ok.up (Nat.add_le_add_left (by decide) D) (jc_42 (D := D) ty hg oh9 k15)) rfl rfl (fun v16 h17 qv16 oh17 => ?_)
      obtain rfl : v16 = none := qv16
      refine mj_T.eq (pc2 := 64) (st2 := []) ?_ rfl rfl rfl rfl
      refine mj_T.pl rfl rfl rfl rfl ?_
      refine jT.getR 16 111 11 ty oh17 rfl kp0 (by decide) rfl rfl rfl (fun k18 => ?_)
      refine mj_T.pl rfl rfl rfl rfl ?_
      refine jT.getR 16 111 11 ty oh17 rfl kp0 (by decide) rfl rfl rfl (fun k19 => ?_)
      refine jT.getR 11 113 13 ty oh17 rfl k19 (by decide) rfl rfl rfl (fun k20 => ?_)
      refine mj_T.pl rfl rfl rfl rfl ?_
      refine jT.getR 16 118 18 ty oh17 rfl kp0 (by decide) rfl rfl rfl (fun k21 => ?_)
      refine mj_T.pl rfl rfl rfl rfl ?_
      refine jT.call rfl rfl (Nat.le_of_ble_eq_true rfl) (Nat.le_of_ble_eq_true rfl) (jrv_of oh17 k18 (by decide) rfl (by decide) rfl _) rfl (mj_Ok.up (Nat.add_le_add_left (by decide) D) (jc_20 (D := D) ty hg oh17 k18 k20 k21 ⟨by decide, by decide⟩)) rfl rfl (fun v22 h23 qv22 oh23 => ?_)
      obtain rfl : v22 = none := qv22
      refine mj_T.eq (pc2 := 83) (st2 := []) ?_ rfl rfl rfl rfl
      refine mj_T.pl rfl rfl rfl rfl ?_
      refine jT.getR 16 111 11 ty oh23 rfl kp0 (by decide) rfl rfl rfl (fun k24 => ?_)
      refine mj_T.pl rfl rfl rfl rfl ?_
      refine jT.getR 16 111 11 ty oh23 rfl kp0 (by decide) rfl rfl rfl (fun k25 => ?_)
      refine jT.getR 11 113 13 ty oh23 rfl k25 (by decide) rfl rfl rfl (fun k26 => ?_)
      refine mj_T.pl rfl rfl rfl rfl ?_
      refine jT.getR 16 118 18 ty oh23 rfl kp0 (by decide) rfl rfl rfl (fun k27 => ?_)
      refine mj_T.pl rfl rfl rfl rfl ?_
      refine jT.call rfl rfl (Nat.le_of_ble_eq_true rfl) (Nat.le_of_ble_eq_true rfl) (jrv_of oh23 k24 (by decide) rfl (by decide) rfl _) rfl (mj_Ok.up (Nat.add_le_add_left (by decide) D) (jc_20 (D := D) ty hg oh23 k24 k26 k27 rz3)) rfl rfl (fun v28 h29 qv28 oh29 => ?_)
      obtain rfl : v28 = none := qv28
      refine mj_T.eq (pc2 := 103) (st2 := []) ?_ rfl rfl rfl rfl
      iterate 2 refine mj_T.pl rfl rfl rfl rfl ?_
      refine jT.getR 16 111 11 ty oh29 rfl kp0 (by decide) rfl rfl rfl (fun k30 => ?_)
      refine jT.getR 11 113 13 ty oh29 rfl k30 (by decide) rfl rfl rfl (fun k31 => ?_)
      refine jT.call rfl rfl (Nat.le_of_ble_eq_true rfl) (Nat.le_of_ble_eq_true rfl) (jrv_of oh29 kp3 (by decide) rfl (by decide) rfl _) rfl (mj_Ok.up (Nat.add_le_add_left (by decide) D) (jc_41 (D := D) ty hg oh29 kp3 k31)) rfl rfl (fun v32 h33 qv32 oh33 => ?_)
      obtain rfl : v32 = none := qv32
      refine mj_T.eq (pc2 := 114) (st2 := []) ?_ rfl rfl rfl rfl
      refine mj_T.pl rfl rfl rfl rfl ?_
      refine jT.callp rfl rfl (Nat.le_of_ble_eq_true rfl) (Nat.le_of_ble_eq_true rfl) (jrv_of oh33 kp2 (by decide) rfl (by decide) rfl _) rfl (mj_Ok.up (Nat.add_le_add_left (by decide) D) (jc_37 (D := D) ty hg oh33 kp2)) rfl rfl (fun v34 qv34 => ?_)
      obtain ⟨a35, ka35, rfl⟩ := qv34
      refine mj_T.eq (pc2 := 118) (st2 := [.ref a35]) ?_ rfl rfl rfl rfl
      refine jT.getI 18 0 oh33 rfl ka35 (by decide) rfl rfl rfl (fun z36 (az36 : (-2147483648) ≤ z36) (bz36 : z36 ≤ 2147483647) fz36 => ?_)
      have rz36 : -2147483648 ≤ z36 ∧ z36 ≤ 2147483647 := ⟨by omega, by omega⟩
      have t135_38 : ∀ (h37 : mj_H), (jO K L R g n tm h37) → mj_T (D + 3) mj_m71 135 [some (.ref p0), some (.ref p1), some (.ref p2), some (.ref p3), some (.int (jn z3)), some (.int (jn x8))] [] h37 (jQ K L R g n tm [] jV0) := by
        intro h37 oh37
        refine mj_T.pl rfl rfl rfl rfl ?_
        refine jT.getR 16 118 18 ty oh37 rfl kp0 (by decide) rfl rfl rfl (fun k39 => ?_)
        refine mj_T.pl rfl rfl rfl rfl ?_
        refine jT.callp rfl rfl (Nat.le_of_ble_eq_true rfl) (Nat.le_of_ble_eq_true rfl) (jrv_of oh37 kp2 (by decide) rfl (by decide) rfl _) rfl (mj_Ok.up (Nat.add_le_add_left (by decide) D) (jc_37 (D := D) ty hg oh37 kp2)) rfl rfl (fun v40 qv40 => ?_)
        obtain ⟨a41, ka41, rfl⟩ := qv40
        refine mj_T.eq (pc2 := 143) (st2 := [.ref a41, .ref (R p0 3)]) ?_ rfl rfl rfl rfl
        refine jT.call rfl rfl (Nat.le_of_ble_eq_true rfl) (Nat.le_of_ble_eq_true rfl) (jrv_of oh37 k39 (by decide) rfl (by decide) rfl _) rfl (mj_Ok.up (Nat.add_le_add_left (by decide) D) (jc_88 (D := D) ty hg oh37 k39 ka41)) rfl rfl (fun v42 h43 qv42 oh43 => ?_)
        obtain rfl : v42 = none := qv42
        refine mj_T.eq (pc2 := 146) (st2 := []) ?_ rfl rfl rfl rfl
        refine mj_T.pl rfl rfl rfl rfl ?_
        refine jT.if0 rfl rz3 (fun c148 => ?_) (fun c148 => ?_)
        · have c148 := of_decide_eq_true c148
          exact jT.ret oh43 rfl rfl rfl rfl
        · have c148 := of_decide_eq_false c148
          iterate 2 refine mj_T.pl rfl rfl rfl rfl ?_
          refine jT.call rfl rfl (Nat.le_of_ble_eq_true rfl) (Nat.le_of_ble_eq_true rfl) (jrv_of oh43 kp0 (by decide) rfl (by decide) rfl _) rfl (mj_Ok.up (Nat.add_le_add_left (by decide) D) (jc_72 (D := D) ty hg oh43 kp0 rz3)) rfl rfl (fun v44 h45 qv44 oh45 => ?_)
          obtain rfl : v44 = none := qv44
          refine mj_T.eq (pc2 := 157) (st2 := []) ?_ rfl rfl rfl rfl
          exact jT.ret oh45 rfl rfl rfl rfl
      have t131_46 : mj_T (D + 3) mj_m71 131 [some (.ref p0), some (.ref p1), some (.ref p2), some (.ref p3), some (.int (jn z3)), some (.int (jn x8))] [] h33 (jQ K L R g n tm [] jV0) := by
        refine mj_T.pl rfl rfl rfl rfl ?_
        refine jT.call rfl rfl (Nat.le_of_ble_eq_true rfl) (Nat.le_of_ble_eq_true rfl) (jrv_of oh33 kp3 (by decide) rfl (by decide) rfl _) rfl (mj_Ok.up (Nat.add_le_add_left (by decide) D) (jc_43 (D := D) ty hg oh33 kp3)) rfl rfl (fun v47 h48 qv47 oh48 => ?_)
        obtain rfl : v47 = none := qv47
        refine mj_T.eq (pc2 := 135) (st2 := []) ?_ rfl rfl rfl rfl
        exact t135_38 h48 oh48
      refine jT.if0 rfl rz36 (fun c121 => ?_) (fun c121 => ?_)
      · have c121 := of_decide_eq_true c121
        exact t131_46 
      · have c121 := of_decide_eq_false c121
        iterate 2 refine mj_T.pl rfl rfl rfl rfl ?_
        refine jT.irem rfl ⟨by decide, by decide⟩ (by decide) (fun z49 rz49 => ?_)
        refine jT.if0 rfl rz49 (fun c128 => ?_) (fun c128 => ?_)
        · have c128 := of_decide_eq_true c128
          exact t135_38 h33 oh33
        · have c128 := of_decide_eq_false c128
          exact t131_46 
    · have c28 := of_decide_eq_false c28
      refine mj_T.pl rfl rfl rfl rfl ?_
      refine jT.getR 16 111 11 ty oh9 rfl kp0 (by decide) rfl rfl rfl (fun k50 => ?_)
      refine mj_T.pl rfl rfl rfl rfl ?_
      refine jT.getR 16 111 11 ty oh9 rfl kp0 (by decide) rfl rfl rfl (fun k51 => ?_)
      refine jT.getR 11 113 13 ty oh9 rfl k51 (by decide) rfl rfl rfl (fun k52 => ?_)
      iterate 2 refine mj_T.pl rfl rfl rfl rfl ?_
      refine jT.call rfl rfl (Nat.le_of_ble_eq_true rfl) (Nat.le_of_ble_eq_true rfl) (jrv_of oh9 k50 (by decide) rfl (by decide) rfl _) rfl (mj_Ok.up (Nat.add_le_add_left (by decide) D) (jc_17 (D := D) ty hg oh9 k50 k52 kp2 rx8)) rfl rfl (fun v53 h54 qv53 oh54 => ?_)
      obtain rfl : v53 = none := qv53
      refine mj_T.eq (pc2 := 48) (st2 := []) ?_ rfl rfl rfl rfl
      refine jT.iinc rfl rfl (fun z55 rz55 ez55 => ?_)
      replace ez55 := ez55 ⟨by omega, by omega⟩
      refine mj_T.eq (loc2 := [some (.ref p0), some (.ref p1), some (.ref p2), some (.ref p3), some (.int (jn z3)), some (.int (jn z55))]) ?_ rfl rfl rfl rfl
      refine mj_T.pl rfl rfl rfl rfl ?_
      exact ih12 ((z55 + 1 : Int).toNat) (by omega) z55 h54 rz55 oh54 (by omega) rfl
  exact t26_10 _ z3 h7 rz3 oh7 (by omega) rfl
-- PolyRegisters$Sturm.goOn()V
theorem jc_70 {D n : Nat} {tm : Int} {h g : mj_H} {K L : Nat → Nat} {R : Nat → Nat → Nat} {p0 : Nat} (ty : jTY K L R) (hg : g.length ≤ n) (o : jO K L R g n tm h) (kp0 : K p0 = 16) : mj_Ok (D + 5) 70 [.ref p0] h (jQ K L R g n tm [] jV0) := by
  refine mj_Ok.of (M := mj_m70) (loc := [some (.ref p0), none]) rfl rfl rfl ?_
  iterate 2 refine mj_T.pl rfl rfl rfl rfl ?_
  refine jT.getR 16 105 5 ty o rfl kp0 (by decide) rfl rfl rfl (fun k1 => ?_)
  refine mj_T.pl rfl rfl rfl rfl ?_
  have l2 : 14 ≤ (L (R p0 1) : Int) ∧ (L (R p0 1) : Int) ≤ 14 := jlen 5 ty k1 (by decide) (by decide)
  refine jT.aald 5 13 ty o rfl k1 (by decide) (by decide) rfl ⟨by decide, by decide⟩ ⟨by omega, by omega⟩ (fun k3 => ?_)
  refine jT.getI 13 6 o rfl k3 (by decide) rfl rfl rfl (fun z4 (az4 : (-1) ≤ z4) (bz4 : z4 ≤ 30) fz4 => ?_)
  have rz4 : -2147483648 ≤ z4 ∧ z4 ≤ 2147483647 := ⟨by omega, by omega⟩
  have t18_6 : ∀ (x5 : Int), (-2147483648 ≤ x5 ∧ x5 ≤ 2147483647) → mj_T (D + 4) mj_m70 18 [some (.ref p0), none] [.int (jn x5), .ref p0] h (jQ K L R g n tm [] jV0) := by
    intro x5 rx5
    refine jT.putI 16 0 o rfl kp0 (by decide) rfl rfl rfl (Or.inl rfl) (by show (-2147483648) ≤ x5; omega) (by show x5 ≤ 2147483647; omega) (fun h7 oh7 wh7 uh7 => ?_)
    refine mj_T.pl rfl rfl rfl rfl ?_
    refine jT.getR 16 118 18 ty oh7 rfl kp0 (by decide) rfl rfl rfl (fun k8 => ?_)
    refine jT.lc 1 rfl rfl ?_
    refine jT.call rfl rfl (Nat.le_of_ble_eq_true rfl) (Nat.le_of_ble_eq_true rfl) (jrv_of oh7 k8 (by decide) rfl (by decide) rfl _) rfl (mj_Ok.up (Nat.add_le_add_left (by decide) D) (jc_86 (D := D) ty hg oh7 k8 ⟨by decide, by decide⟩)) rfl rfl (fun v9 h10 qv9 oh10 => ?_)
    obtain rfl : v9 = none := qv9
    refine mj_T.eq (pc2 := 29) (st2 := []) ?_ rfl rfl rfl rfl
    refine mj_T.pl rfl rfl rfl rfl ?_
    refine jT.getR 16 118 18 ty oh10 rfl kp0 (by decide) rfl rfl rfl (fun k11 => ?_)
    refine jT.lc 1 rfl rfl ?_
    refine jT.call rfl rfl (Nat.le_of_ble_eq_true rfl) (Nat.le_of_ble_eq_true rfl) (jrv_of oh10 k11 (by decide) rfl (by decide) rfl _) rfl (mj_Ok.up (Nat.add_le_add_left (by decide) D) (jc_86 (D := D) ty hg oh10 k11 ⟨by decide, by decide⟩)) rfl rfl (fun v12 h13 qv12 oh13 => ?_)
    obtain rfl : v12 = none := qv12
    refine mj_T.eq (pc2 := 37) (st2 := []) ?_ rfl rfl rfl rfl
    refine mj_T.pl rfl rfl rfl rfl ?_
    refine mj_T.pl (loc' := [some (.ref p0), some (.int (jn 2))]) rfl rfl rfl rfl ?_
    have t39_16 : ∀ (k17 : Nat) (x14 : Int) (h15 : mj_H), (-2147483648 ≤ x14 ∧ x14 ≤ 2147483647) → (jO K L R g n tm h15) → (2 ≤ x14) → (2147483647 - x14 : Int).toNat = k17 → mj_T (D + 4) mj_m70 39 [some (.ref p0), some (.int (jn x14))] [] h15 (jQ K L R g n tm [] jV0) := by
      refine jInd (fun k17 ih18 => ?_)
      intro x14 h15 rx14 oh15 ix14 hm19
      refine mj_T.pl rfl rfl rfl rfl ?_
      refine mj_T.pl rfl rfl rfl rfl ?_
      refine jT.getR 16 105 5 ty oh15 rfl kp0 (by decide) rfl rfl rfl (fun k20 => ?_)
      refine jT.alen 5 ty oh15 rfl k20 (by decide) (by decide) (fun z21 ez21 (az21 : 14 ≤ z21) (bz21 : z21 ≤ 14) => ?_)
      have rz21 : -2147483648 ≤ z21 ∧ z21 ≤ 2147483647 := ⟨by omega, by omega⟩
      refine jT.icmp rfl rx14 rz21 (fun c45 => ?_) (fun c45 => ?_)
      · have c45 := of_decide_eq_true c45
        exact jT.ret oh15 rfl rfl rfl rfl
      · have c45 := of_decide_eq_false c45
        refine mj_T.pl rfl rfl rfl rfl ?_
        refine jT.getR 16 105 5 ty oh15 rfl kp0 (by decide) rfl rfl rfl (fun k22 => ?_)
        iterate 2 refine mj_T.pl rfl rfl rfl rfl ?_
        refine jT.isub rfl (fun z23 rz23 ez23 => ?_)
        replace ez23 := ez23 ⟨by omega, by omega⟩
        refine jT.aald 5 13 ty oh15 rfl k22 (by decide) (by decide) rfl rz23 ⟨by omega, by omega⟩ (fun k24 => ?_)
        refine jT.getI 13 6 oh15 rfl k24 (by decide) rfl rfl rfl (fun z25 (az25 : (-1) ≤ z25) (bz25 : z25 ≤ 30) fz25 => ?_)
        have rz25 : -2147483648 ≤ z25 ∧ z25 ≤ 2147483647 := ⟨by omega, by omega⟩
        refine jT.if0 rfl rz25 (fun c59 => ?_) (fun c59 => ?_)
        · have c59 := of_decide_eq_true c59
          exact jT.ret oh15 rfl rfl rfl rfl
        · have c59 := of_decide_eq_false c59
          iterate 2 refine mj_T.pl rfl rfl rfl rfl ?_
          refine jT.getR 16 105 5 ty oh15 rfl kp0 (by decide) rfl rfl rfl (fun k26 => ?_)
          iterate 2 refine mj_T.pl rfl rfl rfl rfl ?_
          refine jT.isub rfl (fun z27 rz27 ez27 => ?_)
          replace ez27 := ez27 ⟨by omega, by omega⟩
          refine jT.aald 5 13 ty oh15 rfl k26 (by decide) (by decide) rfl rz27 ⟨by omega, by omega⟩ (fun k28 => ?_)
          refine mj_T.pl rfl rfl rfl rfl ?_
          refine jT.getR 16 105 5 ty oh15 rfl kp0 (by decide) rfl rfl rfl (fun k29 => ?_)
          iterate 2 refine mj_T.pl rfl rfl rfl rfl ?_
          refine jT.isub rfl (fun z30 rz30 ez30 => ?_)
          replace ez30 := ez30 ⟨by omega, by omega⟩
          refine jT.aald 5 13 ty oh15 rfl k29 (by decide) (by decide) rfl rz30 ⟨by omega, by omega⟩ (fun k31 => ?_)
          refine mj_T.pl rfl rfl rfl rfl ?_
          refine jT.getR 16 105 5 ty oh15 rfl kp0 (by decide) rfl rfl rfl (fun k32 => ?_)
          refine mj_T.pl rfl rfl rfl rfl ?_
          refine jT.aald 5 13 ty oh15 rfl k32 (by decide) (by decide) rfl rx14 ⟨by omega, by omega⟩ (fun k33 => ?_)
          refine jT.call rfl rfl (Nat.le_of_ble_eq_true rfl) (Nat.le_of_ble_eq_true rfl) (jrv_of oh15 kp0 (by decide) rfl (by decide) rfl _) rfl (mj_Ok.up (Nat.add_le_add_left (by decide) D) (jc_71 (D := D) ty hg oh15 kp0 k28 k31 k33)) rfl rfl (fun v34 h35 qv34 oh35 => ?_)
          obtain rfl : v34 = none := qv34
          refine mj_T.eq (pc2 := 88) (st2 := []) ?_ rfl rfl rfl rfl
          refine mj_T.pl rfl rfl rfl rfl ?_
          refine jT.getR 16 105 5 ty oh35 rfl kp0 (by decide) rfl rfl rfl (fun k36 => ?_)
          refine mj_T.pl rfl rfl rfl rfl ?_
          refine jT.aald 5 13 ty oh35 rfl k36 (by decide) (by decide) rfl rx14 ⟨by omega, by omega⟩ (fun k37 => ?_)
          refine jT.getI 13 6 oh35 rfl k37 (by decide) rfl rfl rfl (fun z38 (az38 : (-1) ≤ z38) (bz38 : z38 ≤ 30) fz38 => ?_)
          have rz38 : -2147483648 ≤ z38 ∧ z38 ≤ 2147483647 := ⟨by omega, by omega⟩
          refine jT.if0 rfl rz38 (fun c97 => ?_) (fun c97 => ?_)
          · have c97 := of_decide_eq_true c97
            iterate 3 refine mj_T.pl rfl rfl rfl rfl ?_
            refine jT.iadd rfl (fun z39 rz39 ez39 => ?_)
            replace ez39 := ez39 ⟨by omega, by omega⟩
            refine jT.putI 16 0 oh35 rfl kp0 (by decide) rfl rfl rfl (Or.inl rfl) (by show (-2147483648) ≤ z39; omega) (by show z39 ≤ 2147483647; omega) (fun h40 oh40 wh40 uh40 => ?_)
            refine jT.iinc rfl rfl (fun z41 rz41 ez41 => ?_)
            replace ez41 := ez41 ⟨by omega, by omega⟩
            refine mj_T.eq (loc2 := [some (.ref p0), some (.int (jn z41))]) ?_ rfl rfl rfl rfl
            refine mj_T.pl rfl rfl rfl rfl ?_
            exact ih18 ((2147483647 - z41 : Int).toNat) (by omega) z41 h40 rz41 oh40 (by omega) rfl
          · have c97 := of_decide_eq_false c97
            exact jT.ret oh35 rfl rfl rfl rfl
    exact t39_16 _ 2 h13 ⟨by decide, by decide⟩ oh13 (by omega) rfl
  refine jT.if0 rfl rz4 (fun c10 => ?_) (fun c10 => ?_)
  · have c10 := of_decide_eq_true c10
    refine mj_T.pl rfl rfl rfl rfl ?_
    exact t18_6 2 ⟨by decide, by decide⟩
  · have c10 := of_decide_eq_false c10
    iterate 2 refine mj_T.pl rfl rfl rfl rfl ?_
    exact t18_6 1 ⟨by decide, by decide⟩
-- PolyRegisters$Sturm.last()LPolyRegisters$Poly;
theorem jc_73 {D n : Nat} {tm : Int} {h g : mj_H} {K L : Nat → Nat} {R : Nat → Nat → Nat} {p0 : Nat} (ty : jTY K L R) (hg : g.length ≤ n) (o : jO K L R g n tm h) (kp0 : K p0 = 16) : mj_Ok (D + 1) 73 [.ref p0] h (jQp K L R g n tm h [] (jVr K 13)) := by
  refine mj_Ok.of (M := mj_m73) (loc := [some (.ref p0)]) rfl rfl rfl ?_
  refine mj_T.pl rfl rfl rfl rfl ?_
  refine jT.getR 16 105 5 ty o rfl kp0 (by decide) rfl rfl rfl (fun k1 => ?_)
  refine mj_T.pl rfl rfl rfl rfl ?_
  refine jT.getI 16 0 o rfl kp0 (by decide) rfl rfl rfl (fun z2 (az2 : (-2147483648) ≤ z2) (bz2 : z2 ≤ 2147483647) fz2 => ?_)
  have rz2 : -2147483648 ≤ z2 ∧ z2 ≤ 2147483647 := ⟨by omega, by omega⟩
  refine jT.if0 rfl rz2 (fun c8 => ?_) (fun c8 => ?_)
  · have c8 := of_decide_eq_true c8
    refine mj_T.pl rfl rfl rfl rfl ?_
    have l3 : 14 ≤ (L (R p0 1) : Int) ∧ (L (R p0 1) : Int) ≤ 14 := jlen 5 ty k1 (by decide) (by decide)
    refine jT.aald 5 13 ty o rfl k1 (by decide) (by decide) rfl ⟨by decide, by decide⟩ ⟨by omega, by omega⟩ (fun k4 => ?_)
    exact jT.retp rfl rfl rfl ⟨(R (R p0 1) (0 : Int).toNat), k4, rfl⟩
  · have c8 := of_decide_eq_false c8
    refine mj_T.pl rfl rfl rfl rfl ?_
    refine jT.getK 16 0 o rfl kp0 (by decide) rfl rfl rfl fz2.symm ?_
    refine mj_T.pl rfl rfl rfl rfl ?_
    refine jT.getR 16 105 5 ty o rfl kp0 (by decide) rfl rfl rfl (fun k5 => ?_)
    refine jT.alen 5 ty o rfl k5 (by decide) (by decide) (fun z6 ez6 (az6 : 14 ≤ z6) (bz6 : z6 ≤ 14) => ?_)
    have rz6 : -2147483648 ≤ z6 ∧ z6 ≤ 2147483647 := ⟨by omega, by omega⟩
    refine jT.icmp rfl rz2 rz6 (fun c20 => ?_) (fun c20 => ?_)
    · have c20 := of_decide_eq_true c20
      refine mj_T.pl rfl rfl rfl rfl ?_
      refine jT.aald 5 13 ty o rfl k1 (by decide) (by decide) rfl ⟨by decide, by decide⟩ ⟨by omega, by omega⟩ (fun k7 => ?_)
      exact jT.retp rfl rfl rfl ⟨(R (R p0 1) (0 : Int).toNat), k7, rfl⟩
    · have c20 := of_decide_eq_false c20
      refine mj_T.pl rfl rfl rfl rfl ?_
      refine jT.getK 16 0 o rfl kp0 (by decide) rfl rfl rfl fz2.symm ?_
      refine mj_T.pl rfl rfl rfl rfl ?_
      refine jT.isub rfl (fun z8 rz8 ez8 => ?_)
      replace ez8 := ez8 ⟨by omega, by omega⟩
      refine mj_T.pl rfl rfl rfl rfl ?_
      refine jT.aald 5 13 ty o rfl k1 (by decide) (by decide) rfl rz8 ⟨by omega, by omega⟩ (fun k9 => ?_)
      exact jT.retp rfl rfl rfl ⟨(R (R p0 1) (z8 : Int).toNat), k9, rfl⟩
-- PolyRegisters$Sturm.putDerivative()V
theorem jc_69 {D n : Nat} {tm : Int} {h g : mj_H} {K L : Nat → Nat} {R : Nat → Nat → Nat} {p0 : Nat} (ty : jTY K L R) (hg : g.length ≤ n) (o : jO K L R g n tm h) (kp0 : K p0 = 16) : mj_Ok (D + 3) 69 [.ref p0] h (jQ K L R g n tm [] jV0) := by
  refine mj_Ok.of (M := mj_m69) (loc := [some (.ref p0), none, none]) rfl rfl rfl ?_
  refine mj_T.pl rfl rfl rfl rfl ?_
  refine jT.getR 16 105 5 ty o rfl kp0 (by decide) rfl rfl rfl (fun k1 => ?_)
  refine mj_T.pl rfl rfl rfl rfl ?_
  have l2 : 14 ≤ (L (R p0 1) : Int) ∧ (L (R p0 1) : Int) ≤ 14 := jlen 5 ty k1 (by decide) (by decide)
  refine jT.aald 5 13 ty o rfl k1 (by decide) (by decide) rfl ⟨by decide, by decide⟩ ⟨by omega, by omega⟩ (fun k3 => ?_)
  refine mj_T.pl (loc' := [some (.ref p0), some (.ref (R (R p0 1) (1 : Int).toNat)), none]) rfl rfl rfl rfl ?_
  refine mj_T.pl rfl rfl rfl rfl ?_
  refine jT.call rfl rfl (Nat.le_of_ble_eq_true rfl) (Nat.le_of_ble_eq_true rfl) (jrv_of o k3 (by decide) rfl (by decide) rfl _) rfl (mj_Ok.up (Nat.add_le_add_left (by decide) D) (jc_39 (D := D) ty hg o k3)) rfl rfl (fun v4 h5 qv4 oh5 => ?_)
  obtain rfl : v4 = none := qv4
  refine mj_T.eq (pc2 := 11) (st2 := []) ?_ rfl rfl rfl rfl
  refine mj_T.pl rfl rfl rfl rfl ?_
  refine mj_T.pl (loc' := [some (.ref p0), some (.ref (R (R p0 1) (1 : Int).toNat)), some (.int (jn 1))]) rfl rfl rfl rfl ?_
  have t13_8 : ∀ (k9 : Nat) (x6 : Int) (h7 : mj_H), (-2147483648 ≤ x6 ∧ x6 ≤ 2147483647) → (jO K L R g n tm h7) → (1 ≤ x6) → (2147483647 - x6 : Int).toNat = k9 → mj_T (D + 2) mj_m69 13 [some (.ref p0), some (.ref (R (R p0 1) (1 : Int).toNat)), some (.int (jn x6))] [] h7 (jQ K L R g n tm [] jV0) := by
    refine jInd (fun k9 ih10 => ?_)
    intro x6 h7 rx6 oh7 ix6 hm11
    refine mj_T.pl rfl rfl rfl rfl ?_
    refine mj_T.pl rfl rfl rfl rfl ?_
    refine jT.getR 16 105 5 ty oh7 rfl kp0 (by decide) rfl rfl rfl (fun k12 => ?_)
    refine mj_T.pl rfl rfl rfl rfl ?_
    refine jT.aald 5 13 ty oh7 rfl k12 (by decide) (by decide) rfl ⟨by decide, by decide⟩ ⟨by omega, by omega⟩ (fun k13 => ?_)
    refine jT.getI 13 6 oh7 rfl k13 (by decide) rfl rfl rfl (fun z14 (az14 : (-1) ≤ z14) (bz14 : z14 ≤ 30) fz14 => ?_)
    have rz14 : -2147483648 ≤ z14 ∧ z14 ≤ 2147483647 := ⟨by omega, by omega⟩
    refine jT.icmp rfl rx6 rz14 (fun c23 => ?_) (fun c23 => ?_)
    · have c23 := of_decide_eq_true c23
      refine mj_T.pl rfl rfl rfl rfl ?_
      refine jT.call rfl rfl (Nat.le_of_ble_eq_true rfl) (Nat.le_of_ble_eq_true rfl) (jrv_of oh7 k3 (by decide) rfl (by decide) rfl _) rfl (mj_Ok.up (Nat.add_le_add_left (by decide) D) (jc_42 (D := D) ty hg oh7 k3)) rfl rfl (fun v15 h16 qv15 oh16 => ?_)
      obtain rfl : v15 = none := qv15
      refine mj_T.eq (pc2 := 68) (st2 := []) ?_ rfl rfl rfl rfl
      exact jT.ret oh16 rfl rfl rfl rfl
    · have c23 := of_decide_eq_false c23
      iterate 3 refine mj_T.pl rfl rfl rfl rfl ?_
      refine jT.isub rfl (fun z17 rz17 ez17 => ?_)
      replace ez17 := ez17 ⟨by omega, by omega⟩
      refine jT.callp rfl rfl (Nat.le_of_ble_eq_true rfl) (Nat.le_of_ble_eq_true rfl) (jrv_of oh7 k3 (by decide) rfl (by decide) rfl _) rfl (mj_Ok.up (Nat.add_le_add_left (by decide) D) (jc_36 (D := D) ty hg oh7 k3 rz17)) rfl rfl (fun v18 qv18 => ?_)
      obtain ⟨a19, ka19, rfl⟩ := qv18
      refine mj_T.eq (pc2 := 33) (st2 := [.ref a19]) ?_ rfl rfl rfl rfl
      refine mj_T.pl rfl rfl rfl rfl ?_
      refine jT.getR 16 105 5 ty oh7 rfl kp0 (by decide) rfl rfl rfl (fun k20 => ?_)
      refine mj_T.pl rfl rfl rfl rfl ?_
      refine jT.aald 5 13 ty oh7 rfl k20 (by decide) (by decide) rfl ⟨by decide, by decide⟩ ⟨by omega, by omega⟩ (fun k21 => ?_)
      refine mj_T.pl rfl rfl rfl rfl ?_
      refine jT.callp rfl rfl (Nat.le_of_ble_eq_true rfl) (Nat.le_of_ble_eq_true rfl) (jrv_of oh7 k21 (by decide) rfl (by decide) rfl _) rfl (mj_Ok.up (Nat.add_le_add_left (by decide) D) (jc_36 (D := D) ty hg oh7 k21 rx6)) rfl rfl (fun v22 qv22 => ?_)
      obtain ⟨a23, ka23, rfl⟩ := qv22
      refine mj_T.eq (pc2 := 43) (st2 := [.ref a23, .ref a19]) ?_ rfl rfl rfl rfl
      refine jT.call rfl rfl (Nat.le_of_ble_eq_true rfl) (Nat.le_of_ble_eq_true rfl) (jrv_of oh7 ka19 (by decide) rfl (by decide) rfl _) rfl (mj_Ok.up (Nat.add_le_add_left (by decide) D) (jc_87 (D := D) ty hg oh7 ka19 ka23)) rfl rfl (fun v24 h25 qv24 oh25 => ?_)
      obtain rfl : v24 = none := qv24
      refine mj_T.eq (pc2 := 46) (st2 := []) ?_ rfl rfl rfl rfl
      iterate 3 refine mj_T.pl rfl rfl rfl rfl ?_
      refine jT.isub rfl (fun z26 rz26 ez26 => ?_)
      replace ez26 := ez26 ⟨by omega, by omega⟩
      refine jT.callp rfl rfl (Nat.le_of_ble_eq_true rfl) (Nat.le_of_ble_eq_true rfl) (jrv_of oh25 k3 (by decide) rfl (by decide) rfl _) rfl (mj_Ok.up (Nat.add_le_add_left (by decide) D) (jc_36 (D := D) ty hg oh25 k3 rz26)) rfl rfl (fun v27 qv27 => ?_)
      obtain ⟨a28, ka28, rfl⟩ := qv27
      refine mj_T.eq (pc2 := 53) (st2 := [.ref a28]) ?_ rfl rfl rfl rfl
      refine mj_T.pl rfl rfl rfl rfl ?_
      refine jT.i2l rfl rx6 ?_
      have j29 : jR x6 := ⟨by omega, by omega⟩
      refine jT.call rfl rfl (Nat.le_of_ble_eq_true rfl) (Nat.le_of_ble_eq_true rfl) (jrv_of oh25 ka28 (by decide) rfl (by decide) rfl _) rfl (mj_Ok.up (Nat.add_le_add_left (by decide) D) (jc_96 (D := D) ty hg oh25 ka28 j29)) rfl rfl (fun v30 h31 qv30 oh31 => ?_)
      obtain rfl : v30 = none := qv30
      refine mj_T.eq (pc2 := 58) (st2 := []) ?_ rfl rfl rfl rfl
      refine jT.iinc rfl rfl (fun z32 rz32 ez32 => ?_)
      replace ez32 := ez32 ⟨by omega, by omega⟩
      refine mj_T.eq (loc2 := [some (.ref p0), some (.ref (R (R p0 1) (1 : Int).toNat)), some (.int (jn z32))]) ?_ rfl rfl rfl rfl
      refine mj_T.pl rfl rfl rfl rfl ?_
      exact ih10 ((2147483647 - z32 : Int).toNat) (by omega) z32 h31 rz32 oh31 (by omega) rfl
  exact t13_8 _ 1 h5 ⟨by decide, by decide⟩ oh5 (by omega) rfl
-- PolyRegisters$Sturm.changesFar(I)I
theorem jc_77 {D n : Nat} {tm : Int} {h g : mj_H} {K L : Nat → Nat} {R : Nat → Nat → Nat} {p0 : Nat} {p1 : Int} (ty : jTY K L R) (hg : g.length ≤ n) (o : jO K L R g n tm h) (kp0 : K p0 = 16) (rp1 : -2147483648 ≤ p1 ∧ p1 ≤ 2147483647) : mj_Ok (D + 3) 77 [.ref p0, .int (jn p1)] h (jQp K L R g n tm h [] (jVi (-2147483648) 2147483647)) := by
  refine mj_Ok.of (M := mj_m77) (loc := [some (.ref p0), some (.int (jn p1)), none, none, none, none]) rfl rfl rfl ?_
  refine mj_T.pl rfl rfl rfl rfl ?_
  refine mj_T.pl (loc' := [some (.ref p0), some (.int (jn p1)), some (.int (jn 0)), none, none, none]) rfl rfl rfl rfl ?_
  refine mj_T.pl rfl rfl rfl rfl ?_
  refine mj_T.pl (loc' := [some (.ref p0), some (.int (jn p1)), some (.int (jn 0)), some (.int (jn 0)), none, none]) rfl rfl rfl rfl ?_
  refine mj_T.pl rfl rfl rfl rfl ?_
  refine mj_T.pl (loc' := [some (.ref p0), some (.int (jn p1)), some (.int (jn 0)), some (.int (jn 0)), some (.int (jn 0)), none]) rfl rfl rfl rfl ?_
  have t7_5 : ∀ (k6 : Nat) (x1 : Int) (x2 : Int) (x3 : Int) (w4 : Option Value), (-2147483648 ≤ x1 ∧ x1 ≤ 2147483647) → (-2147483648 ≤ x2 ∧ x2 ≤ 2147483647) → (-2147483648 ≤ x3 ∧ x3 ≤ 2147483647) → (0 ≤ x3) → (2147483647 - x3 : Int).toNat = k6 → mj_T (D + 2) mj_m77 7 [some (.ref p0), some (.int (jn p1)), some (.int (jn x1)), some (.int (jn x2)), some (.int (jn x3)), w4] [] h (jQp K L R g n tm h [] (jVi (-2147483648) 2147483647)) := by
    refine jInd (fun k6 ih7 => ?_)
    intro x1 x2 x3 w4 rx1 rx2 rx3 ix3 hm8
    refine mj_T.pl rfl rfl rfl rfl ?_
    refine mj_T.pl rfl rfl rfl rfl ?_
    refine jT.getI 16 0 o rfl kp0 (by decide) rfl rfl rfl (fun z9 (az9 : (-2147483648) ≤ z9) (bz9 : z9 ≤ 2147483647) fz9 => ?_)
    have rz9 : -2147483648 ≤ z9 ∧ z9 ≤ 2147483647 := ⟨by omega, by omega⟩
    refine jT.icmp rfl rx3 rz9 (fun c13 => ?_) (fun c13 => ?_)
    · have c13 := of_decide_eq_true c13
      refine mj_T.pl rfl rfl rfl rfl ?_
      exact jT.retp rfl rfl rfl ⟨x1, by omega, by omega, rfl⟩
    · have c13 := of_decide_eq_false c13
      iterate 2 refine mj_T.pl rfl rfl rfl rfl ?_
      refine jT.getR 16 105 5 ty o rfl kp0 (by decide) rfl rfl rfl (fun k10 => ?_)
      refine jT.alen 5 ty o rfl k10 (by decide) (by decide) (fun z11 ez11 (az11 : 14 ≤ z11) (bz11 : z11 ≤ 14) => ?_)
      have rz11 : -2147483648 ≤ z11 ∧ z11 ≤ 2147483647 := ⟨by omega, by omega⟩
      refine jT.icmp rfl rx3 rz11 (fun c23 => ?_) (fun c23 => ?_)
      · have c23 := of_decide_eq_true c23
        refine mj_T.pl rfl rfl rfl rfl ?_
        exact jT.retp rfl rfl rfl ⟨x1, by omega, by omega, rfl⟩
      · have c23 := of_decide_eq_false c23
        refine mj_T.pl rfl rfl rfl rfl ?_
        refine jT.getR 16 105 5 ty o rfl kp0 (by decide) rfl rfl rfl (fun k12 => ?_)
        refine mj_T.pl rfl rfl rfl rfl ?_
        refine jT.aald 5 13 ty o rfl k12 (by decide) (by decide) rfl rx3 ⟨by omega, by omega⟩ (fun k13 => ?_)
        refine jT.callpp rfl rfl (Nat.le_of_ble_eq_true rfl) (Nat.le_of_ble_eq_true rfl) (jrv_of o k13 (by decide) rfl (by decide) rfl _) rfl (mj_Ok.up (Nat.add_le_add_left (by decide) D) (jc_37 (D := D) ty hg o k13)) rfl rfl (fun v14 qv14 => ?_)
        obtain ⟨a15, ka15, rfl⟩ := qv14
        refine mj_T.eq (pc2 := 36) (st2 := [.ref a15]) ?_ rfl rfl rfl rfl
        refine jT.getI 18 0 o rfl ka15 (by decide) rfl rfl rfl (fun z16 (az16 : (-2147483648) ≤ z16) (bz16 : z16 ≤ 2147483647) fz16 => ?_)
        have rz16 : -2147483648 ≤ z16 ∧ z16 ≤ 2147483647 := ⟨by omega, by omega⟩
        refine mj_T.pl rfl rfl rfl rfl ?_
        refine jT.getR 16 105 5 ty o rfl kp0 (by decide) rfl rfl rfl (fun k17 => ?_)
        refine mj_T.pl rfl rfl rfl rfl ?_
        refine jT.aald 5 13 ty o rfl k17 (by decide) (by decide) rfl rx3 ⟨by omega, by omega⟩ (fun k18 => ?_)
        refine jT.getI 13 6 o rfl k18 (by decide) rfl rfl rfl (fun z19 (az19 : (-1) ≤ z19) (bz19 : z19 ≤ 30) fz19 => ?_)
        have rz19 : -2147483648 ≤ z19 ∧ z19 ≤ 2147483647 := ⟨by omega, by omega⟩
        refine mj_T.pl rfl rfl rfl rfl ?_
        refine jT.irem rfl ⟨by decide, by decide⟩ (by decide) (fun z20 rz20 => ?_)
        have t59_22 : ∀ (x21 : Int), (-2147483648 ≤ x21 ∧ x21 ≤ 2147483647) → mj_T (D + 2) mj_m77 59 [some (.ref p0), some (.int (jn p1)), some (.int (jn x1)), some (.int (jn x2)), some (.int (jn x3)), w4] [.int (jn x21), .int (jn z16)] h (jQp K L R g n tm h [] (jVi (-2147483648) 2147483647)) := by
          intro x21 rx21
          refine jT.imul rfl (fun z23 rz23 ez23 => ?_)
          clear ez23
          refine mj_T.pl (loc' := [some (.ref p0), some (.int (jn p1)), some (.int (jn x1)), some (.int (jn x2)), some (.int (jn x3)), some (.int (jn z23))]) rfl rfl rfl rfl ?_
          iterate 3 refine mj_T.pl rfl rfl rfl rfl ?_
          refine jT.imul rfl (fun z24 rz24 ez24 => ?_)
          clear ez24
          refine jT.if0 rfl rz24 (fun c67 => ?_) (fun c67 => ?_)
          · have c67 := of_decide_eq_true c67
            refine mj_T.pl rfl rfl rfl rfl ?_
            refine jT.iadd rfl (fun z25 rz25 ez25 => ?_)
            replace ez25 := ez25 ⟨by omega, by omega⟩
            refine mj_T.pl (loc' := [some (.ref p0), some (.int (jn p1)), some (.int (jn z25)), some (.int (jn x2)), some (.int (jn x3)), some (.int (jn z23))]) rfl rfl rfl rfl ?_
            refine mj_T.pl rfl rfl rfl rfl ?_
            refine mj_T.pl (loc' := [some (.ref p0), some (.int (jn p1)), some (.int (jn z25)), some (.int (jn z23)), some (.int (jn x3)), some (.int (jn z23))]) rfl rfl rfl rfl ?_
            refine jT.iinc rfl rfl (fun z26 rz26 ez26 => ?_)
            replace ez26 := ez26 ⟨by omega, by omega⟩
            refine mj_T.eq (loc2 := [some (.ref p0), some (.int (jn p1)), some (.int (jn z25)), some (.int (jn z23)), some (.int (jn z26)), some (.int (jn z23))]) ?_ rfl rfl rfl rfl
            refine mj_T.pl rfl rfl rfl rfl ?_
            exact ih7 ((2147483647 - z26 : Int).toNat) (by omega) z25 z23 z26 (some (.int (jn z23))) rz25 rz23 rz26 (by omega) rfl
          · have c67 := of_decide_eq_false c67
            iterate 2 refine mj_T.pl rfl rfl rfl rfl ?_
            refine jT.iadd rfl (fun z27 rz27 ez27 => ?_)
            clear ez27
            refine mj_T.pl (loc' := [some (.ref p0), some (.int (jn p1)), some (.int (jn z27)), some (.int (jn x2)), some (.int (jn x3)), some (.int (jn z23))]) rfl rfl rfl rfl ?_
            refine mj_T.pl rfl rfl rfl rfl ?_
            refine mj_T.pl (loc' := [some (.ref p0), some (.int (jn p1)), some (.int (jn z27)), some (.int (jn z23)), some (.int (jn x3)), some (.int (jn z23))]) rfl rfl rfl rfl ?_
            refine jT.iinc rfl rfl (fun z28 rz28 ez28 => ?_)
            replace ez28 := ez28 ⟨by omega, by omega⟩
            refine mj_T.eq (loc2 := [some (.ref p0), some (.int (jn p1)), some (.int (jn z27)), some (.int (jn z23)), some (.int (jn z28)), some (.int (jn z23))]) ?_ rfl rfl rfl rfl
            refine mj_T.pl rfl rfl rfl rfl ?_
            exact ih7 ((2147483647 - z28 : Int).toNat) (by omega) z27 z23 z28 (some (.int (jn z23))) rz27 rz23 rz28 (by omega) rfl
        refine jT.if0 rfl rz20 (fun c51 => ?_) (fun c51 => ?_)
        · have c51 := of_decide_eq_true c51
          refine mj_T.pl rfl rfl rfl rfl ?_
          exact t59_22 1 ⟨by decide, by decide⟩
        · have c51 := of_decide_eq_false c51
          iterate 2 refine mj_T.pl rfl rfl rfl rfl ?_
          exact t59_22 p1 rp1
  exact t7_5 _ 0 0 0 none ⟨by decide, by decide⟩ ⟨by decide, by decide⟩ ⟨by decide, by decide⟩ (by omega) rfl
-- PolyRegisters$Sturm.stretch(J)V
theorem jc_74 {D n : Nat} {tm : Int} {h g : mj_H} {K L : Nat → Nat} {R : Nat → Nat → Nat} {p0 : Nat} {p1 : Int} (ty : jTY K L R) (hg : g.length ≤ n) (o : jO K L R g n tm h) (kp0 : K p0 = 16) (jp1 : jR p1) : mj_Ok (D + 3) 74 [.ref p0, .long (jl p1)] h (jQ K L R g n tm [] jV0) := by
  refine mj_Ok.of (M := mj_m74) (loc := [some (.ref p0), some (.long (jl p1)), none, none]) rfl rfl rfl ?_
  refine mj_T.pl rfl rfl rfl rfl ?_
  refine mj_T.pl (loc' := [some (.ref p0), some (.long (jl p1)), none, some (.int (jn 0))]) rfl rfl rfl rfl ?_
  have t2_3 : ∀ (k4 : Nat) (x1 : Int) (h2 : mj_H), (-2147483648 ≤ x1 ∧ x1 ≤ 2147483647) → (jO K L R g n tm h2) → (0 ≤ x1) → (2147483647 - x1 : Int).toNat = k4 → mj_T (D + 2) mj_m74 2 [some (.ref p0), some (.long (jl p1)), none, some (.int (jn x1))] [] h2 (jQ K L R g n tm [] jV0) := by
    refine jInd (fun k4 ih5 => ?_)
    intro x1 h2 rx1 oh2 ix1 hm6
    refine mj_T.pl rfl rfl rfl rfl ?_
    refine mj_T.pl rfl rfl rfl rfl ?_
    refine jT.getI 16 0 oh2 rfl kp0 (by decide) rfl rfl rfl (fun z7 (az7 : (-2147483648) ≤ z7) (bz7 : z7 ≤ 2147483647) fz7 => ?_)
    have rz7 : -2147483648 ≤ z7 ∧ z7 ≤ 2147483647 := ⟨by omega, by omega⟩
    refine jT.icmp rfl rx1 rz7 (fun c7 => ?_) (fun c7 => ?_)
    · have c7 := of_decide_eq_true c7
      exact jT.ret oh2 rfl rfl rfl rfl
    · have c7 := of_decide_eq_false c7
      iterate 2 refine mj_T.pl rfl rfl rfl rfl ?_
      refine jT.getR 16 105 5 ty oh2 rfl kp0 (by decide) rfl rfl rfl (fun k8 => ?_)
      refine jT.alen 5 ty oh2 rfl k8 (by decide) (by decide) (fun z9 ez9 (az9 : 14 ≤ z9) (bz9 : z9 ≤ 14) => ?_)
      have rz9 : -2147483648 ≤ z9 ∧ z9 ≤ 2147483647 := ⟨by omega, by omega⟩
      refine jT.icmp rfl rx1 rz9 (fun c16 => ?_) (fun c16 => ?_)
      · have c16 := of_decide_eq_true c16
        exact jT.ret oh2 rfl rfl rfl rfl
      · have c16 := of_decide_eq_false c16
        refine mj_T.pl rfl rfl rfl rfl ?_
        refine jT.getR 16 111 11 ty oh2 rfl kp0 (by decide) rfl rfl rfl (fun k10 => ?_)
        refine mj_T.pl rfl rfl rfl rfl ?_
        refine jT.getR 16 105 5 ty oh2 rfl kp0 (by decide) rfl rfl rfl (fun k11 => ?_)
        refine mj_T.pl rfl rfl rfl rfl ?_
        refine jT.aald 5 13 ty oh2 rfl k11 (by decide) (by decide) rfl rx1 ⟨by omega, by omega⟩ (fun k12 => ?_)
        refine mj_T.pl rfl rfl rfl rfl ?_
        refine jT.call rfl rfl (Nat.le_of_ble_eq_true rfl) (Nat.le_of_ble_eq_true rfl) (jrv_of oh2 k10 (by decide) rfl (by decide) rfl _) rfl (mj_Ok.up (Nat.add_le_add_left (by decide) D) (jc_26 (D := D) ty hg oh2 k10 k12 jp1)) rfl rfl (fun v13 h14 qv13 oh14 => ?_)
        obtain rfl : v13 = none := qv13
        refine mj_T.eq (pc2 := 33) (st2 := []) ?_ rfl rfl rfl rfl
        refine jT.iinc rfl rfl (fun z15 rz15 ez15 => ?_)
        replace ez15 := ez15 ⟨by omega, by omega⟩
        refine mj_T.eq (loc2 := [some (.ref p0), some (.long (jl p1)), none, some (.int (jn z15))]) ?_ rfl rfl rfl rfl
        refine mj_T.pl rfl rfl rfl rfl ?_
        exact ih5 ((2147483647 - z15 : Int).toNat) (by omega) z15 h14 rz15 oh14 (by omega) rfl
  exact t2_3 _ 0 h ⟨by decide, by decide⟩ o (by omega) rfl
-- PolyRegisters$Sturm.changesAt(LPolyRegisters$Wide;)I
theorem jc_76 {D n : Nat} {tm : Int} {h g : mj_H} {K L : Nat → Nat} {R : Nat → Nat → Nat} {p0 : Nat} {p1 : Nat} (ty : jTY K L R) (hg : g.length ≤ n) (o : jO K L R g n tm h) (kp0 : K p0 = 16) (kp1 : K p1 = 18) : mj_Ok (D + 4) 76 [.ref p0, .ref p1] h (jQ K L R g n tm [] (jVi (-2147483648) 2147483647)) := by
  refine mj_Ok.of (M := mj_m76) (loc := [some (.ref p0), some (.ref p1), none, none, none, none]) rfl rfl rfl ?_
  refine mj_T.pl rfl rfl rfl rfl ?_
  refine mj_T.pl (loc' := [some (.ref p0), some (.ref p1), some (.int (jn 0)), none, none, none]) rfl rfl rfl rfl ?_
  refine mj_T.pl rfl rfl rfl rfl ?_
  refine mj_T.pl (loc' := [some (.ref p0), some (.ref p1), some (.int (jn 0)), some (.int (jn 0)), none, none]) rfl rfl rfl rfl ?_
  refine mj_T.pl rfl rfl rfl rfl ?_
  refine mj_T.pl (loc' := [some (.ref p0), some (.ref p1), some (.int (jn 0)), some (.int (jn 0)), some (.int (jn 0)), none]) rfl rfl rfl rfl ?_
  have t7_6 : ∀ (k7 : Nat) (x1 : Int) (x2 : Int) (x3 : Int) (w4 : Option Value) (h5 : mj_H), (-2147483648 ≤ x1 ∧ x1 ≤ 2147483647) → (-2147483648 ≤ x2 ∧ x2 ≤ 2147483647) → (-2147483648 ≤ x3 ∧ x3 ≤ 2147483647) → (jO K L R g n tm h5) → (0 ≤ x3) → (2147483647 - x3 : Int).toNat = k7 → mj_T (D + 3) mj_m76 7 [some (.ref p0), some (.ref p1), some (.int (jn x1)), some (.int (jn x2)), some (.int (jn x3)), w4] [] h5 (jQ K L R g n tm [] (jVi (-2147483648) 2147483647)) := by
    refine jInd (fun k7 ih8 => ?_)
    intro x1 x2 x3 w4 h5 rx1 rx2 rx3 oh5 ix3 hm9
    refine mj_T.pl rfl rfl rfl rfl ?_
    refine mj_T.pl rfl rfl rfl rfl ?_
    refine jT.getI 16 0 oh5 rfl kp0 (by decide) rfl rfl rfl (fun z10 (az10 : (-2147483648) ≤ z10) (bz10 : z10 ≤ 2147483647) fz10 => ?_)
    have rz10 : -2147483648 ≤ z10 ∧ z10 ≤ 2147483647 := ⟨by omega, by omega⟩
    refine jT.icmp rfl rx3 rz10 (fun c13 => ?_) (fun c13 => ?_)
    · have c13 := of_decide_eq_true c13
      refine mj_T.pl rfl rfl rfl rfl ?_
      exact jT.ret oh5 rfl rfl rfl ⟨x1, by omega, by omega, rfl⟩
    · have c13 := of_decide_eq_false c13
      iterate 2 refine mj_T.pl rfl rfl rfl rfl ?_
      refine jT.getR 16 105 5 ty oh5 rfl kp0 (by decide) rfl rfl rfl (fun k11 => ?_)
      refine jT.alen 5 ty oh5 rfl k11 (by decide) (by decide) (fun z12 ez12 (az12 : 14 ≤ z12) (bz12 : z12 ≤ 14) => ?_)
      have rz12 : -2147483648 ≤ z12 ∧ z12 ≤ 2147483647 := ⟨by omega, by omega⟩
      refine jT.icmp rfl rx3 rz12 (fun c23 => ?_) (fun c23 => ?_)
      · have c23 := of_decide_eq_true c23
        refine mj_T.pl rfl rfl rfl rfl ?_
        exact jT.ret oh5 rfl rfl rfl ⟨x1, by omega, by omega, rfl⟩
      · have c23 := of_decide_eq_false c23
        refine mj_T.pl rfl rfl rfl rfl ?_
        refine jT.getR 16 111 11 ty oh5 rfl kp0 (by decide) rfl rfl rfl (fun k13 => ?_)
        refine mj_T.pl rfl rfl rfl rfl ?_
        refine jT.getR 16 105 5 ty oh5 rfl kp0 (by decide) rfl rfl rfl (fun k14 => ?_)
        refine mj_T.pl rfl rfl rfl rfl ?_
        refine jT.aald 5 13 ty oh5 rfl k14 (by decide) (by decide) rfl rx3 ⟨by omega, by omega⟩ (fun k15 => ?_)
        refine mj_T.pl rfl rfl rfl rfl ?_
        refine jT.call rfl rfl (Nat.le_of_ble_eq_true rfl) (Nat.le_of_ble_eq_true rfl) (jrv_of oh5 k13 (by decide) rfl (by decide) rfl _) rfl (mj_Ok.up (Nat.add_le_add_left (by decide) D) (jc_28 (D := D) ty hg oh5 k13 k15 kp1)) rfl rfl (fun v16 h17 qv16 oh17 => ?_)
        obtain ⟨z18, az18, bz18, rfl⟩ := qv16
        have rz18 : -2147483648 ≤ z18 ∧ z18 ≤ 2147483647 := ⟨by omega, by omega⟩
        refine mj_T.eq (pc2 := 41) (st2 := [.int (jn z18)]) ?_ rfl rfl rfl rfl
        refine mj_T.pl (loc' := [some (.ref p0), some (.ref p1), some (.int (jn x1)), some (.int (jn x2)), some (.int (jn x3)), some (.int (jn z18))]) rfl rfl rfl rfl ?_
        iterate 3 refine mj_T.pl rfl rfl rfl rfl ?_
        refine jT.imul rfl (fun z19 rz19 ez19 => ?_)
        clear ez19
        have t56_21 : ∀ (x20 : Int), (0 ≤ x20 ∧ x20 ≤ 1) → mj_T (D + 3) mj_m76 56 [some (.ref p0), some (.ref p1), some (.int (jn x1)), some (.int (jn x2)), some (.int (jn x3)), some (.int (jn z18))] [.int (jn x20), .int (jn x1)] h17 (jQ K L R g n tm [] (jVi (-2147483648) 2147483647)) := by
          intro x20 ax20
          have rx20 : -2147483648 ≤ x20 ∧ x20 ≤ 2147483647 := ⟨by omega, by omega⟩
          refine jT.iadd rfl (fun z22 rz22 ez22 => ?_)
          clear ez22
          refine mj_T.pl (loc' := [some (.ref p0), some (.ref p1), some (.int (jn z22)), some (.int (jn x2)), some (.int (jn x3)), some (.int (jn z18))]) rfl rfl rfl rfl ?_
          refine mj_T.pl rfl rfl rfl rfl ?_
          refine jT.if0 rfl rz18 (fun c60 => ?_) (fun c60 => ?_)
          · have c60 := jne1 c60
            refine mj_T.pl rfl rfl rfl rfl ?_
            refine mj_T.pl (loc' := [some (.ref p0), some (.ref p1), some (.int (jn z22)), some (.int (jn z18)), some (.int (jn x3)), some (.int (jn z18))]) rfl rfl rfl rfl ?_
            refine jT.iinc rfl rfl (fun z23 rz23 ez23 => ?_)
            replace ez23 := ez23 ⟨by omega, by omega⟩
            refine mj_T.eq (loc2 := [some (.ref p0), some (.ref p1), some (.int (jn z22)), some (.int (jn z18)), some (.int (jn z23)), some (.int (jn z18))]) ?_ rfl rfl rfl rfl
            refine mj_T.pl rfl rfl rfl rfl ?_
            exact ih8 ((2147483647 - z23 : Int).toNat) (by omega) z22 z18 z23 (some (.int (jn z18))) h17 rz22 rz18 rz23 oh17 (by omega) rfl
          · have c60 := jne2 c60
            iterate 2 refine mj_T.pl rfl rfl rfl rfl ?_
            refine mj_T.pl (loc' := [some (.ref p0), some (.ref p1), some (.int (jn z22)), some (.int (jn x2)), some (.int (jn x3)), some (.int (jn z18))]) rfl rfl rfl rfl ?_
            refine jT.iinc rfl rfl (fun z24 rz24 ez24 => ?_)
            replace ez24 := ez24 ⟨by omega, by omega⟩
            refine mj_T.eq (loc2 := [some (.ref p0), some (.ref p1), some (.int (jn z22)), some (.int (jn x2)), some (.int (jn z24)), some (.int (jn z18))]) ?_ rfl rfl rfl rfl
            refine mj_T.pl rfl rfl rfl rfl ?_
            exact ih8 ((2147483647 - z24 : Int).toNat) (by omega) z22 x2 z24 (some (.int (jn z18))) h17 rz22 rx2 rz24 oh17 (by omega) rfl
        refine jT.if0 rfl rz19 (fun c48 => ?_) (fun c48 => ?_)
        · have c48 := of_decide_eq_true c48
          refine mj_T.pl rfl rfl rfl rfl ?_
          exact t56_21 0 ⟨by omega, by omega⟩
        · have c48 := of_decide_eq_false c48
          iterate 2 refine mj_T.pl rfl rfl rfl rfl ?_
          exact t56_21 1 ⟨by omega, by omega⟩
  exact t7_6 _ 0 0 0 none h ⟨by decide, by decide⟩ ⟨by decide, by decide⟩ ⟨by decide, by decide⟩ o (by omega) rfl
-- PolyRegisters$Sturm.begin([JJ)V
theorem jc_68 {D n : Nat} {tm : Int} {h g : mj_H} {K L : Nat → Nat} {R : Nat → Nat → Nat} {p0 : Nat} {p1 : Nat} {p2 : Int} (ty : jTY K L R) (hg : g.length ≤ n) (o : jO K L R g n tm h) (kp0 : K p0 = 16) (kp1 : K p1 = 2) (jp2 : jR p2) : mj_Ok (D + 6) 68 [.ref p0, .ref p1, .long (jl p2)] h (jQ K L R g n tm [] jV0) := by
  refine mj_Ok.of (M := mj_m68) (loc := [some (.ref p0), some (.ref p1), some (.long (jl p2)), none]) rfl rfl rfl ?_
  refine mj_T.pl rfl rfl rfl rfl ?_
  refine jT.getR 16 105 5 ty o rfl kp0 (by decide) rfl rfl rfl (fun k1 => ?_)
  refine mj_T.pl rfl rfl rfl rfl ?_
  have l2 : 14 ≤ (L (R p0 1) : Int) ∧ (L (R p0 1) : Int) ≤ 14 := jlen 5 ty k1 (by decide) (by decide)
  refine jT.aald 5 13 ty o rfl k1 (by decide) (by decide) rfl ⟨by decide, by decide⟩ ⟨by omega, by omega⟩ (fun k3 => ?_)
  iterate 2 refine mj_T.pl rfl rfl rfl rfl ?_
  refine jT.call rfl rfl (Nat.le_of_ble_eq_true rfl) (Nat.le_of_ble_eq_true rfl) (jrv_of o k3 (by decide) rfl (by decide) rfl _) rfl (mj_Ok.up (Nat.add_le_add_left (by decide) D) (jc_40 (D := D) ty hg o k3 kp1 jp2)) rfl rfl (fun v4 h5 qv4 oh5 => ?_)
  obtain rfl : v4 = none := qv4
  refine mj_T.eq (pc2 := 11) (st2 := []) ?_ rfl rfl rfl rfl
  refine mj_T.pl rfl rfl rfl rfl ?_
  refine jT.call rfl rfl (Nat.le_of_ble_eq_true rfl) (Nat.le_of_ble_eq_true rfl) (jrv_of oh5 kp0 (by decide) rfl (by decide) rfl _) rfl (mj_Ok.up (Nat.add_le_add_left (by decide) D) (jc_69 (D := D) ty hg oh5 kp0)) rfl rfl (fun v6 h7 qv6 oh7 => ?_)
  obtain rfl : v6 = none := qv6
  refine mj_T.eq (pc2 := 15) (st2 := []) ?_ rfl rfl rfl rfl
  refine mj_T.pl rfl rfl rfl rfl ?_
  refine jT.call rfl rfl (Nat.le_of_ble_eq_true rfl) (Nat.le_of_ble_eq_true rfl) (jrv_of oh7 kp0 (by decide) rfl (by decide) rfl _) rfl (mj_Ok.up (Nat.add_le_add_left (by decide) D) (jc_70 (D := D) ty hg oh7 kp0)) rfl rfl (fun v8 h9 qv8 oh9 => ?_)
  obtain rfl : v8 = none := qv8
  refine mj_T.eq (pc2 := 19) (st2 := []) ?_ rfl rfl rfl rfl
  exact jT.ret oh9 rfl rfl rfl rfl
-- PolyRegisters$Sturm.changesAt(J)I
theorem jc_75 {D n : Nat} {tm : Int} {h g : mj_H} {K L : Nat → Nat} {R : Nat → Nat → Nat} {p0 : Nat} {p1 : Int} (ty : jTY K L R) (hg : g.length ≤ n) (o : jO K L R g n tm h) (kp0 : K p0 = 16) (jp1 : jR p1) : mj_Ok (D + 5) 75 [.ref p0, .long (jl p1)] h (jQ K L R g n tm [] (jVi (-2147483648) 2147483647)) := by
  refine mj_Ok.of (M := mj_m75) (loc := [some (.ref p0), some (.long (jl p1)), none]) rfl rfl rfl ?_
  refine mj_T.pl rfl rfl rfl rfl ?_
  refine jT.getR 16 118 18 ty o rfl kp0 (by decide) rfl rfl rfl (fun k1 => ?_)
  refine mj_T.pl rfl rfl rfl rfl ?_
  refine jT.call rfl rfl (Nat.le_of_ble_eq_true rfl) (Nat.le_of_ble_eq_true rfl) (jrv_of o k1 (by decide) rfl (by decide) rfl _) rfl (mj_Ok.up (Nat.add_le_add_left (by decide) D) (jc_86 (D := D) ty hg o k1 jp1)) rfl rfl (fun v2 h3 qv2 oh3 => ?_)
  obtain rfl : v2 = none := qv2
  refine mj_T.eq (pc2 := 8) (st2 := []) ?_ rfl rfl rfl rfl
  iterate 2 refine mj_T.pl rfl rfl rfl rfl ?_
  refine jT.getR 16 118 18 ty oh3 rfl kp0 (by decide) rfl rfl rfl (fun k4 => ?_)
  refine jT.call rfl rfl (Nat.le_of_ble_eq_true rfl) (Nat.le_of_ble_eq_true rfl) (jrv_of oh3 kp0 (by decide) rfl (by decide) rfl _) rfl (mj_Ok.up (Nat.add_le_add_left (by decide) D) (jc_76 (D := D) ty hg oh3 kp0 k4)) rfl rfl (fun v5 h6 qv5 oh6 => ?_)
  obtain ⟨z7, az7, bz7, rfl⟩ := qv5
  have rz7 : -2147483648 ≤ z7 ∧ z7 ≤ 2147483647 := ⟨by omega, by omega⟩
  refine mj_T.eq (pc2 := 16) (st2 := [.int (jn z7)]) ?_ rfl rfl rfl rfl
  exact jT.ret oh6 rfl rfl rfl ⟨z7, by omega, by omega, rfl⟩
/-! The class by kinds: its methods. -/
-- PolyRegisters$Roots.takePrimitive(LPolyRegisters$Poly;J)V
theorem jc_60 {D n : Nat} {tm : Int} {h g : mj_H} {K L : Nat → Nat} {R : Nat → Nat → Nat} {p0 : Nat} {p1 : Nat} {p2 : Int} (ty : jTY K L R) (hg : g.length ≤ n) (o : jO K L R g n tm h) (kp0 : K p0 = 15) (kp1 : K p1 = 13) (jp2 : jR p2) : mj_Ok (D + 5) 60 [.ref p0, .ref p1, .long (jl p2)] h (jQ K L R g n tm [] jV0) := by
  refine mj_Ok.of (M := mj_m60) (loc := [some (.ref p0), some (.ref p1), some (.long (jl p2)), none, none]) rfl rfl rfl ?_
  refine mj_T.pl rfl rfl rfl rfl ?_
  refine jT.getR 15 111 11 ty o rfl kp0 (by decide) rfl rfl rfl (fun k1 => ?_)
  refine jT.getR 11 113 13 ty o rfl k1 (by decide) rfl rfl rfl (fun k2 => ?_)
  refine jT.call rfl rfl (Nat.le_of_ble_eq_true rfl) (Nat.le_of_ble_eq_true rfl) (jrv_of o k2 (by decide) rfl (by decide) rfl _) rfl (mj_Ok.up (Nat.add_le_add_left (by decide) D) (jc_39 (D := D) ty hg o k2)) rfl rfl (fun v3 h4 qv3 oh4 => ?_)
  obtain rfl : v3 = none := qv3
  refine mj_T.eq (pc2 := 10) (st2 := []) ?_ rfl rfl rfl rfl
  refine mj_T.pl rfl rfl rfl rfl ?_
  refine jT.getR 15 111 11 ty oh4 rfl kp0 (by decide) rfl rfl rfl (fun k5 => ?_)
  refine jT.getR 11 112 12 ty oh4 rfl k5 (by decide) rfl rfl rfl (fun k6 => ?_)
  refine mj_T.pl rfl rfl rfl rfl ?_
  refine jT.callp rfl rfl (Nat.le_of_ble_eq_true rfl) (Nat.le_of_ble_eq_true rfl) (jrv_of oh4 kp1 (by decide) rfl (by decide) rfl _) rfl (mj_Ok.up (Nat.add_le_add_left (by decide) D) (jc_37 (D := D) ty hg oh4 kp1)) rfl rfl (fun v7 qv7 => ?_)
  obtain ⟨a8, ka8, rfl⟩ := qv7
  refine mj_T.eq (pc2 := 21) (st2 := [.ref a8, .ref (R (R p0 0) 7)]) ?_ rfl rfl rfl rfl
  refine jT.call rfl rfl (Nat.le_of_ble_eq_true rfl) (Nat.le_of_ble_eq_true rfl) (jrv_of oh4 k6 (by decide) rfl (by decide) rfl _) rfl (mj_Ok.up (Nat.add_le_add_left (by decide) D) (jc_30 (D := D) ty hg oh4 k6 ka8)) rfl rfl (fun v9 h10 qv9 oh10 => ?_)
  obtain rfl : v9 = none := qv9
  refine mj_T.eq (pc2 := 24) (st2 := []) ?_ rfl rfl rfl rfl
  refine mj_T.pl rfl rfl rfl rfl ?_
  refine mj_T.pl (loc' := [some (.ref p0), some (.ref p1), some (.long (jl p2)), none, some (.int (jn 0))]) rfl rfl rfl rfl ?_
  have t27_13 : ∀ (k14 : Nat) (x11 : Int) (h12 : mj_H), (-2147483648 ≤ x11 ∧ x11 ≤ 2147483647) → (jO K L R g n tm h12) → (0 ≤ x11) → (2147483647 - x11 : Int).toNat = k14 → mj_T (D + 4) mj_m60 27 [some (.ref p0), some (.ref p1), some (.long (jl p2)), none, some (.int (jn x11))] [] h12 (jQ K L R g n tm [] jV0) := by
    refine jInd (fun k14 ih15 => ?_)
    intro x11 h12 rx11 oh12 ix11 hm16
    refine mj_T.pl rfl rfl rfl rfl ?_
    refine mj_T.pl rfl rfl rfl rfl ?_
    refine jT.getI 13 6 oh12 rfl kp1 (by decide) rfl rfl rfl (fun z17 (az17 : (-1) ≤ z17) (bz17 : z17 ≤ 30) fz17 => ?_)
    have rz17 : -2147483648 ≤ z17 ∧ z17 ≤ 2147483647 := ⟨by omega, by omega⟩
    refine jT.icmp rfl rx11 rz17 (fun c33 => ?_) (fun c33 => ?_)
    · have c33 := of_decide_eq_true c33
      refine mj_T.pl rfl rfl rfl rfl ?_
      refine jT.getR 15 111 11 ty oh12 rfl kp0 (by decide) rfl rfl rfl (fun k18 => ?_)
      refine jT.getR 11 113 13 ty oh12 rfl k18 (by decide) rfl rfl rfl (fun k19 => ?_)
      refine jT.call rfl rfl (Nat.le_of_ble_eq_true rfl) (Nat.le_of_ble_eq_true rfl) (jrv_of oh12 k19 (by decide) rfl (by decide) rfl _) rfl (mj_Ok.up (Nat.add_le_add_left (by decide) D) (jc_42 (D := D) ty hg oh12 k19)) rfl rfl (fun v20 h21 qv20 oh21 => ?_)
      obtain rfl : v20 = none := qv20
      refine mj_T.eq (pc2 := 112) (st2 := []) ?_ rfl rfl rfl rfl
      refine mj_T.pl rfl rfl rfl rfl ?_
      refine jT.getR 15 111 11 ty oh21 rfl kp0 (by decide) rfl rfl rfl (fun k22 => ?_)
      refine mj_T.pl rfl rfl rfl rfl ?_
      refine jT.call rfl rfl (Nat.le_of_ble_eq_true rfl) (Nat.le_of_ble_eq_true rfl) (jrv_of oh21 k22 (by decide) rfl (by decide) rfl _) rfl (mj_Ok.up (Nat.add_le_add_left (by decide) D) (jc_22 (D := D) ty hg oh21 k22 jp2)) rfl rfl (fun v23 h24 qv23 oh24 => ?_)
      obtain ⟨z25, jz25, rfl⟩ := qv23
      refine mj_T.eq (pc2 := 120) (st2 := [.long (jl z25)]) ?_ rfl rfl rfl rfl
      refine mj_T.pl rfl rfl rfl rfl ?_
      exact jT.ret oh24 rfl rfl rfl rfl
    · have c33 := of_decide_eq_false c33
      refine mj_T.pl rfl rfl rfl rfl ?_
      refine jT.getR 15 111 11 ty oh12 rfl kp0 (by decide) rfl rfl rfl (fun k26 => ?_)
      refine jT.getR 11 118 18 ty oh12 rfl k26 (by decide) rfl rfl rfl (fun k27 => ?_)
      iterate 2 refine mj_T.pl rfl rfl rfl rfl ?_
      refine jT.callp rfl rfl (Nat.le_of_ble_eq_true rfl) (Nat.le_of_ble_eq_true rfl) (jrv_of oh12 kp1 (by decide) rfl (by decide) rfl _) rfl (mj_Ok.up (Nat.add_le_add_left (by decide) D) (jc_36 (D := D) ty hg oh12 kp1 rx11)) rfl rfl (fun v28 qv28 => ?_)
      obtain ⟨a29, ka29, rfl⟩ := qv28
      refine mj_T.eq (pc2 := 49) (st2 := [.ref a29, .ref (R (R p0 0) 5)]) ?_ rfl rfl rfl rfl
      refine jT.call rfl rfl (Nat.le_of_ble_eq_true rfl) (Nat.le_of_ble_eq_true rfl) (jrv_of oh12 k27 (by decide) rfl (by decide) rfl _) rfl (mj_Ok.up (Nat.add_le_add_left (by decide) D) (jc_87 (D := D) ty hg oh12 k27 ka29)) rfl rfl (fun v30 h31 qv30 oh31 => ?_)
      obtain rfl : v30 = none := qv30
      refine mj_T.eq (pc2 := 52) (st2 := []) ?_ rfl rfl rfl rfl
      refine mj_T.pl rfl rfl rfl rfl ?_
      refine jT.getR 15 111 11 ty oh31 rfl kp0 (by decide) rfl rfl rfl (fun k32 => ?_)
      refine mj_T.pl rfl rfl rfl rfl ?_
      refine jT.getR 15 111 11 ty oh31 rfl kp0 (by decide) rfl rfl rfl (fun k33 => ?_)
      refine jT.getR 11 118 18 ty oh31 rfl k33 (by decide) rfl rfl rfl (fun k34 => ?_)
      refine mj_T.pl rfl rfl rfl rfl ?_
      refine jT.call rfl rfl (Nat.le_of_ble_eq_true rfl) (Nat.le_of_ble_eq_true rfl) (jrv_of oh31 k32 (by decide) rfl (by decide) rfl _) rfl (mj_Ok.up (Nat.add_le_add_left (by decide) D) (jc_24 (D := D) ty hg oh31 k32 k34 jp2)) rfl rfl (fun v35 h36 qv35 oh36 => ?_)
      obtain rfl : v35 = none := qv35
      refine mj_T.eq (pc2 := 67) (st2 := []) ?_ rfl rfl rfl rfl
      refine mj_T.pl rfl rfl rfl rfl ?_
      refine jT.getR 15 111 11 ty oh36 rfl kp0 (by decide) rfl rfl rfl (fun k37 => ?_)
      refine jT.getR 11 112 12 ty oh36 rfl k37 (by decide) rfl rfl rfl (fun k38 => ?_)
      refine mj_T.pl rfl rfl rfl rfl ?_
      refine jT.getR 15 111 11 ty oh36 rfl kp0 (by decide) rfl rfl rfl (fun k39 => ?_)
      refine jT.getR 11 118 18 ty oh36 rfl k39 (by decide) rfl rfl rfl (fun k40 => ?_)
      refine mj_T.pl rfl rfl rfl rfl ?_
      refine jT.getR 15 111 11 ty oh36 rfl kp0 (by decide) rfl rfl rfl (fun k41 => ?_)
      refine jT.getR 11 113 13 ty oh36 rfl k41 (by decide) rfl rfl rfl (fun k42 => ?_)
      refine mj_T.pl rfl rfl rfl rfl ?_
      refine jT.callp rfl rfl (Nat.le_of_ble_eq_true rfl) (Nat.le_of_ble_eq_true rfl) (jrv_of oh36 k42 (by decide) rfl (by decide) rfl _) rfl (mj_Ok.up (Nat.add_le_add_left (by decide) D) (jc_36 (D := D) ty hg oh36 k42 rx11)) rfl rfl (fun v43 qv43 => ?_)
      obtain ⟨a44, ka44, rfl⟩ := qv43
      refine mj_T.eq (pc2 := 93) (st2 := [.ref a44, .ref (R (R p0 0) 5), .ref (R (R p0 0) 7)]) ?_ rfl rfl rfl rfl
      refine jT.call rfl rfl (Nat.le_of_ble_eq_true rfl) (Nat.le_of_ble_eq_true rfl) (jrv_of oh36 k38 (by decide) rfl (by decide) rfl _) rfl (mj_Ok.up (Nat.add_le_add_left (by decide) D) (jc_31 (D := D) ty hg oh36 k38 k40 ka44)) rfl rfl (fun v45 h46 qv45 oh46 => ?_)
      obtain rfl : v45 = none := qv45
      refine mj_T.eq (pc2 := 96) (st2 := []) ?_ rfl rfl rfl rfl
      refine jT.iinc rfl rfl (fun z47 rz47 ez47 => ?_)
      replace ez47 := ez47 ⟨by omega, by omega⟩
      refine mj_T.eq (loc2 := [some (.ref p0), some (.ref p1), some (.long (jl p2)), none, some (.int (jn z47))]) ?_ rfl rfl rfl rfl
      refine mj_T.pl rfl rfl rfl rfl ?_
      exact ih15 ((2147483647 - z47 : Int).toNat) (by omega) z47 h46 rz47 oh46 (by omega) rfl
  exact t27_13 _ 0 h10 ⟨by decide, by decide⟩ oh10 (by omega) rfl
-- PolyRegisters$Roots.shareRows([J[J[J)Z
theorem jc_59 {D n : Nat} {tm : Int} {h g : mj_H} {K L : Nat → Nat} {R : Nat → Nat → Nat} {p0 : Nat} {p1 : Nat} {p2 : Nat} {p3 : Nat} (ty : jTY K L R) (hg : g.length ≤ n) (o : jO K L R g n tm h) (kp0 : K p0 = 15) (kp1 : K p1 = 2) (kp2 : K p2 = 2) (kp3 : K p3 = 2) : mj_Ok (D + 6) 59 [.ref p0, .ref p1, .ref p2, .ref p3] h (jQ K L R g n tm [] (jVi 0 1)) := by
  refine mj_Ok.of (M := mj_m59) (loc := [some (.ref p0), some (.ref p1), some (.ref p2), some (.ref p3), none, none, none, none, none, none]) rfl rfl rfl ?_
  refine mj_T.pl rfl rfl rfl rfl ?_
  refine jT.callp rfl rfl (Nat.le_of_ble_eq_true rfl) (Nat.le_of_ble_eq_true rfl) rfl rfl (mj_Ok.up (Nat.add_le_add_left (by decide) D) (jc_162 (D := D) ty hg o kp1)) rfl rfl (fun v1 qv1 => ?_)
  obtain ⟨z2, az2, bz2, rfl⟩ := qv1
  have rz2 : -2147483648 ≤ z2 ∧ z2 ≤ 2147483647 := ⟨by omega, by omega⟩
  refine mj_T.eq (pc2 := 4) (st2 := [.int (jn z2)]) ?_ rfl rfl rfl rfl
  refine mj_T.pl rfl rfl rfl rfl ?_
  refine jT.callp rfl rfl (Nat.le_of_ble_eq_true rfl) (Nat.le_of_ble_eq_true rfl) rfl rfl (mj_Ok.up (Nat.add_le_add_left (by decide) D) (jc_162 (D := D) ty hg o kp2)) rfl rfl (fun v3 qv3 => ?_)
  obtain ⟨z4, az4, bz4, rfl⟩ := qv3
  have rz4 : -2147483648 ≤ z4 ∧ z4 ≤ 2147483647 := ⟨by omega, by omega⟩
  refine mj_T.eq (pc2 := 8) (st2 := [.int (jn z4), .int (jn z2)]) ?_ rfl rfl rfl rfl
  have t16_6 : ∀ (a5 : Nat), (K a5 = 2) → mj_T (D + 5) mj_m59 16 [some (.ref p0), some (.ref p1), some (.ref p2), some (.ref p3), none, none, none, none, none, none] [.ref a5] h (jQ K L R g n tm [] (jVi 0 1)) := by
    intro a5 ka5
    refine mj_T.pl (loc' := [some (.ref p0), some (.ref p1), some (.ref p2), some (.ref p3), some (.ref a5), none, none, none, none, none]) rfl rfl rfl rfl ?_
    refine mj_T.pl rfl rfl rfl rfl ?_
    refine jT.callp rfl rfl (Nat.le_of_ble_eq_true rfl) (Nat.le_of_ble_eq_true rfl) rfl rfl (mj_Ok.up (Nat.add_le_add_left (by decide) D) (jc_162 (D := D) ty hg o kp1)) rfl rfl (fun v7 qv7 => ?_)
    obtain ⟨z8, az8, bz8, rfl⟩ := qv7
    have rz8 : -2147483648 ≤ z8 ∧ z8 ≤ 2147483647 := ⟨by omega, by omega⟩
    refine mj_T.eq (pc2 := 22) (st2 := [.int (jn z8)]) ?_ rfl rfl rfl rfl
    refine mj_T.pl rfl rfl rfl rfl ?_
    refine jT.callp rfl rfl (Nat.le_of_ble_eq_true rfl) (Nat.le_of_ble_eq_true rfl) rfl rfl (mj_Ok.up (Nat.add_le_add_left (by decide) D) (jc_162 (D := D) ty hg o kp2)) rfl rfl (fun v9 qv9 => ?_)
    obtain ⟨z10, az10, bz10, rfl⟩ := qv9
    have rz10 : -2147483648 ≤ z10 ∧ z10 ≤ 2147483647 := ⟨by omega, by omega⟩
    refine mj_T.eq (pc2 := 26) (st2 := [.int (jn z10), .int (jn z8)]) ?_ rfl rfl rfl rfl
    have t34_12 : ∀ (a11 : Nat), (K a11 = 2) → mj_T (D + 5) mj_m59 34 [some (.ref p0), some (.ref p1), some (.ref p2), some (.ref p3), some (.ref a5), none, none, none, none, none] [.ref a11] h (jQ K L R g n tm [] (jVi 0 1)) := by
      intro a11 ka11
      refine mj_T.pl (loc' := [some (.ref p0), some (.ref p1), some (.ref p2), some (.ref p3), some (.ref a5), some (.ref a11), none, none, none, none]) rfl rfl rfl rfl ?_
      refine mj_T.pl rfl rfl rfl rfl ?_
      refine jT.callp rfl rfl (Nat.le_of_ble_eq_true rfl) (Nat.le_of_ble_eq_true rfl) rfl rfl (mj_Ok.up (Nat.add_le_add_left (by decide) D) (jc_169 (D := D) ty hg o ka5)) rfl rfl (fun v13 qv13 => ?_)
      obtain ⟨z14, jz14, rfl⟩ := qv13
      refine mj_T.eq (pc2 := 41) (st2 := [.long (jl z14)]) ?_ rfl rfl rfl rfl
      refine mj_T.pl rfl rfl rfl rfl ?_
      refine jT.callp rfl rfl (Nat.le_of_ble_eq_true rfl) (Nat.le_of_ble_eq_true rfl) rfl rfl (mj_Ok.up (Nat.add_le_add_left (by decide) D) (jc_169 (D := D) ty hg o ka11)) rfl rfl (fun v15 qv15 => ?_)
      obtain ⟨z16, jz16, rfl⟩ := qv15
      refine mj_T.eq (pc2 := 46) (st2 := [.long (jl z16), .long (jl z14)]) ?_ rfl rfl rfl rfl
      refine jT.callp rfl rfl (Nat.le_of_ble_eq_true rfl) (Nat.le_of_ble_eq_true rfl) rfl rfl (mj_Ok.up (Nat.add_le_add_left (by decide) D) (jc_171 (D := D) ty hg o jz14 jz16)) rfl rfl (fun v17 qv17 => ?_)
      obtain ⟨z18, jz18, rfl⟩ := qv17
      refine mj_T.eq (pc2 := 49) (st2 := [.long (jl z18)]) ?_ rfl rfl rfl rfl
      refine mj_T.pl (loc' := [some (.ref p0), some (.ref p1), some (.ref p2), some (.ref p3), some (.ref a5), some (.ref a11), some (.long (jl z18)), none, none, none]) rfl rfl rfl rfl ?_
      refine mj_T.pl rfl rfl rfl rfl ?_
      refine jT.callp rfl rfl (Nat.le_of_ble_eq_true rfl) (Nat.le_of_ble_eq_true rfl) rfl rfl (mj_Ok.up (Nat.add_le_add_left (by decide) D) (jc_162 (D := D) ty hg o ka11)) rfl rfl (fun v19 qv19 => ?_)
      obtain ⟨z20, az20, bz20, rfl⟩ := qv19
      have rz20 : -2147483648 ≤ z20 ∧ z20 ≤ 2147483647 := ⟨by omega, by omega⟩
      refine mj_T.eq (pc2 := 56) (st2 := [.int (jn z20)]) ?_ rfl rfl rfl rfl
      refine jT.if0 rfl rz20 (fun c56 => ?_) (fun c56 => ?_)
      · have c56 := of_decide_eq_true c56
        refine mj_T.pl rfl rfl rfl rfl ?_
        refine jT.getR 15 116 16 ty o rfl kp0 (by decide) rfl rfl rfl (fun k21 => ?_)
        refine jT.getR 16 105 5 ty o rfl k21 (by decide) rfl rfl rfl (fun k22 => ?_)
        refine mj_T.pl rfl rfl rfl rfl ?_
        have l23 : 14 ≤ (L (R (R p0 1) 1) : Int) ∧ (L (R (R p0 1) 1) : Int) ≤ 14 := jlen 5 ty k22 (by decide) (by decide)
        refine jT.aald 5 13 ty o rfl k22 (by decide) (by decide) rfl ⟨by decide, by decide⟩ ⟨by omega, by omega⟩ (fun k24 => ?_)
        iterate 2 refine mj_T.pl rfl rfl rfl rfl ?_
        refine jT.callp rfl rfl (Nat.le_of_ble_eq_true rfl) (Nat.le_of_ble_eq_true rfl) rfl rfl (mj_Ok.up (Nat.add_le_add_left (by decide) D) (jc_170 (D := D) ty hg o ka5)) rfl rfl (fun v25 qv25 => ?_)
        obtain ⟨z26, jz26, rfl⟩ := qv25
        refine mj_T.eq (pc2 := 95) (st2 := [.long (jl z26), .ref a5, .ref (R (R (R p0 1) 1) (0 : Int).toNat)]) ?_ rfl rfl rfl rfl
        refine jT.call rfl rfl (Nat.le_of_ble_eq_true rfl) (Nat.le_of_ble_eq_true rfl) (jrv_of o k24 (by decide) rfl (by decide) rfl _) rfl (mj_Ok.up (Nat.add_le_add_left (by decide) D) (jc_40 (D := D) ty hg o k24 ka5 jz26)) rfl rfl (fun v27 h28 qv27 oh28 => ?_)
        obtain rfl : v27 = none := qv27
        refine mj_T.eq (pc2 := 98) (st2 := []) ?_ rfl rfl rfl rfl
        refine mj_T.pl rfl rfl rfl rfl ?_
        refine jT.getR 15 116 16 ty oh28 rfl kp0 (by decide) rfl rfl rfl (fun k29 => ?_)
        refine jT.getR 16 105 5 ty oh28 rfl k29 (by decide) rfl rfl rfl (fun k30 => ?_)
        refine mj_T.pl rfl rfl rfl rfl ?_
        refine jT.aald 5 13 ty oh28 rfl k30 (by decide) (by decide) rfl ⟨by decide, by decide⟩ ⟨by omega, by omega⟩ (fun k31 => ?_)
        iterate 2 refine mj_T.pl rfl rfl rfl rfl ?_
        refine jT.callp rfl rfl (Nat.le_of_ble_eq_true rfl) (Nat.le_of_ble_eq_true rfl) rfl rfl (mj_Ok.up (Nat.add_le_add_left (by decide) D) (jc_170 (D := D) ty hg oh28 ka11)) rfl rfl (fun v32 qv32 => ?_)
        obtain ⟨z33, jz33, rfl⟩ := qv32
        refine mj_T.eq (pc2 := 114) (st2 := [.long (jl z33), .ref a11, .ref (R (R (R p0 1) 1) (1 : Int).toNat)]) ?_ rfl rfl rfl rfl
        refine jT.call rfl rfl (Nat.le_of_ble_eq_true rfl) (Nat.le_of_ble_eq_true rfl) (jrv_of oh28 k31 (by decide) rfl (by decide) rfl _) rfl (mj_Ok.up (Nat.add_le_add_left (by decide) D) (jc_40 (D := D) ty hg oh28 k31 ka11 jz33)) rfl rfl (fun v34 h35 qv34 oh35 => ?_)
        obtain rfl : v34 = none := qv34
        refine mj_T.eq (pc2 := 117) (st2 := []) ?_ rfl rfl rfl rfl
        refine mj_T.pl rfl rfl rfl rfl ?_
        refine jT.getR 15 116 16 ty oh35 rfl kp0 (by decide) rfl rfl rfl (fun k36 => ?_)
        refine jT.getR 16 105 5 ty oh35 rfl k36 (by decide) rfl rfl rfl (fun k37 => ?_)
        refine mj_T.pl rfl rfl rfl rfl ?_
        refine jT.aald 5 13 ty oh35 rfl k37 (by decide) (by decide) rfl ⟨by decide, by decide⟩ ⟨by omega, by omega⟩ (fun k38 => ?_)
        refine jT.callp rfl rfl (Nat.le_of_ble_eq_true rfl) (Nat.le_of_ble_eq_true rfl) (jrv_of oh35 k38 (by decide) rfl (by decide) rfl _) rfl (mj_Ok.up (Nat.add_le_add_left (by decide) D) (jc_37 (D := D) ty hg oh35 k38)) rfl rfl (fun v39 qv39 => ?_)
        obtain ⟨a40, ka40, rfl⟩ := qv39
        refine mj_T.eq (pc2 := 129) (st2 := [.ref a40]) ?_ rfl rfl rfl rfl
        refine jT.callp rfl rfl (Nat.le_of_ble_eq_true rfl) (Nat.le_of_ble_eq_true rfl) (jrv_of oh35 ka40 (by decide) rfl (by decide) rfl _) rfl (mj_Ok.up (Nat.add_le_add_left (by decide) D) (jc_100 (D := D) ty hg oh35 ka40)) rfl rfl (fun v41 qv41 => ?_)
        obtain ⟨z42, jz42, rfl⟩ := qv41
        refine mj_T.eq (pc2 := 132) (st2 := [.long (jl z42)]) ?_ rfl rfl rfl rfl
        refine mj_T.pl rfl rfl rfl rfl ?_
        refine jT.getR 15 116 16 ty oh35 rfl kp0 (by decide) rfl rfl rfl (fun k43 => ?_)
        refine jT.getR 16 105 5 ty oh35 rfl k43 (by decide) rfl rfl rfl (fun k44 => ?_)
        refine mj_T.pl rfl rfl rfl rfl ?_
        refine jT.aald 5 13 ty oh35 rfl k44 (by decide) (by decide) rfl ⟨by decide, by decide⟩ ⟨by omega, by omega⟩ (fun k45 => ?_)
        refine jT.callp rfl rfl (Nat.le_of_ble_eq_true rfl) (Nat.le_of_ble_eq_true rfl) (jrv_of oh35 k45 (by decide) rfl (by decide) rfl _) rfl (mj_Ok.up (Nat.add_le_add_left (by decide) D) (jc_37 (D := D) ty hg oh35 k45)) rfl rfl (fun v46 qv46 => ?_)
        obtain ⟨a47, ka47, rfl⟩ := qv46
        refine mj_T.eq (pc2 := 144) (st2 := [.ref a47, .long (jl z42)]) ?_ rfl rfl rfl rfl
        refine jT.callp rfl rfl (Nat.le_of_ble_eq_true rfl) (Nat.le_of_ble_eq_true rfl) (jrv_of oh35 ka47 (by decide) rfl (by decide) rfl _) rfl (mj_Ok.up (Nat.add_le_add_left (by decide) D) (jc_100 (D := D) ty hg oh35 ka47)) rfl rfl (fun v48 qv48 => ?_)
        obtain ⟨z49, jz49, rfl⟩ := qv48
        refine mj_T.eq (pc2 := 147) (st2 := [.long (jl z49), .long (jl z42)]) ?_ rfl rfl rfl rfl
        refine jT.callp rfl rfl (Nat.le_of_ble_eq_true rfl) (Nat.le_of_ble_eq_true rfl) rfl rfl (mj_Ok.up (Nat.add_le_add_left (by decide) D) (jc_171 (D := D) ty hg oh35 jz42 jz49)) rfl rfl (fun v50 qv50 => ?_)
        obtain ⟨z51, jz51, rfl⟩ := qv50
        refine mj_T.eq (pc2 := 150) (st2 := [.long (jl z51)]) ?_ rfl rfl rfl rfl
        refine mj_T.pl (loc' := [some (.ref p0), some (.ref p1), some (.ref p2), some (.ref p3), some (.ref a5), some (.ref a11), some (.long (jl z18)), none, some (.long (jl z51)), none]) rfl rfl rfl rfl ?_
        refine mj_T.pl rfl rfl rfl rfl ?_
        refine jT.getR 15 116 16 ty oh35 rfl kp0 (by decide) rfl rfl rfl (fun k52 => ?_)
        refine jT.call rfl rfl (Nat.le_of_ble_eq_true rfl) (Nat.le_of_ble_eq_true rfl) (jrv_of oh35 k52 (by decide) rfl (by decide) rfl _) rfl (mj_Ok.up (Nat.add_le_add_left (by decide) D) (jc_70 (D := D) ty hg oh35 k52)) rfl rfl (fun v53 h54 qv53 oh54 => ?_)
        obtain rfl : v53 = none := qv53
        refine mj_T.eq (pc2 := 159) (st2 := []) ?_ rfl rfl rfl rfl
        iterate 2 refine mj_T.pl rfl rfl rfl rfl ?_
        refine jT.getR 15 116 16 ty oh54 rfl kp0 (by decide) rfl rfl rfl (fun k55 => ?_)
        refine jT.callp rfl rfl (Nat.le_of_ble_eq_true rfl) (Nat.le_of_ble_eq_true rfl) (jrv_of oh54 k55 (by decide) rfl (by decide) rfl _) rfl (mj_Ok.up (Nat.add_le_add_left (by decide) D) (jc_73 (D := D) ty hg oh54 k55)) rfl rfl (fun v56 qv56 => ?_)
        obtain ⟨a57, ka57, rfl⟩ := qv56
        refine mj_T.eq (pc2 := 167) (st2 := [.ref a57, .ref p0]) ?_ rfl rfl rfl rfl
        refine mj_T.pl rfl rfl rfl rfl ?_
        refine jT.call rfl rfl (Nat.le_of_ble_eq_true rfl) (Nat.le_of_ble_eq_true rfl) (jrv_of oh54 kp0 (by decide) rfl (by decide) rfl _) rfl (mj_Ok.up (Nat.add_le_add_left (by decide) D) (jc_60 (D := D) ty hg oh54 kp0 ka57 jz51)) rfl rfl (fun v58 h59 qv58 oh59 => ?_)
        obtain rfl : v58 = none := qv58
        refine mj_T.eq (pc2 := 172) (st2 := []) ?_ rfl rfl rfl rfl
        refine mj_T.pl rfl rfl rfl rfl ?_
        refine mj_T.pl (loc' := [some (.ref p0), some (.ref p1), some (.ref p2), some (.ref p3), some (.ref a5), some (.ref a11), some (.long (jl z18)), none, some (.int (jn 0)), none]) rfl rfl rfl rfl ?_
        have t175_62 : ∀ (k63 : Nat) (x60 : Int) (h61 : mj_H), (-2147483648 ≤ x60 ∧ x60 ≤ 2147483647) → (jO K L R g n tm h61) → (0 ≤ x60) → (2147483647 - x60 : Int).toNat = k63 → mj_T (D + 5) mj_m59 175 [some (.ref p0), some (.ref p1), some (.ref p2), some (.ref p3), some (.ref a5), some (.ref a11), some (.long (jl z18)), none, some (.int (jn x60)), none] [] h61 (jQ K L R g n tm [] (jVi 0 1)) := by
          refine jInd (fun k63 ih64 => ?_)
          intro x60 h61 rx60 oh61 ix60 hm65
          refine mj_T.pl rfl rfl rfl rfl ?_
          refine mj_T.pl rfl rfl rfl rfl ?_
          refine jT.getR 15 111 11 ty oh61 rfl kp0 (by decide) rfl rfl rfl (fun k66 => ?_)
          refine jT.getR 11 113 13 ty oh61 rfl k66 (by decide) rfl rfl rfl (fun k67 => ?_)
          refine jT.getI 13 6 oh61 rfl k67 (by decide) rfl rfl rfl (fun z68 (az68 : (-1) ≤ z68) (bz68 : z68 ≤ 30) fz68 => ?_)
          have rz68 : -2147483648 ≤ z68 ∧ z68 ≤ 2147483647 := ⟨by omega, by omega⟩
          refine jT.icmp rfl rx60 rz68 (fun c187 => ?_) (fun c187 => ?_)
          · have c187 := of_decide_eq_true c187
            refine mj_T.pl rfl rfl rfl rfl ?_
            refine jT.getR 15 111 11 ty oh61 rfl kp0 (by decide) rfl rfl rfl (fun k69 => ?_)
            refine jT.getR 11 113 13 ty oh61 rfl k69 (by decide) rfl rfl rfl (fun k70 => ?_)
            refine mj_T.pl rfl rfl rfl rfl ?_
            refine jT.call rfl rfl (Nat.le_of_ble_eq_true rfl) (Nat.le_of_ble_eq_true rfl) (jrv_of oh61 k70 (by decide) rfl (by decide) rfl _) rfl (mj_Ok.up (Nat.add_le_add_left (by decide) D) (jc_44 (D := D) ty hg oh61 k70 kp3)) rfl rfl (fun v71 h72 qv71 oh72 => ?_)
            obtain ⟨z73, az73, bz73, rfl⟩ := qv71
            have rz73 : -2147483648 ≤ z73 ∧ z73 ≤ 2147483647 := ⟨by omega, by omega⟩
            refine mj_T.eq (pc2 := 228) (st2 := [.int (jn z73)]) ?_ rfl rfl rfl rfl
            exact jT.retb oh72 rfl rfl (by omega) (by omega)
          · have c187 := of_decide_eq_false c187
            refine mj_T.pl rfl rfl rfl rfl ?_
            refine jT.getR 15 111 11 ty oh61 rfl kp0 (by decide) rfl rfl rfl (fun k74 => ?_)
            refine mj_T.pl rfl rfl rfl rfl ?_
            refine jT.getR 15 111 11 ty oh61 rfl kp0 (by decide) rfl rfl rfl (fun k75 => ?_)
            refine jT.getR 11 113 13 ty oh61 rfl k75 (by decide) rfl rfl rfl (fun k76 => ?_)
            refine mj_T.pl rfl rfl rfl rfl ?_
            refine jT.callp rfl rfl (Nat.le_of_ble_eq_true rfl) (Nat.le_of_ble_eq_true rfl) (jrv_of oh61 k76 (by decide) rfl (by decide) rfl _) rfl (mj_Ok.up (Nat.add_le_add_left (by decide) D) (jc_36 (D := D) ty hg oh61 k76 rx60)) rfl rfl (fun v77 qv77 => ?_)
            obtain ⟨a78, ka78, rfl⟩ := qv77
            refine mj_T.eq (pc2 := 206) (st2 := [.ref a78, .ref (R p0 0)]) ?_ rfl rfl rfl rfl
            refine mj_T.pl rfl rfl rfl rfl ?_
            refine jT.call rfl rfl (Nat.le_of_ble_eq_true rfl) (Nat.le_of_ble_eq_true rfl) (jrv_of oh61 k74 (by decide) rfl (by decide) rfl _) rfl (mj_Ok.up (Nat.add_le_add_left (by decide) D) (jc_24 (D := D) ty hg oh61 k74 ka78 jz18)) rfl rfl (fun v79 h80 qv79 oh80 => ?_)
            obtain rfl : v79 = none := qv79
            refine mj_T.eq (pc2 := 211) (st2 := []) ?_ rfl rfl rfl rfl
            refine jT.iinc rfl rfl (fun z81 rz81 ez81 => ?_)
            replace ez81 := ez81 ⟨by omega, by omega⟩
            refine mj_T.eq (loc2 := [some (.ref p0), some (.ref p1), some (.ref p2), some (.ref p3), some (.ref a5), some (.ref a11), some (.long (jl z18)), none, some (.int (jn z81)), none]) ?_ rfl rfl rfl rfl
            refine mj_T.pl rfl rfl rfl rfl ?_
            exact ih64 ((2147483647 - z81 : Int).toNat) (by omega) z81 h80 rz81 oh80 (by omega) rfl
        exact t175_62 _ 0 h59 ⟨by decide, by decide⟩ oh59 (by omega) rfl
      · have c56 := of_decide_eq_false c56
        refine mj_T.pl rfl rfl rfl rfl ?_
        refine jT.getR 15 111 11 ty o rfl kp0 (by decide) rfl rfl rfl (fun k82 => ?_)
        refine jT.getR 11 113 13 ty o rfl k82 (by decide) rfl rfl rfl (fun k83 => ?_)
        iterate 2 refine mj_T.pl rfl rfl rfl rfl ?_
        refine jT.callp rfl rfl (Nat.le_of_ble_eq_true rfl) (Nat.le_of_ble_eq_true rfl) rfl rfl (mj_Ok.up (Nat.add_le_add_left (by decide) D) (jc_170 (D := D) ty hg o ka5)) rfl rfl (fun v84 qv84 => ?_)
        obtain ⟨z85, jz85, rfl⟩ := qv84
        refine mj_T.eq (pc2 := 73) (st2 := [.long (jl z85), .ref a5, .ref (R (R p0 0) 0)]) ?_ rfl rfl rfl rfl
        refine jT.call rfl rfl (Nat.le_of_ble_eq_true rfl) (Nat.le_of_ble_eq_true rfl) (jrv_of o k83 (by decide) rfl (by decide) rfl _) rfl (mj_Ok.up (Nat.add_le_add_left (by decide) D) (jc_40 (D := D) ty hg o k83 ka5 jz85)) rfl rfl (fun v86 h87 qv86 oh87 => ?_)
        obtain rfl : v86 = none := qv86
        refine mj_T.eq (pc2 := 76) (st2 := []) ?_ rfl rfl rfl rfl
        iterate 2 refine mj_T.pl rfl rfl rfl rfl ?_
        refine mj_T.pl (loc' := [some (.ref p0), some (.ref p1), some (.ref p2), some (.ref p3), some (.ref a5), some (.ref a11), some (.long (jl z18)), none, some (.int (jn 0)), none]) rfl rfl rfl rfl ?_
        have t175_90 : ∀ (k91 : Nat) (x88 : Int) (h89 : mj_H), (-2147483648 ≤ x88 ∧ x88 ≤ 2147483647) → (jO K L R g n tm h89) → (0 ≤ x88) → (2147483647 - x88 : Int).toNat = k91 → mj_T (D + 5) mj_m59 175 [some (.ref p0), some (.ref p1), some (.ref p2), some (.ref p3), some (.ref a5), some (.ref a11), some (.long (jl z18)), none, some (.int (jn x88)), none] [] h89 (jQ K L R g n tm [] (jVi 0 1)) := by
          refine jInd (fun k91 ih92 => ?_)
          intro x88 h89 rx88 oh89 ix88 hm93
          refine mj_T.pl rfl rfl rfl rfl ?_
          refine mj_T.pl rfl rfl rfl rfl ?_
          refine jT.getR 15 111 11 ty oh89 rfl kp0 (by decide) rfl rfl rfl (fun k94 => ?_)
          refine jT.getR 11 113 13 ty oh89 rfl k94 (by decide) rfl rfl rfl (fun k95 => ?_)
          refine jT.getI 13 6 oh89 rfl k95 (by decide) rfl rfl rfl (fun z96 (az96 : (-1) ≤ z96) (bz96 : z96 ≤ 30) fz96 => ?_)
          have rz96 : -2147483648 ≤ z96 ∧ z96 ≤ 2147483647 := ⟨by omega, by omega⟩
          refine jT.icmp rfl rx88 rz96 (fun c187 => ?_) (fun c187 => ?_)
          · have c187 := of_decide_eq_true c187
            refine mj_T.pl rfl rfl rfl rfl ?_
            refine jT.getR 15 111 11 ty oh89 rfl kp0 (by decide) rfl rfl rfl (fun k97 => ?_)
            refine jT.getR 11 113 13 ty oh89 rfl k97 (by decide) rfl rfl rfl (fun k98 => ?_)
            refine mj_T.pl rfl rfl rfl rfl ?_
            refine jT.call rfl rfl (Nat.le_of_ble_eq_true rfl) (Nat.le_of_ble_eq_true rfl) (jrv_of oh89 k98 (by decide) rfl (by decide) rfl _) rfl (mj_Ok.up (Nat.add_le_add_left (by decide) D) (jc_44 (D := D) ty hg oh89 k98 kp3)) rfl rfl (fun v99 h100 qv99 oh100 => ?_)
            obtain ⟨z101, az101, bz101, rfl⟩ := qv99
            have rz101 : -2147483648 ≤ z101 ∧ z101 ≤ 2147483647 := ⟨by omega, by omega⟩
            refine mj_T.eq (pc2 := 228) (st2 := [.int (jn z101)]) ?_ rfl rfl rfl rfl
            exact jT.retb oh100 rfl rfl (by omega) (by omega)
          · have c187 := of_decide_eq_false c187
            refine mj_T.pl rfl rfl rfl rfl ?_
            refine jT.getR 15 111 11 ty oh89 rfl kp0 (by decide) rfl rfl rfl (fun k102 => ?_)
            refine mj_T.pl rfl rfl rfl rfl ?_
            refine jT.getR 15 111 11 ty oh89 rfl kp0 (by decide) rfl rfl rfl (fun k103 => ?_)
            refine jT.getR 11 113 13 ty oh89 rfl k103 (by decide) rfl rfl rfl (fun k104 => ?_)
            refine mj_T.pl rfl rfl rfl rfl ?_
            refine jT.callp rfl rfl (Nat.le_of_ble_eq_true rfl) (Nat.le_of_ble_eq_true rfl) (jrv_of oh89 k104 (by decide) rfl (by decide) rfl _) rfl (mj_Ok.up (Nat.add_le_add_left (by decide) D) (jc_36 (D := D) ty hg oh89 k104 rx88)) rfl rfl (fun v105 qv105 => ?_)
            obtain ⟨a106, ka106, rfl⟩ := qv105
            refine mj_T.eq (pc2 := 206) (st2 := [.ref a106, .ref (R p0 0)]) ?_ rfl rfl rfl rfl
            refine mj_T.pl rfl rfl rfl rfl ?_
            refine jT.call rfl rfl (Nat.le_of_ble_eq_true rfl) (Nat.le_of_ble_eq_true rfl) (jrv_of oh89 k102 (by decide) rfl (by decide) rfl _) rfl (mj_Ok.up (Nat.add_le_add_left (by decide) D) (jc_24 (D := D) ty hg oh89 k102 ka106 jz18)) rfl rfl (fun v107 h108 qv107 oh108 => ?_)
            obtain rfl : v107 = none := qv107
            refine mj_T.eq (pc2 := 211) (st2 := []) ?_ rfl rfl rfl rfl
            refine jT.iinc rfl rfl (fun z109 rz109 ez109 => ?_)
            replace ez109 := ez109 ⟨by omega, by omega⟩
            refine mj_T.eq (loc2 := [some (.ref p0), some (.ref p1), some (.ref p2), some (.ref p3), some (.ref a5), some (.ref a11), some (.long (jl z18)), none, some (.int (jn z109)), none]) ?_ rfl rfl rfl rfl
            refine mj_T.pl rfl rfl rfl rfl ?_
            exact ih92 ((2147483647 - z109 : Int).toNat) (by omega) z109 h108 rz109 oh108 (by omega) rfl
        exact t175_90 _ 0 h87 ⟨by decide, by decide⟩ oh87 (by omega) rfl
    refine jT.icmp rfl rz8 rz10 (fun c26 => ?_) (fun c26 => ?_)
    · have c26 := of_decide_eq_true c26
      refine mj_T.pl rfl rfl rfl rfl ?_
      exact t34_12 p1 kp1
    · have c26 := of_decide_eq_false c26
      iterate 2 refine mj_T.pl rfl rfl rfl rfl ?_
      exact t34_12 p2 kp2
  refine jT.icmp rfl rz2 rz4 (fun c8 => ?_) (fun c8 => ?_)
  · have c8 := of_decide_eq_true c8
    refine mj_T.pl rfl rfl rfl rfl ?_
    exact t16_6 p2 kp2
  · have c8 := of_decide_eq_false c8
    iterate 2 refine mj_T.pl rfl rfl rfl rfl ?_
    exact t16_6 p1 kp1
-- PolyRegisters$Roots.begin([J)V
theorem jc_61 {D n : Nat} {tm : Int} {h g : mj_H} {K L : Nat → Nat} {R : Nat → Nat → Nat} {p0 : Nat} {p1 : Nat} (ty : jTY K L R) (hg : g.length ≤ n) (o : jO K L R g n tm h) (kp0 : K p0 = 15) (kp1 : K p1 = 2) : mj_Ok (D + 6) 61 [.ref p0, .ref p1] h (jQ K L R g n tm [] jV0) := by
  refine mj_Ok.of (M := mj_m61) (loc := [some (.ref p0), some (.ref p1)]) rfl rfl rfl ?_
  refine mj_T.pl rfl rfl rfl rfl ?_
  refine jT.getR 15 116 16 ty o rfl kp0 (by decide) rfl rfl rfl (fun k1 => ?_)
  refine jT.getR 16 105 5 ty o rfl k1 (by decide) rfl rfl rfl (fun k2 => ?_)
  refine mj_T.pl rfl rfl rfl rfl ?_
  have l3 : 14 ≤ (L (R (R p0 1) 1) : Int) ∧ (L (R (R p0 1) 1) : Int) ≤ 14 := jlen 5 ty k2 (by decide) (by decide)
  refine jT.aald 5 13 ty o rfl k2 (by decide) (by decide) rfl ⟨by decide, by decide⟩ ⟨by omega, by omega⟩ (fun k4 => ?_)
  iterate 2 refine mj_T.pl rfl rfl rfl rfl ?_
  refine jT.callp rfl rfl (Nat.le_of_ble_eq_true rfl) (Nat.le_of_ble_eq_true rfl) rfl rfl (mj_Ok.up (Nat.add_le_add_left (by decide) D) (jc_170 (D := D) ty hg o kp1)) rfl rfl (fun v5 qv5 => ?_)
  obtain ⟨z6, jz6, rfl⟩ := qv5
  refine mj_T.eq (pc2 := 14) (st2 := [.long (jl z6), .ref p1, .ref (R (R (R p0 1) 1) (0 : Int).toNat)]) ?_ rfl rfl rfl rfl
  refine jT.call rfl rfl (Nat.le_of_ble_eq_true rfl) (Nat.le_of_ble_eq_true rfl) (jrv_of o k4 (by decide) rfl (by decide) rfl _) rfl (mj_Ok.up (Nat.add_le_add_left (by decide) D) (jc_40 (D := D) ty hg o k4 kp1 jz6)) rfl rfl (fun v7 h8 qv7 oh8 => ?_)
  obtain rfl : v7 = none := qv7
  refine mj_T.eq (pc2 := 17) (st2 := []) ?_ rfl rfl rfl rfl
  refine mj_T.pl rfl rfl rfl rfl ?_
  refine jT.getR 15 116 16 ty oh8 rfl kp0 (by decide) rfl rfl rfl (fun k9 => ?_)
  refine jT.call rfl rfl (Nat.le_of_ble_eq_true rfl) (Nat.le_of_ble_eq_true rfl) (jrv_of oh8 k9 (by decide) rfl (by decide) rfl _) rfl (mj_Ok.up (Nat.add_le_add_left (by decide) D) (jc_69 (D := D) ty hg oh8 k9)) rfl rfl (fun v10 h11 qv10 oh11 => ?_)
  obtain rfl : v10 = none := qv10
  refine mj_T.eq (pc2 := 24) (st2 := []) ?_ rfl rfl rfl rfl
  refine mj_T.pl rfl rfl rfl rfl ?_
  refine jT.getR 15 116 16 ty oh11 rfl kp0 (by decide) rfl rfl rfl (fun k12 => ?_)
  refine jT.call rfl rfl (Nat.le_of_ble_eq_true rfl) (Nat.le_of_ble_eq_true rfl) (jrv_of oh11 k12 (by decide) rfl (by decide) rfl _) rfl (mj_Ok.up (Nat.add_le_add_left (by decide) D) (jc_70 (D := D) ty hg oh11 k12)) rfl rfl (fun v13 h14 qv13 oh14 => ?_)
  obtain rfl : v13 = none := qv13
  refine mj_T.eq (pc2 := 31) (st2 := []) ?_ rfl rfl rfl rfl
  iterate 2 refine mj_T.pl rfl rfl rfl rfl ?_
  refine jT.getR 15 116 16 ty oh14 rfl kp0 (by decide) rfl rfl rfl (fun k15 => ?_)
  refine jT.callp rfl rfl (Nat.le_of_ble_eq_true rfl) (Nat.le_of_ble_eq_true rfl) (jrv_of oh14 k15 (by decide) rfl (by decide) rfl _) rfl (mj_Ok.up (Nat.add_le_add_left (by decide) D) (jc_73 (D := D) ty hg oh14 k15)) rfl rfl (fun v16 qv16 => ?_)
  obtain ⟨a17, ka17, rfl⟩ := qv16
  refine mj_T.eq (pc2 := 39) (st2 := [.ref a17, .ref p0]) ?_ rfl rfl rfl rfl
  refine jT.getI 13 6 oh14 rfl ka17 (by decide) rfl rfl rfl (fun z18 (az18 : (-1) ≤ z18) (bz18 : z18 ≤ 30) fz18 => ?_)
  have rz18 : -2147483648 ≤ z18 ∧ z18 ≤ 2147483647 := ⟨by omega, by omega⟩
  have t50_20 : ∀ (x19 : Int), (0 ≤ x19 ∧ x19 ≤ 1) → mj_T (D + 5) mj_m61 50 [some (.ref p0), some (.ref p1)] [.int (jn x19), .ref p0] h14 (jQ K L R g n tm [] jV0) := by
    intro x19 ax19
    have rx19 : -2147483648 ≤ x19 ∧ x19 ≤ 2147483647 := ⟨by omega, by omega⟩
    refine jT.putI 15 2 oh14 rfl kp0 (by decide) rfl rfl rfl (Or.inr ⟨rfl, rfl⟩) (by show 0 ≤ x19; omega) (by show x19 ≤ 1; omega) (fun h21 oh21 wh21 uh21 => ?_)
    refine mj_T.pl rfl rfl rfl rfl ?_
    refine jT.getK 15 2 oh21 rfl kp0 (by decide) rfl rfl rfl wh21 ?_
    refine jT.if0 rfl rx19 (fun c57 => ?_) (fun c57 => ?_)
    · have c57 := jne1 c57
      exact jT.ret oh21 rfl rfl rfl rfl
    · have c57 := jne2 c57
      iterate 2 refine mj_T.pl rfl rfl rfl rfl ?_
      refine jT.getR 15 116 16 ty oh21 rfl kp0 (by decide) rfl rfl rfl (fun k22 => ?_)
      refine jT.callp rfl rfl (Nat.le_of_ble_eq_true rfl) (Nat.le_of_ble_eq_true rfl) (jrv_of oh21 k22 (by decide) rfl (by decide) rfl _) rfl (mj_Ok.up (Nat.add_le_add_left (by decide) D) (jc_73 (D := D) ty hg oh21 k22)) rfl rfl (fun v23 qv23 => ?_)
      obtain ⟨a24, ka24, rfl⟩ := qv23
      refine mj_T.eq (pc2 := 68) (st2 := [.ref a24, .ref p0]) ?_ rfl rfl rfl rfl
      refine mj_T.pl rfl rfl rfl rfl ?_
      refine jT.getR 15 116 16 ty oh21 rfl kp0 (by decide) rfl rfl rfl (fun k25 => ?_)
      refine jT.getR 16 105 5 ty oh21 rfl k25 (by decide) rfl rfl rfl (fun k26 => ?_)
      refine mj_T.pl rfl rfl rfl rfl ?_
      refine jT.aald 5 13 ty oh21 rfl k26 (by decide) (by decide) rfl ⟨by decide, by decide⟩ ⟨by omega, by omega⟩ (fun k27 => ?_)
      refine jT.callp rfl rfl (Nat.le_of_ble_eq_true rfl) (Nat.le_of_ble_eq_true rfl) (jrv_of oh21 k27 (by decide) rfl (by decide) rfl _) rfl (mj_Ok.up (Nat.add_le_add_left (by decide) D) (jc_37 (D := D) ty hg oh21 k27)) rfl rfl (fun v28 qv28 => ?_)
      obtain ⟨a29, ka29, rfl⟩ := qv28
      refine mj_T.eq (pc2 := 80) (st2 := [.ref a29, .ref a24, .ref p0]) ?_ rfl rfl rfl rfl
      refine jT.callp rfl rfl (Nat.le_of_ble_eq_true rfl) (Nat.le_of_ble_eq_true rfl) (jrv_of oh21 ka29 (by decide) rfl (by decide) rfl _) rfl (mj_Ok.up (Nat.add_le_add_left (by decide) D) (jc_100 (D := D) ty hg oh21 ka29)) rfl rfl (fun v30 qv30 => ?_)
      obtain ⟨z31, jz31, rfl⟩ := qv30
      refine mj_T.eq (pc2 := 83) (st2 := [.long (jl z31), .ref a24, .ref p0]) ?_ rfl rfl rfl rfl
      refine jT.call rfl rfl (Nat.le_of_ble_eq_true rfl) (Nat.le_of_ble_eq_true rfl) (jrv_of oh21 kp0 (by decide) rfl (by decide) rfl _) rfl (mj_Ok.up (Nat.add_le_add_left (by decide) D) (jc_60 (D := D) ty hg oh21 kp0 ka24 jz31)) rfl rfl (fun v32 h33 qv32 oh33 => ?_)
      obtain rfl : v32 = none := qv32
      refine mj_T.eq (pc2 := 86) (st2 := []) ?_ rfl rfl rfl rfl
      refine mj_T.pl rfl rfl rfl rfl ?_
      refine jT.getR 15 111 11 ty oh33 rfl kp0 (by decide) rfl rfl rfl (fun k34 => ?_)
      refine jT.getR 11 113 13 ty oh33 rfl k34 (by decide) rfl rfl rfl (fun k35 => ?_)
      refine mj_T.pl rfl rfl rfl rfl ?_
      refine jT.getR 15 116 16 ty oh33 rfl kp0 (by decide) rfl rfl rfl (fun k36 => ?_)
      refine jT.getR 16 105 5 ty oh33 rfl k36 (by decide) rfl rfl rfl (fun k37 => ?_)
      refine mj_T.pl rfl rfl rfl rfl ?_
      refine jT.aald 5 13 ty oh33 rfl k37 (by decide) (by decide) rfl ⟨by decide, by decide⟩ ⟨by omega, by omega⟩ (fun k38 => ?_)
      refine jT.call rfl rfl (Nat.le_of_ble_eq_true rfl) (Nat.le_of_ble_eq_true rfl) (jrv_of oh33 k35 (by decide) rfl (by decide) rfl _) rfl (mj_Ok.up (Nat.add_le_add_left (by decide) D) (jc_41 (D := D) ty hg oh33 k35 k38)) rfl rfl (fun v39 h40 qv39 oh40 => ?_)
      obtain rfl : v39 = none := qv39
      refine mj_T.eq (pc2 := 105) (st2 := []) ?_ rfl rfl rfl rfl
      refine mj_T.pl rfl rfl rfl rfl ?_
      refine jT.getR 15 111 11 ty oh40 rfl kp0 (by decide) rfl rfl rfl (fun k41 => ?_)
      refine mj_T.pl rfl rfl rfl rfl ?_
      refine jT.getR 15 111 11 ty oh40 rfl kp0 (by decide) rfl rfl rfl (fun k42 => ?_)
      refine jT.getR 11 113 13 ty oh40 rfl k42 (by decide) rfl rfl rfl (fun k43 => ?_)
      refine mj_T.pl rfl rfl rfl rfl ?_
      refine jT.getR 15 111 11 ty oh40 rfl kp0 (by decide) rfl rfl rfl (fun k44 => ?_)
      refine jT.getR 11 113 13 ty oh40 rfl k44 (by decide) rfl rfl rfl (fun k45 => ?_)
      refine jT.call rfl rfl (Nat.le_of_ble_eq_true rfl) (Nat.le_of_ble_eq_true rfl) (jrv_of oh40 k41 (by decide) rfl (by decide) rfl _) rfl (mj_Ok.up (Nat.add_le_add_left (by decide) D) (jc_19 (D := D) ty hg oh40 k41 k43 k45)) rfl rfl (fun v46 h47 qv46 oh47 => ?_)
      obtain ⟨z48, az48, bz48, rfl⟩ := qv46
      have rz48 : -2147483648 ≤ z48 ∧ z48 ≤ 2147483647 := ⟨by omega, by omega⟩
      refine mj_T.eq (pc2 := 126) (st2 := [.int (jn z48)]) ?_ rfl rfl rfl rfl
      iterate 2 refine mj_T.pl rfl rfl rfl rfl ?_
      refine jT.getR 15 116 16 ty oh47 rfl kp0 (by decide) rfl rfl rfl (fun k49 => ?_)
      refine jT.getR 16 105 5 ty oh47 rfl k49 (by decide) rfl rfl rfl (fun k50 => ?_)
      refine mj_T.pl rfl rfl rfl rfl ?_
      refine jT.aald 5 13 ty oh47 rfl k50 (by decide) (by decide) rfl ⟨by decide, by decide⟩ ⟨by omega, by omega⟩ (fun k51 => ?_)
      refine mj_T.pl rfl rfl rfl rfl ?_
      refine jT.getR 15 111 11 ty oh47 rfl kp0 (by decide) rfl rfl rfl (fun k52 => ?_)
      refine jT.getR 11 113 13 ty oh47 rfl k52 (by decide) rfl rfl rfl (fun k53 => ?_)
      refine jT.call rfl rfl (Nat.le_of_ble_eq_true rfl) (Nat.le_of_ble_eq_true rfl) (jrv_of oh47 k51 (by decide) rfl (by decide) rfl _) rfl (mj_Ok.up (Nat.add_le_add_left (by decide) D) (jc_41 (D := D) ty hg oh47 k51 k53)) rfl rfl (fun v54 h55 qv54 oh55 => ?_)
      obtain rfl : v54 = none := qv54
      refine mj_T.eq (pc2 := 146) (st2 := []) ?_ rfl rfl rfl rfl
      exact jT.ret oh55 rfl rfl rfl rfl
  refine jT.if0 rfl rz18 (fun c42 => ?_) (fun c42 => ?_)
  · have c42 := of_decide_eq_true c42
    refine mj_T.pl rfl rfl rfl rfl ?_
    exact t50_20 0 ⟨by omega, by omega⟩
  · have c42 := of_decide_eq_false c42
    iterate 2 refine mj_T.pl rfl rfl rfl rfl ?_
    exact t50_20 1 ⟨by omega, by omega⟩
-- PolyRegisters$Roots.storeSimple([J)Z
theorem jc_62 {D n : Nat} {tm : Int} {h g : mj_H} {K L : Nat → Nat} {R : Nat → Nat → Nat} {p0 : Nat} {p1 : Nat} (ty : jTY K L R) (hg : g.length ≤ n) (o : jO K L R g n tm h) (kp0 : K p0 = 15) (kp1 : K p1 = 2) : mj_Ok (D + 3) 62 [.ref p0, .ref p1] h (jQ K L R g n tm [] (jVi 0 1)) := by
  refine mj_Ok.of (M := mj_m62) (loc := [some (.ref p0), some (.ref p1)]) rfl rfl rfl ?_
  refine mj_T.pl rfl rfl rfl rfl ?_
  refine jT.getR 15 116 16 ty o rfl kp0 (by decide) rfl rfl rfl (fun k1 => ?_)
  refine jT.getR 16 105 5 ty o rfl k1 (by decide) rfl rfl rfl (fun k2 => ?_)
  refine mj_T.pl rfl rfl rfl rfl ?_
  have l3 : 14 ≤ (L (R (R p0 1) 1) : Int) ∧ (L (R (R p0 1) 1) : Int) ≤ 14 := jlen 5 ty k2 (by decide) (by decide)
  refine jT.aald 5 13 ty o rfl k2 (by decide) (by decide) rfl ⟨by decide, by decide⟩ ⟨by omega, by omega⟩ (fun k4 => ?_)
  refine mj_T.pl rfl rfl rfl rfl ?_
  refine jT.call rfl rfl (Nat.le_of_ble_eq_true rfl) (Nat.le_of_ble_eq_true rfl) (jrv_of o k4 (by decide) rfl (by decide) rfl _) rfl (mj_Ok.up (Nat.add_le_add_left (by decide) D) (jc_44 (D := D) ty hg o k4 kp1)) rfl rfl (fun v5 h6 qv5 oh6 => ?_)
  obtain ⟨z7, az7, bz7, rfl⟩ := qv5
  have rz7 : -2147483648 ≤ z7 ∧ z7 ≤ 2147483647 := ⟨by omega, by omega⟩
  refine mj_T.eq (pc2 := 13) (st2 := [.int (jn z7)]) ?_ rfl rfl rfl rfl
  exact jT.retb oh6 rfl rfl (by omega) (by omega)
-- PolyRegisters$Roots.countReal()I
theorem jc_63 {D n : Nat} {tm : Int} {h g : mj_H} {K L : Nat → Nat} {R : Nat → Nat → Nat} {p0 : Nat} (ty : jTY K L R) (hg : g.length ≤ n) (o : jO K L R g n tm h) (kp0 : K p0 = 15) : mj_Ok (D + 6) 63 [.ref p0] h (jQ K L R g n tm [] (jVi (-2147483648) 2147483647)) := by
  refine mj_Ok.of (M := mj_m63) (loc := [some (.ref p0)]) rfl rfl rfl ?_
  refine mj_T.pl rfl rfl rfl rfl ?_
  refine jT.getI 15 2 o rfl kp0 (by decide) rfl rfl rfl (fun z1 (az1 : 0 ≤ z1) (bz1 : z1 ≤ 1) fz1 => ?_)
  have rz1 : -2147483648 ≤ z1 ∧ z1 ≤ 2147483647 := ⟨by omega, by omega⟩
  have t21_3 : ∀ (h2 : mj_H), (jO K L R g n tm h2) → mj_T (D + 5) mj_m63 21 [some (.ref p0)] [] h2 (jQ K L R g n tm [] (jVi (-2147483648) 2147483647)) := by
    intro h2 oh2
    iterate 2 refine mj_T.pl rfl rfl rfl rfl ?_
    refine jT.getR 15 116 16 ty oh2 rfl kp0 (by decide) rfl rfl rfl (fun k4 => ?_)
    refine mj_T.pl rfl rfl rfl rfl ?_
    refine jT.callp rfl rfl (Nat.le_of_ble_eq_true rfl) (Nat.le_of_ble_eq_true rfl) (jrv_of oh2 k4 (by decide) rfl (by decide) rfl _) rfl (mj_Ok.up (Nat.add_le_add_left (by decide) D) (jc_77 (D := D) ty hg oh2 k4 ⟨by decide, by decide⟩)) rfl rfl (fun v5 qv5 => ?_)
    obtain ⟨z6, az6, bz6, rfl⟩ := qv5
    have rz6 : -2147483648 ≤ z6 ∧ z6 ≤ 2147483647 := ⟨by omega, by omega⟩
    refine mj_T.eq (pc2 := 30) (st2 := [.int (jn z6), .ref p0]) ?_ rfl rfl rfl rfl
    refine jT.putI 15 0 oh2 rfl kp0 (by decide) rfl rfl rfl (Or.inl rfl) (by show (-2147483648) ≤ z6; omega) (by show z6 ≤ 2147483647; omega) (fun h7 oh7 wh7 uh7 => ?_)
    iterate 2 refine mj_T.pl rfl rfl rfl rfl ?_
    refine jT.getK 15 0 oh7 rfl kp0 (by decide) rfl rfl rfl wh7 ?_
    refine mj_T.pl rfl rfl rfl rfl ?_
    refine jT.getR 15 116 16 ty oh7 rfl kp0 (by decide) rfl rfl rfl (fun k8 => ?_)
    refine mj_T.pl rfl rfl rfl rfl ?_
    refine jT.callp rfl rfl (Nat.le_of_ble_eq_true rfl) (Nat.le_of_ble_eq_true rfl) (jrv_of oh7 k8 (by decide) rfl (by decide) rfl _) rfl (mj_Ok.up (Nat.add_le_add_left (by decide) D) (jc_77 (D := D) ty hg oh7 k8 ⟨by decide, by decide⟩)) rfl rfl (fun v9 qv9 => ?_)
    obtain ⟨z10, az10, bz10, rfl⟩ := qv9
    have rz10 : -2147483648 ≤ z10 ∧ z10 ≤ 2147483647 := ⟨by omega, by omega⟩
    refine mj_T.eq (pc2 := 46) (st2 := [.int (jn z10), .int (jn z6), .ref p0]) ?_ rfl rfl rfl rfl
    refine jT.isub rfl (fun z11 rz11 ez11 => ?_)
    clear ez11
    refine jT.putI 15 0 oh7 rfl kp0 (by decide) rfl rfl rfl (Or.inl rfl) (by show (-2147483648) ≤ z11; omega) (by show z11 ≤ 2147483647; omega) (fun h12 oh12 wh12 uh12 => ?_)
    refine mj_T.pl rfl rfl rfl rfl ?_
    refine jT.getK 15 0 oh12 rfl kp0 (by decide) rfl rfl rfl wh12 ?_
    exact jT.ret oh12 rfl rfl rfl ⟨z11, by omega, by omega, rfl⟩
  refine jT.if0 rfl rz1 (fun c4 => ?_) (fun c4 => ?_)
  · have c4 := jne1 c4
    exact t21_3 h o
  · have c4 := jne2 c4
    refine mj_T.pl rfl rfl rfl rfl ?_
    refine jT.getR 15 116 16 ty o rfl kp0 (by decide) rfl rfl rfl (fun k13 => ?_)
    refine jT.call rfl rfl (Nat.le_of_ble_eq_true rfl) (Nat.le_of_ble_eq_true rfl) (jrv_of o k13 (by decide) rfl (by decide) rfl _) rfl (mj_Ok.up (Nat.add_le_add_left (by decide) D) (jc_69 (D := D) ty hg o k13)) rfl rfl (fun v14 h15 qv14 oh15 => ?_)
    obtain rfl : v14 = none := qv14
    refine mj_T.eq (pc2 := 14) (st2 := []) ?_ rfl rfl rfl rfl
    refine mj_T.pl rfl rfl rfl rfl ?_
    refine jT.getR 15 116 16 ty oh15 rfl kp0 (by decide) rfl rfl rfl (fun k16 => ?_)
    refine jT.call rfl rfl (Nat.le_of_ble_eq_true rfl) (Nat.le_of_ble_eq_true rfl) (jrv_of oh15 k16 (by decide) rfl (by decide) rfl _) rfl (mj_Ok.up (Nat.add_le_add_left (by decide) D) (jc_70 (D := D) ty hg oh15 k16)) rfl rfl (fun v17 h18 qv17 oh18 => ?_)
    obtain rfl : v17 = none := qv17
    refine mj_T.eq (pc2 := 21) (st2 := []) ?_ rfl rfl rfl rfl
    exact t21_3 h18 oh18
-- PolyRegisters$Roots.stretch(J)V
theorem jc_64 {D n : Nat} {tm : Int} {h g : mj_H} {K L : Nat → Nat} {R : Nat → Nat → Nat} {p0 : Nat} {p1 : Int} (ty : jTY K L R) (hg : g.length ≤ n) (o : jO K L R g n tm h) (kp0 : K p0 = 15) (jp1 : jR p1) : mj_Ok (D + 4) 64 [.ref p0, .long (jl p1)] h (jQ K L R g n tm [] jV0) := by
  refine mj_Ok.of (M := mj_m64) (loc := [some (.ref p0), some (.long (jl p1)), none, none, none]) rfl rfl rfl ?_
  iterate 2 refine mj_T.pl rfl rfl rfl rfl ?_
  refine jT.putL 15 jp1 o rfl kp0 (by decide) rfl rfl (fun h1 oh1 uh1 => ?_)
  refine mj_T.pl rfl rfl rfl rfl ?_
  refine jT.getR 15 116 16 ty oh1 rfl kp0 (by decide) rfl rfl rfl (fun k2 => ?_)
  refine jT.getR 16 105 5 ty oh1 rfl k2 (by decide) rfl rfl rfl (fun k3 => ?_)
  refine mj_T.pl rfl rfl rfl rfl ?_
  have l4 : 14 ≤ (L (R (R p0 1) 1) : Int) ∧ (L (R (R p0 1) 1) : Int) ≤ 14 := jlen 5 ty k3 (by decide) (by decide)
  refine jT.aald 5 13 ty oh1 rfl k3 (by decide) (by decide) rfl ⟨by decide, by decide⟩ ⟨by omega, by omega⟩ (fun k5 => ?_)
  refine mj_T.pl (loc' := [some (.ref p0), some (.long (jl p1)), none, some (.ref (R (R (R p0 1) 1) (0 : Int).toNat)), none]) rfl rfl rfl rfl ?_
  refine mj_T.pl rfl rfl rfl rfl ?_
  refine jT.getR 15 118 18 ty oh1 rfl kp0 (by decide) rfl rfl rfl (fun k6 => ?_)
  refine jT.lc 0 rfl rfl ?_
  refine jT.call rfl rfl (Nat.le_of_ble_eq_true rfl) (Nat.le_of_ble_eq_true rfl) (jrv_of oh1 k6 (by decide) rfl (by decide) rfl _) rfl (mj_Ok.up (Nat.add_le_add_left (by decide) D) (jc_86 (D := D) ty hg oh1 k6 ⟨by decide, by decide⟩)) rfl rfl (fun v7 h8 qv7 oh8 => ?_)
  obtain rfl : v7 = none := qv7
  refine mj_T.eq (pc2 := 23) (st2 := []) ?_ rfl rfl rfl rfl
  refine mj_T.pl rfl rfl rfl rfl ?_
  refine mj_T.pl (loc' := [some (.ref p0), some (.long (jl p1)), none, some (.ref (R (R (R p0 1) 1) (0 : Int).toNat)), some (.int (jn 0))]) rfl rfl rfl rfl ?_
  have t26_11 : ∀ (k12 : Nat) (x9 : Int) (h10 : mj_H), (-2147483648 ≤ x9 ∧ x9 ≤ 2147483647) → (jO K L R g n tm h10) → (0 ≤ x9) → (2147483647 - x9 : Int).toNat = k12 → mj_T (D + 3) mj_m64 26 [some (.ref p0), some (.long (jl p1)), none, some (.ref (R (R (R p0 1) 1) (0 : Int).toNat)), some (.int (jn x9))] [] h10 (jQ K L R g n tm [] jV0) := by
    refine jInd (fun k12 ih13 => ?_)
    intro x9 h10 rx9 oh10 ix9 hm14
    refine mj_T.pl rfl rfl rfl rfl ?_
    refine mj_T.pl rfl rfl rfl rfl ?_
    refine jT.getI 13 6 oh10 rfl k5 (by decide) rfl rfl rfl (fun z15 (az15 : (-1) ≤ z15) (bz15 : z15 ≤ 30) fz15 => ?_)
    have rz15 : -2147483648 ≤ z15 ∧ z15 ≤ 2147483647 := ⟨by omega, by omega⟩
    refine jT.icmp rfl rx9 rz15 (fun c32 => ?_) (fun c32 => ?_)
    · have c32 := of_decide_eq_true c32
      refine mj_T.pl rfl rfl rfl rfl ?_
      refine jT.getR 15 111 11 ty oh10 rfl kp0 (by decide) rfl rfl rfl (fun k16 => ?_)
      refine mj_T.pl rfl rfl rfl rfl ?_
      refine jT.getR 15 118 18 ty oh10 rfl kp0 (by decide) rfl rfl rfl (fun k17 => ?_)
      refine mj_T.pl rfl rfl rfl rfl ?_
      refine jT.call rfl rfl (Nat.le_of_ble_eq_true rfl) (Nat.le_of_ble_eq_true rfl) (jrv_of oh10 k16 (by decide) rfl (by decide) rfl _) rfl (mj_Ok.up (Nat.add_le_add_left (by decide) D) (jc_24 (D := D) ty hg oh10 k16 k17 jp1)) rfl rfl (fun v18 h19 qv18 oh19 => ?_)
      obtain rfl : v18 = none := qv18
      refine mj_T.eq (pc2 := 75) (st2 := []) ?_ rfl rfl rfl rfl
      refine mj_T.pl rfl rfl rfl rfl ?_
      refine jT.getR 15 118 18 ty oh19 rfl kp0 (by decide) rfl rfl rfl (fun k20 => ?_)
      refine jT.lc 1 rfl rfl ?_
      refine jT.call rfl rfl (Nat.le_of_ble_eq_true rfl) (Nat.le_of_ble_eq_true rfl) (jrv_of oh19 k20 (by decide) rfl (by decide) rfl _) rfl (mj_Ok.up (Nat.add_le_add_left (by decide) D) (jc_86 (D := D) ty hg oh19 k20 ⟨by decide, by decide⟩)) rfl rfl (fun v21 h22 qv21 oh22 => ?_)
      obtain rfl : v21 = none := qv21
      refine mj_T.eq (pc2 := 83) (st2 := []) ?_ rfl rfl rfl rfl
      refine mj_T.pl rfl rfl rfl rfl ?_
      refine jT.getR 15 118 18 ty oh22 rfl kp0 (by decide) rfl rfl rfl (fun k23 => ?_)
      refine mj_T.pl rfl rfl rfl rfl ?_
      refine jT.callp rfl rfl (Nat.le_of_ble_eq_true rfl) (Nat.le_of_ble_eq_true rfl) (jrv_of oh22 k5 (by decide) rfl (by decide) rfl _) rfl (mj_Ok.up (Nat.add_le_add_left (by decide) D) (jc_37 (D := D) ty hg oh22 k5)) rfl rfl (fun v24 qv24 => ?_)
      obtain ⟨a25, ka25, rfl⟩ := qv24
      refine mj_T.eq (pc2 := 91) (st2 := [.ref a25, .ref (R p0 9)]) ?_ rfl rfl rfl rfl
      refine jT.call rfl rfl (Nat.le_of_ble_eq_true rfl) (Nat.le_of_ble_eq_true rfl) (jrv_of oh22 k23 (by decide) rfl (by decide) rfl _) rfl (mj_Ok.up (Nat.add_le_add_left (by decide) D) (jc_87 (D := D) ty hg oh22 k23 ka25)) rfl rfl (fun v26 h27 qv26 oh27 => ?_)
      obtain rfl : v26 = none := qv26
      refine mj_T.eq (pc2 := 94) (st2 := []) ?_ rfl rfl rfl rfl
      refine mj_T.pl rfl rfl rfl rfl ?_
      refine mj_T.pl (loc' := [some (.ref p0), some (.long (jl p1)), none, some (.ref (R (R (R p0 1) 1) (0 : Int).toNat)), some (.int (jn 0))]) rfl rfl rfl rfl ?_
      have t97_30 : ∀ (k31 : Nat) (x28 : Int) (h29 : mj_H), (-2147483648 ≤ x28 ∧ x28 ≤ 2147483647) → (jO K L R g n tm h29) → (0 ≤ x28) → (2147483647 - x28 : Int).toNat = k31 → mj_T (D + 3) mj_m64 97 [some (.ref p0), some (.long (jl p1)), none, some (.ref (R (R (R p0 1) 1) (0 : Int).toNat)), some (.int (jn x28))] [] h29 (jQ K L R g n tm [] jV0) := by
        refine jInd (fun k31 ih32 => ?_)
        intro x28 h29 rx28 oh29 ix28 hm33
        refine mj_T.pl rfl rfl rfl rfl ?_
        refine mj_T.pl rfl rfl rfl rfl ?_
        refine jT.icmp rfl rx28 ⟨by decide, by decide⟩ (fun c102 => ?_) (fun c102 => ?_)
        · have c102 := of_decide_eq_true c102
          refine mj_T.pl rfl rfl rfl rfl ?_
          refine jT.getR 15 116 16 ty oh29 rfl kp0 (by decide) rfl rfl rfl (fun k34 => ?_)
          refine mj_T.pl rfl rfl rfl rfl ?_
          refine jT.call rfl rfl (Nat.le_of_ble_eq_true rfl) (Nat.le_of_ble_eq_true rfl) (jrv_of oh29 k34 (by decide) rfl (by decide) rfl _) rfl (mj_Ok.up (Nat.add_le_add_left (by decide) D) (jc_74 (D := D) ty hg oh29 k34 jp1)) rfl rfl (fun v35 h36 qv35 oh36 => ?_)
          obtain rfl : v35 = none := qv35
          refine mj_T.eq (pc2 := 179) (st2 := []) ?_ rfl rfl rfl rfl
          exact jT.ret oh36 rfl rfl rfl rfl
        · have c102 := of_decide_eq_false c102
          refine mj_T.pl rfl rfl rfl rfl ?_
          refine jT.getR 15 118 18 ty oh29 rfl kp0 (by decide) rfl rfl rfl (fun k37 => ?_)
          refine mj_T.pl rfl rfl rfl rfl ?_
          refine jT.getR 15 118 18 ty oh29 rfl kp0 (by decide) rfl rfl rfl (fun k38 => ?_)
          refine jT.call rfl rfl (Nat.le_of_ble_eq_true rfl) (Nat.le_of_ble_eq_true rfl) (jrv_of oh29 k37 (by decide) rfl (by decide) rfl _) rfl (mj_Ok.up (Nat.add_le_add_left (by decide) D) (jc_87 (D := D) ty hg oh29 k37 k38)) rfl rfl (fun v39 h40 qv39 oh40 => ?_)
          obtain rfl : v39 = none := qv39
          refine mj_T.eq (pc2 := 116) (st2 := []) ?_ rfl rfl rfl rfl
          refine mj_T.pl rfl rfl rfl rfl ?_
          refine jT.getR 15 118 18 ty oh40 rfl kp0 (by decide) rfl rfl rfl (fun k41 => ?_)
          refine mj_T.pl rfl rfl rfl rfl ?_
          refine jT.getR 15 118 18 ty oh40 rfl kp0 (by decide) rfl rfl rfl (fun k42 => ?_)
          refine mj_T.pl rfl rfl rfl rfl ?_
          refine jT.call rfl rfl (Nat.le_of_ble_eq_true rfl) (Nat.le_of_ble_eq_true rfl) (jrv_of oh40 k41 (by decide) rfl (by decide) rfl _) rfl (mj_Ok.up (Nat.add_le_add_left (by decide) D) (jc_91 (D := D) ty hg oh40 k41 k42 ⟨by decide, by decide⟩)) rfl rfl (fun v43 h44 qv43 oh44 => ?_)
          obtain rfl : v43 = none := qv43
          refine mj_T.eq (pc2 := 128) (st2 := []) ?_ rfl rfl rfl rfl
          refine mj_T.pl rfl rfl rfl rfl ?_
          refine jT.getR 15 118 18 ty oh44 rfl kp0 (by decide) rfl rfl rfl (fun k45 => ?_)
          refine jT.getI 18 0 oh44 rfl k45 (by decide) rfl rfl rfl (fun z46 (az46 : (-2147483648) ≤ z46) (bz46 : z46 ≤ 2147483647) fz46 => ?_)
          have rz46 : -2147483648 ≤ z46 ∧ z46 ≤ 2147483647 := ⟨by omega, by omega⟩
          refine jT.if0 rfl rz46 (fun c135 => ?_) (fun c135 => ?_)
          · have c135 := of_decide_eq_true c135
            refine mj_T.pl rfl rfl rfl rfl ?_
            refine jT.getR 15 118 18 ty oh44 rfl kp0 (by decide) rfl rfl rfl (fun k47 => ?_)
            refine mj_T.pl rfl rfl rfl rfl ?_
            refine jT.getR 15 118 18 ty oh44 rfl kp0 (by decide) rfl rfl rfl (fun k48 => ?_)
            refine mj_T.pl rfl rfl rfl rfl ?_
            refine jT.call rfl rfl (Nat.le_of_ble_eq_true rfl) (Nat.le_of_ble_eq_true rfl) (jrv_of oh44 k47 (by decide) rfl (by decide) rfl _) rfl (mj_Ok.up (Nat.add_le_add_left (by decide) D) (jc_91 (D := D) ty hg oh44 k47 k48 ⟨by decide, by decide⟩)) rfl rfl (fun v49 h50 qv49 oh50 => ?_)
            obtain rfl : v49 = none := qv49
            refine mj_T.eq (pc2 := 153) (st2 := []) ?_ rfl rfl rfl rfl
            refine mj_T.pl rfl rfl rfl rfl ?_
            refine jT.getR 15 118 18 ty oh50 rfl kp0 (by decide) rfl rfl rfl (fun k51 => ?_)
            refine mj_T.pl rfl rfl rfl rfl ?_
            refine jT.getR 15 118 18 ty oh50 rfl kp0 (by decide) rfl rfl rfl (fun k52 => ?_)
            refine mj_T.pl rfl rfl rfl rfl ?_
            refine jT.call rfl rfl (Nat.le_of_ble_eq_true rfl) (Nat.le_of_ble_eq_true rfl) (jrv_of oh50 k51 (by decide) rfl (by decide) rfl _) rfl (mj_Ok.up (Nat.add_le_add_left (by decide) D) (jc_91 (D := D) ty hg oh50 k51 k52 ⟨by decide, by decide⟩)) rfl rfl (fun v53 h54 qv53 oh54 => ?_)
            obtain rfl : v53 = none := qv53
            refine mj_T.eq (pc2 := 165) (st2 := []) ?_ rfl rfl rfl rfl
            refine jT.iinc rfl rfl (fun z55 rz55 ez55 => ?_)
            replace ez55 := ez55 ⟨by omega, by omega⟩
            refine mj_T.eq (loc2 := [some (.ref p0), some (.long (jl p1)), none, some (.ref (R (R (R p0 1) 1) (0 : Int).toNat)), some (.int (jn z55))]) ?_ rfl rfl rfl rfl
            refine mj_T.pl rfl rfl rfl rfl ?_
            exact ih32 ((2147483647 - z55 : Int).toNat) (by omega) z55 h54 rz55 oh54 (by omega) rfl
          · have c135 := of_decide_eq_false c135
            iterate 2 refine mj_T.pl rfl rfl rfl rfl ?_
            refine jT.getR 15 116 16 ty oh44 rfl kp0 (by decide) rfl rfl rfl (fun k56 => ?_)
            refine mj_T.pl rfl rfl rfl rfl ?_
            refine jT.call rfl rfl (Nat.le_of_ble_eq_true rfl) (Nat.le_of_ble_eq_true rfl) (jrv_of oh44 k56 (by decide) rfl (by decide) rfl _) rfl (mj_Ok.up (Nat.add_le_add_left (by decide) D) (jc_74 (D := D) ty hg oh44 k56 jp1)) rfl rfl (fun v57 h58 qv57 oh58 => ?_)
            obtain rfl : v57 = none := qv57
            refine mj_T.eq (pc2 := 179) (st2 := []) ?_ rfl rfl rfl rfl
            exact jT.ret oh58 rfl rfl rfl rfl
      exact t97_30 _ 0 h27 ⟨by decide, by decide⟩ oh27 (by omega) rfl
    · have c32 := of_decide_eq_false c32
      refine mj_T.pl rfl rfl rfl rfl ?_
      refine jT.getR 15 118 18 ty oh10 rfl kp0 (by decide) rfl rfl rfl (fun k59 => ?_)
      iterate 2 refine mj_T.pl rfl rfl rfl rfl ?_
      refine jT.callp rfl rfl (Nat.le_of_ble_eq_true rfl) (Nat.le_of_ble_eq_true rfl) (jrv_of oh10 k5 (by decide) rfl (by decide) rfl _) rfl (mj_Ok.up (Nat.add_le_add_left (by decide) D) (jc_36 (D := D) ty hg oh10 k5 rx9)) rfl rfl (fun v60 qv60 => ?_)
      obtain ⟨a61, ka61, rfl⟩ := qv60
      refine mj_T.eq (pc2 := 45) (st2 := [.ref a61, .ref (R p0 10)]) ?_ rfl rfl rfl rfl
      iterate 2 refine mj_T.pl rfl rfl rfl rfl ?_
      refine jT.callp rfl rfl (Nat.le_of_ble_eq_true rfl) (Nat.le_of_ble_eq_true rfl) (jrv_of oh10 k5 (by decide) rfl (by decide) rfl _) rfl (mj_Ok.up (Nat.add_le_add_left (by decide) D) (jc_36 (D := D) ty hg oh10 k5 rx9)) rfl rfl (fun v62 qv62 => ?_)
      obtain ⟨a63, ka63, rfl⟩ := qv62
      refine mj_T.eq (pc2 := 51) (st2 := [.ref a63, .ref a61, .ref (R p0 10)]) ?_ rfl rfl rfl rfl
      refine jT.getI 18 0 oh10 rfl ka63 (by decide) rfl rfl rfl (fun z64 (az64 : (-2147483648) ≤ z64) (bz64 : z64 ≤ 2147483647) fz64 => ?_)
      have rz64 : -2147483648 ≤ z64 ∧ z64 ≤ 2147483647 := ⟨by omega, by omega⟩
      refine jT.call rfl rfl (Nat.le_of_ble_eq_true rfl) (Nat.le_of_ble_eq_true rfl) (jrv_of oh10 k59 (by decide) rfl (by decide) rfl _) rfl (mj_Ok.up (Nat.add_le_add_left (by decide) D) (jc_91 (D := D) ty hg oh10 k59 ka61 rz64)) rfl rfl (fun v65 h66 qv65 oh66 => ?_)
      obtain rfl : v65 = none := qv65
      refine mj_T.eq (pc2 := 57) (st2 := []) ?_ rfl rfl rfl rfl
      refine jT.iinc rfl rfl (fun z67 rz67 ez67 => ?_)
      replace ez67 := ez67 ⟨by omega, by omega⟩
      refine mj_T.eq (loc2 := [some (.ref p0), some (.long (jl p1)), none, some (.ref (R (R (R p0 1) 1) (0 : Int).toNat)), some (.int (jn z67))]) ?_ rfl rfl rfl rfl
      refine mj_T.pl rfl rfl rfl rfl ?_
      exact ih13 ((2147483647 - z67 : Int).toNat) (by omega) z67 h66 rz67 oh66 (by omega) rfl
  exact t26_11 _ 0 h8 ⟨by decide, by decide⟩ oh8 (by omega) rfl
-- PolyRegisters$Roots.locate(I)V
theorem jc_65 {D n : Nat} {tm : Int} {h g : mj_H} {K L : Nat → Nat} {R : Nat → Nat → Nat} {p0 : Nat} {p1 : Int} (ty : jTY K L R) (hg : g.length ≤ n) (o : jO K L R g n tm h) (kp0 : K p0 = 15) (rp1 : -2147483648 ≤ p1 ∧ p1 ≤ 2147483647) : mj_Ok (D + 5) 65 [.ref p0, .int (jn p1)] h (jQ K L R g n tm [] jV0) := by
  refine mj_Ok.of (M := mj_m65) (loc := [some (.ref p0), some (.int (jn p1)), none, none, none, none, none, none]) rfl rfl rfl ?_
  refine mj_T.pl rfl rfl rfl rfl ?_
  refine jT.getR 15 116 16 ty o rfl kp0 (by decide) rfl rfl rfl (fun k1 => ?_)
  refine jT.getR 16 105 5 ty o rfl k1 (by decide) rfl rfl rfl (fun k2 => ?_)
  refine mj_T.pl rfl rfl rfl rfl ?_
  have l3 : 14 ≤ (L (R (R p0 1) 1) : Int) ∧ (L (R (R p0 1) 1) : Int) ≤ 14 := jlen 5 ty k2 (by decide) (by decide)
  refine jT.aald 5 13 ty o rfl k2 (by decide) (by decide) rfl ⟨by decide, by decide⟩ ⟨by omega, by omega⟩ (fun k4 => ?_)
  refine mj_T.pl (loc' := [some (.ref p0), some (.int (jn p1)), some (.ref (R (R (R p0 1) 1) (0 : Int).toNat)), none, none, none, none, none]) rfl rfl rfl rfl ?_
  refine mj_T.pl rfl rfl rfl rfl ?_
  refine mj_T.pl (loc' := [some (.ref p0), some (.int (jn p1)), some (.ref (R (R (R p0 1) 1) (0 : Int).toNat)), some (.int (jn 0)), none, none, none, none]) rfl rfl rfl rfl ?_
  refine mj_T.pl rfl rfl rfl rfl ?_
  refine jT.getI 15 0 o rfl kp0 (by decide) rfl rfl rfl (fun z5 (az5 : (-2147483648) ≤ z5) (bz5 : z5 ≤ 2147483647) fz5 => ?_)
  have rz5 : -2147483648 ≤ z5 ∧ z5 ≤ 2147483647 := ⟨by omega, by omega⟩
  refine mj_T.pl (loc' := [some (.ref p0), some (.int (jn p1)), some (.ref (R (R (R p0 1) 1) (0 : Int).toNat)), some (.int (jn 0)), some (.int (jn z5)), none, none, none]) rfl rfl rfl rfl ?_
  refine mj_T.pl rfl rfl rfl rfl ?_
  refine jT.getK 15 0 o rfl kp0 (by decide) rfl rfl rfl fz5.symm ?_
  refine mj_T.pl rfl rfl rfl rfl ?_
  refine jT.isub rfl (fun z6 rz6 ez6 => ?_)
  clear ez6
  refine mj_T.pl rfl rfl rfl rfl ?_
  refine jT.irem rfl ⟨by decide, by decide⟩ (by decide) (fun z7 rz7 => ?_)
  have t34_9 : ∀ (x8 : Int), (-2147483648 ≤ x8 ∧ x8 ≤ 2147483647) → mj_T (D + 4) mj_m65 34 [some (.ref p0), some (.int (jn p1)), some (.ref (R (R (R p0 1) 1) (0 : Int).toNat)), some (.int (jn 0)), some (.int (jn z5)), none, none, none] [.int (jn x8)] h (jQ K L R g n tm [] jV0) := by
    intro x8 rx8
    refine mj_T.pl (loc' := [some (.ref p0), some (.int (jn p1)), some (.ref (R (R (R p0 1) 1) (0 : Int).toNat)), some (.int (jn 0)), some (.int (jn z5)), some (.int (jn x8)), none, none]) rfl rfl rfl rfl ?_
    refine mj_T.pl rfl rfl rfl rfl ?_
    refine jT.getR 15 118 18 ty o rfl kp0 (by decide) rfl rfl rfl (fun k10 => ?_)
    refine mj_T.pl rfl rfl rfl rfl ?_
    refine jT.getR 15 118 18 ty o rfl kp0 (by decide) rfl rfl rfl (fun k11 => ?_)
    refine jT.call rfl rfl (Nat.le_of_ble_eq_true rfl) (Nat.le_of_ble_eq_true rfl) (jrv_of o k10 (by decide) rfl (by decide) rfl _) rfl (mj_Ok.up (Nat.add_le_add_left (by decide) D) (jc_87 (D := D) ty hg o k10 k11)) rfl rfl (fun v12 h13 qv12 oh13 => ?_)
    obtain rfl : v12 = none := qv12
    refine mj_T.eq (pc2 := 47) (st2 := []) ?_ rfl rfl rfl rfl
    refine mj_T.pl rfl rfl rfl rfl ?_
    refine jT.getR 15 118 18 ty oh13 rfl kp0 (by decide) rfl rfl rfl (fun k14 => ?_)
    refine mj_T.pl rfl rfl rfl rfl ?_
    refine jT.putI 18 0 oh13 rfl k14 (by decide) rfl rfl rfl (Or.inl rfl) (by show (-2147483648) ≤ (-1); omega) (by show (-1) ≤ 2147483647; omega) (fun h15 oh15 wh15 uh15 => ?_)
    refine mj_T.pl rfl rfl rfl rfl ?_
    refine jT.getR 15 118 18 ty oh15 rfl kp0 (by decide) rfl rfl rfl (fun k16 => ?_)
    refine mj_T.pl rfl rfl rfl rfl ?_
    refine jT.getR 15 118 18 ty oh15 rfl kp0 (by decide) rfl rfl rfl (fun k17 => ?_)
    refine jT.call rfl rfl (Nat.le_of_ble_eq_true rfl) (Nat.le_of_ble_eq_true rfl) (jrv_of oh15 k16 (by decide) rfl (by decide) rfl _) rfl (mj_Ok.up (Nat.add_le_add_left (by decide) D) (jc_87 (D := D) ty hg oh15 k16 k17)) rfl rfl (fun v18 h19 qv18 oh19 => ?_)
    obtain rfl : v18 = none := qv18
    refine mj_T.eq (pc2 := 66) (st2 := []) ?_ rfl rfl rfl rfl
    refine mj_T.pl rfl rfl rfl rfl ?_
    refine mj_T.pl (loc' := [some (.ref p0), some (.int (jn p1)), some (.ref (R (R (R p0 1) 1) (0 : Int).toNat)), some (.int (jn 0)), some (.int (jn z5)), some (.int (jn x8)), some (.int (jn 0)), none]) rfl rfl rfl rfl ?_
    have t69_25 : ∀ (k26 : Nat) (x20 : Int) (x21 : Int) (x22 : Int) (w23 : Option Value) (h24 : mj_H), (-2147483648 ≤ x20 ∧ x20 ≤ 2147483647) → (-2147483648 ≤ x21 ∧ x21 ≤ 2147483647) → (-2147483648 ≤ x22 ∧ x22 ≤ 2147483647) → (jO K L R g n tm h24) → (0 ≤ x22) → (2147483647 - x22 : Int).toNat = k26 → mj_T (D + 4) mj_m65 69 [some (.ref p0), some (.int (jn p1)), some (.ref (R (R (R p0 1) 1) (0 : Int).toNat)), some (.int (jn x20)), some (.int (jn x21)), some (.int (jn x8)), some (.int (jn x22)), w23] [] h24 (jQ K L R g n tm [] jV0) := by
      refine jInd (fun k26 ih27 => ?_)
      intro x20 x21 x22 w23 h24 rx20 rx21 rx22 oh24 ix22 hm28
      refine mj_T.pl rfl rfl rfl rfl ?_
      refine mj_T.pl rfl rfl rfl rfl ?_
      have t210_29 : mj_T (D + 4) mj_m65 210 [some (.ref p0), some (.int (jn p1)), some (.ref (R (R (R p0 1) 1) (0 : Int).toNat)), some (.int (jn x20)), some (.int (jn x21)), some (.int (jn x8)), some (.int (jn x22)), w23] [] h24 (jQ K L R g n tm [] jV0) := by
        refine mj_T.pl rfl rfl rfl rfl ?_
        refine jT.getR 15 118 18 ty oh24 rfl kp0 (by decide) rfl rfl rfl (fun k30 => ?_)
        refine mj_T.pl rfl rfl rfl rfl ?_
        refine jT.getR 15 118 18 ty oh24 rfl kp0 (by decide) rfl rfl rfl (fun k31 => ?_)
        refine jT.call rfl rfl (Nat.le_of_ble_eq_true rfl) (Nat.le_of_ble_eq_true rfl) (jrv_of oh24 k30 (by decide) rfl (by decide) rfl _) rfl (mj_Ok.up (Nat.add_le_add_left (by decide) D) (jc_87 (D := D) ty hg oh24 k30 k31)) rfl rfl (fun v32 h33 qv32 oh33 => ?_)
        obtain rfl : v32 = none := qv32
        refine mj_T.eq (pc2 := 221) (st2 := []) ?_ rfl rfl rfl rfl
        refine mj_T.pl rfl rfl rfl rfl ?_
        refine jT.getR 15 118 18 ty oh33 rfl kp0 (by decide) rfl rfl rfl (fun k34 => ?_)
        refine mj_T.pl rfl rfl rfl rfl ?_
        refine jT.getR 15 118 18 ty oh33 rfl kp0 (by decide) rfl rfl rfl (fun k35 => ?_)
        refine mj_T.pl rfl rfl rfl rfl ?_
        refine jT.call rfl rfl (Nat.le_of_ble_eq_true rfl) (Nat.le_of_ble_eq_true rfl) (jrv_of oh33 k34 (by decide) rfl (by decide) rfl _) rfl (mj_Ok.up (Nat.add_le_add_left (by decide) D) (jc_91 (D := D) ty hg oh33 k34 k35 ⟨by decide, by decide⟩)) rfl rfl (fun v36 h37 qv36 oh37 => ?_)
        obtain rfl : v36 = none := qv36
        refine mj_T.eq (pc2 := 233) (st2 := []) ?_ rfl rfl rfl rfl
        iterate 4 refine mj_T.pl rfl rfl rfl rfl ?_
        refine jT.iadd rfl (fun z38 rz38 ez38 => ?_)
        clear ez38
        have t262_41 : ∀ (x39 : Int) (h40 : mj_H), (0 ≤ x39 ∧ x39 ≤ 1) → (jO K L R g n tm h40) → mj_T (D + 4) mj_m65 262 [some (.ref p0), some (.int (jn p1)), some (.ref (R (R (R p0 1) 1) (0 : Int).toNat)), some (.int (jn x20)), some (.int (jn x21)), some (.int (jn x8)), some (.int (jn x22)), w23] [.int (jn x39), .ref p0] h40 (jQ K L R g n tm [] jV0) := by
          intro x39 h40 ax39 oh40
          have rx39 : -2147483648 ≤ x39 ∧ x39 ≤ 2147483647 := ⟨by omega, by omega⟩
          refine jT.putI 15 2 oh40 rfl kp0 (by decide) rfl rfl rfl (Or.inr ⟨rfl, rfl⟩) (by show 0 ≤ x39; omega) (by show x39 ≤ 1; omega) (fun h42 oh42 wh42 uh42 => ?_)
          refine mj_T.pl rfl rfl rfl rfl ?_
          refine jT.getK 15 2 oh42 rfl kp0 (by decide) rfl rfl rfl wh42 ?_
          refine jT.if0 rfl rx39 (fun c269 => ?_) (fun c269 => ?_)
          · have c269 := of_decide_eq_true c269
            exact jT.ret oh42 rfl rfl rfl rfl
          · have c269 := of_decide_eq_false c269
            refine mj_T.pl rfl rfl rfl rfl ?_
            refine jT.getR 15 118 18 ty oh42 rfl kp0 (by decide) rfl rfl rfl (fun k43 => ?_)
            refine mj_T.pl rfl rfl rfl rfl ?_
            refine jT.getR 15 118 18 ty oh42 rfl kp0 (by decide) rfl rfl rfl (fun k44 => ?_)
            refine jT.call rfl rfl (Nat.le_of_ble_eq_true rfl) (Nat.le_of_ble_eq_true rfl) (jrv_of oh42 k43 (by decide) rfl (by decide) rfl _) rfl (mj_Ok.up (Nat.add_le_add_left (by decide) D) (jc_87 (D := D) ty hg oh42 k43 k44)) rfl rfl (fun v45 h46 qv45 oh46 => ?_)
            obtain rfl : v45 = none := qv45
            refine mj_T.eq (pc2 := 283) (st2 := []) ?_ rfl rfl rfl rfl
            exact jT.ret oh46 rfl rfl rfl rfl
        have t261_48 : ∀ (h47 : mj_H), (jO K L R g n tm h47) → mj_T (D + 4) mj_m65 261 [some (.ref p0), some (.int (jn p1)), some (.ref (R (R (R p0 1) 1) (0 : Int).toNat)), some (.int (jn x20)), some (.int (jn x21)), some (.int (jn x8)), some (.int (jn x22)), w23] [.ref p0] h47 (jQ K L R g n tm [] jV0) := by
          intro h47 oh47
          refine mj_T.pl rfl rfl rfl rfl ?_
          exact t262_41 0 h47 ⟨by omega, by omega⟩ oh47
        refine jT.icmp rfl rx21 rz38 (fun c239 => ?_) (fun c239 => ?_)
        · have c239 := jne1 c239
          exact t261_48 h37 oh37
        · have c239 := jne2 c239
          refine mj_T.pl rfl rfl rfl rfl ?_
          refine jT.getR 15 111 11 ty oh37 rfl kp0 (by decide) rfl rfl rfl (fun k49 => ?_)
          iterate 2 refine mj_T.pl rfl rfl rfl rfl ?_
          refine jT.getR 15 118 18 ty oh37 rfl kp0 (by decide) rfl rfl rfl (fun k50 => ?_)
          refine jT.call rfl rfl (Nat.le_of_ble_eq_true rfl) (Nat.le_of_ble_eq_true rfl) (jrv_of oh37 k49 (by decide) rfl (by decide) rfl _) rfl (mj_Ok.up (Nat.add_le_add_left (by decide) D) (jc_28 (D := D) ty hg oh37 k49 k4 k50)) rfl rfl (fun v51 h52 qv51 oh52 => ?_)
          obtain ⟨z53, az53, bz53, rfl⟩ := qv51
          have rz53 : -2147483648 ≤ z53 ∧ z53 ≤ 2147483647 := ⟨by omega, by omega⟩
          refine mj_T.eq (pc2 := 254) (st2 := [.int (jn z53), .ref p0]) ?_ rfl rfl rfl rfl
          refine jT.if0 rfl rz53 (fun c254 => ?_) (fun c254 => ?_)
          · have c254 := jne1 c254
            exact t261_48 h52 oh52
          · have c254 := jne2 c254
            iterate 2 refine mj_T.pl rfl rfl rfl rfl ?_
            exact t262_41 1 h52 ⟨by omega, by omega⟩ oh52
      refine jT.icmp rfl rx22 ⟨by decide, by decide⟩ (fun c74 => ?_) (fun c74 => ?_)
      · have c74 := of_decide_eq_true c74
        exact t210_29 
      · have c74 := of_decide_eq_false c74
        refine mj_T.pl rfl rfl rfl rfl ?_
        refine jT.getR 15 118 18 ty oh24 rfl kp0 (by decide) rfl rfl rfl (fun k54 => ?_)
        refine jT.getI 18 0 oh24 rfl k54 (by decide) rfl rfl rfl (fun z55 (az55 : (-2147483648) ≤ z55) (bz55 : z55 ≤ 2147483647) fz55 => ?_)
        have rz55 : -2147483648 ≤ z55 ∧ z55 ≤ 2147483647 := ⟨by omega, by omega⟩
        refine jT.if0 rfl rz55 (fun c84 => ?_) (fun c84 => ?_)
        · have c84 := of_decide_eq_true c84
          exact t210_29 
        · have c84 := of_decide_eq_false c84
          refine mj_T.pl rfl rfl rfl rfl ?_
          refine jT.getR 15 118 18 ty oh24 rfl kp0 (by decide) rfl rfl rfl (fun k56 => ?_)
          refine mj_T.pl rfl rfl rfl rfl ?_
          refine jT.getR 15 118 18 ty oh24 rfl kp0 (by decide) rfl rfl rfl (fun k57 => ?_)
          refine jT.call rfl rfl (Nat.le_of_ble_eq_true rfl) (Nat.le_of_ble_eq_true rfl) (jrv_of oh24 k56 (by decide) rfl (by decide) rfl _) rfl (mj_Ok.up (Nat.add_le_add_left (by decide) D) (jc_87 (D := D) ty hg oh24 k56 k57)) rfl rfl (fun v58 h59 qv58 oh59 => ?_)
          obtain rfl : v58 = none := qv58
          refine mj_T.eq (pc2 := 98) (st2 := []) ?_ rfl rfl rfl rfl
          refine mj_T.pl rfl rfl rfl rfl ?_
          refine jT.getR 15 118 18 ty oh59 rfl kp0 (by decide) rfl rfl rfl (fun k60 => ?_)
          refine mj_T.pl rfl rfl rfl rfl ?_
          refine jT.getR 15 118 18 ty oh59 rfl kp0 (by decide) rfl rfl rfl (fun k61 => ?_)
          refine mj_T.pl rfl rfl rfl rfl ?_
          refine jT.call rfl rfl (Nat.le_of_ble_eq_true rfl) (Nat.le_of_ble_eq_true rfl) (jrv_of oh59 k60 (by decide) rfl (by decide) rfl _) rfl (mj_Ok.up (Nat.add_le_add_left (by decide) D) (jc_91 (D := D) ty hg oh59 k60 k61 ⟨by decide, by decide⟩)) rfl rfl (fun v62 h63 qv62 oh63 => ?_)
          obtain rfl : v62 = none := qv62
          refine mj_T.eq (pc2 := 110) (st2 := []) ?_ rfl rfl rfl rfl
          iterate 2 refine mj_T.pl rfl rfl rfl rfl ?_
          refine jT.isub rfl (fun z64 rz64 ez64 => ?_)
          clear ez64
          refine mj_T.pl rfl rfl rfl rfl ?_
          refine jT.icmp rfl rz64 ⟨by decide, by decide⟩ (fun c115 => ?_) (fun c115 => ?_)
          · have c115 := of_decide_eq_true c115
            refine mj_T.pl rfl rfl rfl rfl ?_
            refine jT.getI 15 0 oh63 rfl kp0 (by decide) rfl rfl rfl (fun z65 (az65 : (-2147483648) ≤ z65) (bz65 : z65 ≤ 2147483647) fz65 => ?_)
            have rz65 : -2147483648 ≤ z65 ∧ z65 ≤ 2147483647 := ⟨by omega, by omega⟩
            refine mj_T.pl rfl rfl rfl rfl ?_
            refine jT.getR 15 116 16 ty oh63 rfl kp0 (by decide) rfl rfl rfl (fun k66 => ?_)
            refine mj_T.pl rfl rfl rfl rfl ?_
            refine jT.getR 15 118 18 ty oh63 rfl kp0 (by decide) rfl rfl rfl (fun k67 => ?_)
            refine jT.call rfl rfl (Nat.le_of_ble_eq_true rfl) (Nat.le_of_ble_eq_true rfl) (jrv_of oh63 k66 (by decide) rfl (by decide) rfl _) rfl (mj_Ok.up (Nat.add_le_add_left (by decide) D) (jc_76 (D := D) ty hg oh63 k66 k67)) rfl rfl (fun v68 h69 qv68 oh69 => ?_)
            obtain ⟨z70, az70, bz70, rfl⟩ := qv68
            have rz70 : -2147483648 ≤ z70 ∧ z70 ≤ 2147483647 := ⟨by omega, by omega⟩
            refine mj_T.eq (pc2 := 164) (st2 := [.int (jn z70), .int (jn z65)]) ?_ rfl rfl rfl rfl
            refine jT.isub rfl (fun z71 rz71 ez71 => ?_)
            clear ez71
            refine mj_T.pl (loc' := [some (.ref p0), some (.int (jn p1)), some (.ref (R (R (R p0 1) 1) (0 : Int).toNat)), some (.int (jn x20)), some (.int (jn x21)), some (.int (jn x8)), some (.int (jn x22)), some (.int (jn z71))]) rfl rfl rfl rfl ?_
            iterate 2 refine mj_T.pl rfl rfl rfl rfl ?_
            refine jT.icmp rfl rz71 rp1 (fun c170 => ?_) (fun c170 => ?_)
            · have c170 := of_decide_eq_true c170
              refine mj_T.pl rfl rfl rfl rfl ?_
              refine mj_T.pl (loc' := [some (.ref p0), some (.int (jn p1)), some (.ref (R (R (R p0 1) 1) (0 : Int).toNat)), some (.int (jn x20)), some (.int (jn z71)), some (.int (jn x8)), some (.int (jn x22)), some (.int (jn z71))]) rfl rfl rfl rfl ?_
              refine mj_T.pl rfl rfl rfl rfl ?_
              refine jT.getR 15 118 18 ty oh69 rfl kp0 (by decide) rfl rfl rfl (fun k72 => ?_)
              refine jT.ldcL rfl ?_
              refine jT.call rfl rfl (Nat.le_of_ble_eq_true rfl) (Nat.le_of_ble_eq_true rfl) (jrv_of oh69 k72 (by decide) rfl (by decide) rfl _) rfl (mj_Ok.up (Nat.add_le_add_left (by decide) D) (jc_97 (D := D) ty hg oh69 k72 ⟨by decide, by decide⟩)) rfl rfl (fun v73 h74 qv73 oh74 => ?_)
              obtain rfl : v73 = none := qv73
              refine mj_T.eq (pc2 := 204) (st2 := []) ?_ rfl rfl rfl rfl
              refine jT.iinc rfl rfl (fun z75 rz75 ez75 => ?_)
              replace ez75 := ez75 ⟨by omega, by omega⟩
              refine mj_T.eq (loc2 := [some (.ref p0), some (.int (jn p1)), some (.ref (R (R (R p0 1) 1) (0 : Int).toNat)), some (.int (jn x20)), some (.int (jn z71)), some (.int (jn x8)), some (.int (jn z75)), some (.int (jn z71))]) ?_ rfl rfl rfl rfl
              refine mj_T.pl rfl rfl rfl rfl ?_
              exact ih27 ((2147483647 - z75 : Int).toNat) (by omega) x20 z71 z75 (some (.int (jn z71))) h74 rx20 rz71 rz75 oh74 (by omega) rfl
            · have c170 := of_decide_eq_false c170
              refine mj_T.pl rfl rfl rfl rfl ?_
              refine jT.getR 15 118 18 ty oh69 rfl kp0 (by decide) rfl rfl rfl (fun k76 => ?_)
              refine mj_T.pl rfl rfl rfl rfl ?_
              refine jT.getR 15 118 18 ty oh69 rfl kp0 (by decide) rfl rfl rfl (fun k77 => ?_)
              refine jT.call rfl rfl (Nat.le_of_ble_eq_true rfl) (Nat.le_of_ble_eq_true rfl) (jrv_of oh69 k76 (by decide) rfl (by decide) rfl _) rfl (mj_Ok.up (Nat.add_le_add_left (by decide) D) (jc_87 (D := D) ty hg oh69 k76 k77)) rfl rfl (fun v78 h79 qv78 oh79 => ?_)
              obtain rfl : v78 = none := qv78
              refine mj_T.eq (pc2 := 184) (st2 := []) ?_ rfl rfl rfl rfl
              refine mj_T.pl rfl rfl rfl rfl ?_
              refine mj_T.pl (loc' := [some (.ref p0), some (.int (jn p1)), some (.ref (R (R (R p0 1) 1) (0 : Int).toNat)), some (.int (jn z71)), some (.int (jn x21)), some (.int (jn x8)), some (.int (jn x22)), some (.int (jn z71))]) rfl rfl rfl rfl ?_
              iterate 2 refine mj_T.pl rfl rfl rfl rfl ?_
              refine jT.getR 15 118 18 ty oh79 rfl kp0 (by decide) rfl rfl rfl (fun k80 => ?_)
              refine jT.ldcL rfl ?_
              refine jT.call rfl rfl (Nat.le_of_ble_eq_true rfl) (Nat.le_of_ble_eq_true rfl) (jrv_of oh79 k80 (by decide) rfl (by decide) rfl _) rfl (mj_Ok.up (Nat.add_le_add_left (by decide) D) (jc_97 (D := D) ty hg oh79 k80 ⟨by decide, by decide⟩)) rfl rfl (fun v81 h82 qv81 oh82 => ?_)
              obtain rfl : v81 = none := qv81
              refine mj_T.eq (pc2 := 204) (st2 := []) ?_ rfl rfl rfl rfl
              refine jT.iinc rfl rfl (fun z83 rz83 ez83 => ?_)
              replace ez83 := ez83 ⟨by omega, by omega⟩
              refine mj_T.eq (loc2 := [some (.ref p0), some (.int (jn p1)), some (.ref (R (R (R p0 1) 1) (0 : Int).toNat)), some (.int (jn z71)), some (.int (jn x21)), some (.int (jn x8)), some (.int (jn z83)), some (.int (jn z71))]) ?_ rfl rfl rfl rfl
              refine mj_T.pl rfl rfl rfl rfl ?_
              exact ih27 ((2147483647 - z83 : Int).toNat) (by omega) z71 x21 z83 (some (.int (jn z71))) h82 rz71 rx21 rz83 oh82 (by omega) rfl
          · have c115 := of_decide_eq_false c115
            refine mj_T.pl rfl rfl rfl rfl ?_
            refine jT.getR 15 111 11 ty oh63 rfl kp0 (by decide) rfl rfl rfl (fun k84 => ?_)
            iterate 2 refine mj_T.pl rfl rfl rfl rfl ?_
            refine jT.getR 15 118 18 ty oh63 rfl kp0 (by decide) rfl rfl rfl (fun k85 => ?_)
            refine jT.call rfl rfl (Nat.le_of_ble_eq_true rfl) (Nat.le_of_ble_eq_true rfl) (jrv_of oh63 k84 (by decide) rfl (by decide) rfl _) rfl (mj_Ok.up (Nat.add_le_add_left (by decide) D) (jc_28 (D := D) ty hg oh63 k84 k4 k85)) rfl rfl (fun v86 h87 qv86 oh87 => ?_)
            obtain ⟨z88, az88, bz88, rfl⟩ := qv86
            have rz88 : -2147483648 ≤ z88 ∧ z88 ≤ 2147483647 := ⟨by omega, by omega⟩
            refine mj_T.eq (pc2 := 130) (st2 := [.int (jn z88)]) ?_ rfl rfl rfl rfl
            refine mj_T.pl rfl rfl rfl rfl ?_
            refine jT.icmp rfl rz88 rx8 (fun c132 => ?_) (fun c132 => ?_)
            · have c132 := jne1 c132
              refine mj_T.pl rfl rfl rfl rfl ?_
              refine jT.getR 15 118 18 ty oh87 rfl kp0 (by decide) rfl rfl rfl (fun k89 => ?_)
              refine jT.ldcL rfl ?_
              refine jT.call rfl rfl (Nat.le_of_ble_eq_true rfl) (Nat.le_of_ble_eq_true rfl) (jrv_of oh87 k89 (by decide) rfl (by decide) rfl _) rfl (mj_Ok.up (Nat.add_le_add_left (by decide) D) (jc_97 (D := D) ty hg oh87 k89 ⟨by decide, by decide⟩)) rfl rfl (fun v90 h91 qv90 oh91 => ?_)
              obtain rfl : v90 = none := qv90
              refine mj_T.eq (pc2 := 204) (st2 := []) ?_ rfl rfl rfl rfl
              refine jT.iinc rfl rfl (fun z92 rz92 ez92 => ?_)
              replace ez92 := ez92 ⟨by omega, by omega⟩
              refine mj_T.eq (loc2 := [some (.ref p0), some (.int (jn p1)), some (.ref (R (R (R p0 1) 1) (0 : Int).toNat)), some (.int (jn x20)), some (.int (jn x21)), some (.int (jn x8)), some (.int (jn z92)), w23]) ?_ rfl rfl rfl rfl
              refine mj_T.pl rfl rfl rfl rfl ?_
              exact ih27 ((2147483647 - z92 : Int).toNat) (by omega) x20 x21 z92 w23 h91 rx20 rx21 rz92 oh91 (by omega) rfl
            · have c132 := jne2 c132
              refine mj_T.pl rfl rfl rfl rfl ?_
              refine jT.getR 15 118 18 ty oh87 rfl kp0 (by decide) rfl rfl rfl (fun k93 => ?_)
              refine mj_T.pl rfl rfl rfl rfl ?_
              refine jT.getR 15 118 18 ty oh87 rfl kp0 (by decide) rfl rfl rfl (fun k94 => ?_)
              refine jT.call rfl rfl (Nat.le_of_ble_eq_true rfl) (Nat.le_of_ble_eq_true rfl) (jrv_of oh87 k93 (by decide) rfl (by decide) rfl _) rfl (mj_Ok.up (Nat.add_le_add_left (by decide) D) (jc_87 (D := D) ty hg oh87 k93 k94)) rfl rfl (fun v95 h96 qv95 oh96 => ?_)
              obtain rfl : v95 = none := qv95
              refine mj_T.eq (pc2 := 146) (st2 := []) ?_ rfl rfl rfl rfl
              iterate 2 refine mj_T.pl rfl rfl rfl rfl ?_
              refine jT.getR 15 118 18 ty oh96 rfl kp0 (by decide) rfl rfl rfl (fun k97 => ?_)
              refine jT.ldcL rfl ?_
              refine jT.call rfl rfl (Nat.le_of_ble_eq_true rfl) (Nat.le_of_ble_eq_true rfl) (jrv_of oh96 k97 (by decide) rfl (by decide) rfl _) rfl (mj_Ok.up (Nat.add_le_add_left (by decide) D) (jc_97 (D := D) ty hg oh96 k97 ⟨by decide, by decide⟩)) rfl rfl (fun v98 h99 qv98 oh99 => ?_)
              obtain rfl : v98 = none := qv98
              refine mj_T.eq (pc2 := 204) (st2 := []) ?_ rfl rfl rfl rfl
              refine jT.iinc rfl rfl (fun z100 rz100 ez100 => ?_)
              replace ez100 := ez100 ⟨by omega, by omega⟩
              refine mj_T.eq (loc2 := [some (.ref p0), some (.int (jn p1)), some (.ref (R (R (R p0 1) 1) (0 : Int).toNat)), some (.int (jn x20)), some (.int (jn x21)), some (.int (jn x8)), some (.int (jn z100)), w23]) ?_ rfl rfl rfl rfl
              refine mj_T.pl rfl rfl rfl rfl ?_
              exact ih27 ((2147483647 - z100 : Int).toNat) (by omega) x20 x21 z100 w23 h99 rx20 rx21 rz100 oh99 (by omega) rfl
    exact t69_25 _ 0 z5 0 none h19 ⟨by decide, by decide⟩ rz5 ⟨by decide, by decide⟩ oh19 (by omega) rfl
  refine jT.if0 rfl rz7 (fun c26 => ?_) (fun c26 => ?_)
  · have c26 := jne1 c26
    refine mj_T.pl rfl rfl rfl rfl ?_
    exact t34_9 (-1) ⟨by decide, by decide⟩
  · have c26 := jne2 c26
    iterate 2 refine mj_T.pl rfl rfl rfl rfl ?_
    exact t34_9 1 ⟨by decide, by decide⟩
-- PolyRegisters$Roots.countFractions(I)I
theorem jc_66 {D n : Nat} {tm : Int} {h g : mj_H} {K L : Nat → Nat} {R : Nat → Nat → Nat} {p0 : Nat} {p1 : Int} (ty : jTY K L R) (hg : g.length ≤ n) (o : jO K L R g n tm h) (kp0 : K p0 = 15) (rp1 : -2147483648 ≤ p1 ∧ p1 ≤ 2147483647) : mj_Ok (D + 6) 66 [.ref p0, .int (jn p1)] h (jQ K L R g n tm [] (jVi (-2147483648) 2147483647)) := by
  refine mj_Ok.of (M := mj_m66) (loc := [some (.ref p0), some (.int (jn p1)), none, none]) rfl rfl rfl ?_
  iterate 2 refine mj_T.pl rfl rfl rfl rfl ?_
  refine jT.getR 15 116 16 ty o rfl kp0 (by decide) rfl rfl rfl (fun k1 => ?_)
  refine jT.getR 16 105 5 ty o rfl k1 (by decide) rfl rfl rfl (fun k2 => ?_)
  refine mj_T.pl rfl rfl rfl rfl ?_
  have l3 : 14 ≤ (L (R (R p0 1) 1) : Int) ∧ (L (R (R p0 1) 1) : Int) ≤ 14 := jlen 5 ty k2 (by decide) (by decide)
  refine jT.aald 5 13 ty o rfl k2 (by decide) (by decide) rfl ⟨by decide, by decide⟩ ⟨by omega, by omega⟩ (fun k4 => ?_)
  refine jT.callp rfl rfl (Nat.le_of_ble_eq_true rfl) (Nat.le_of_ble_eq_true rfl) (jrv_of o k4 (by decide) rfl (by decide) rfl _) rfl (mj_Ok.up (Nat.add_le_add_left (by decide) D) (jc_37 (D := D) ty hg o k4)) rfl rfl (fun v5 qv5 => ?_)
  obtain ⟨a6, ka6, rfl⟩ := qv5
  refine mj_T.eq (pc2 := 13) (st2 := [.ref a6, .ref p0]) ?_ rfl rfl rfl rfl
  refine jT.callp rfl rfl (Nat.le_of_ble_eq_true rfl) (Nat.le_of_ble_eq_true rfl) (jrv_of o ka6 (by decide) rfl (by decide) rfl _) rfl (mj_Ok.up (Nat.add_le_add_left (by decide) D) (jc_100 (D := D) ty hg o ka6)) rfl rfl (fun v7 qv7 => ?_)
  obtain ⟨z8, jz8, rfl⟩ := qv7
  refine mj_T.eq (pc2 := 16) (st2 := [.long (jl z8), .ref p0]) ?_ rfl rfl rfl rfl
  refine jT.call rfl rfl (Nat.le_of_ble_eq_true rfl) (Nat.le_of_ble_eq_true rfl) (jrv_of o kp0 (by decide) rfl (by decide) rfl _) rfl (mj_Ok.up (Nat.add_le_add_left (by decide) D) (jc_64 (D := D) ty hg o kp0 jz8)) rfl rfl (fun v9 h10 qv9 oh10 => ?_)
  obtain rfl : v9 = none := qv9
  refine mj_T.eq (pc2 := 19) (st2 := []) ?_ rfl rfl rfl rfl
  refine mj_T.pl rfl rfl rfl rfl ?_
  refine mj_T.pl (loc' := [some (.ref p0), some (.int (jn p1)), some (.int (jn 0)), none]) rfl rfl rfl rfl ?_
  refine mj_T.pl rfl rfl rfl rfl ?_
  refine mj_T.pl (loc' := [some (.ref p0), some (.int (jn p1)), some (.int (jn 0)), some (.int (jn 0))]) rfl rfl rfl rfl ?_
  have t23_14 : ∀ (k15 : Nat) (x11 : Int) (x12 : Int) (h13 : mj_H), (-2147483648 ≤ x11 ∧ x11 ≤ 2147483647) → (-2147483648 ≤ x12 ∧ x12 ≤ 2147483647) → (jO K L R g n tm h13) → (0 ≤ x12) → (2147483647 - x12 : Int).toNat = k15 → mj_T (D + 5) mj_m66 23 [some (.ref p0), some (.int (jn p1)), some (.int (jn x11)), some (.int (jn x12))] [] h13 (jQ K L R g n tm [] (jVi (-2147483648) 2147483647)) := by
    refine jInd (fun k15 ih16 => ?_)
    intro x11 x12 h13 rx11 rx12 oh13 ix12 hm17
    refine mj_T.pl rfl rfl rfl rfl ?_
    refine mj_T.pl rfl rfl rfl rfl ?_
    refine jT.getI 15 0 oh13 rfl kp0 (by decide) rfl rfl rfl (fun z18 (az18 : (-2147483648) ≤ z18) (bz18 : z18 ≤ 2147483647) fz18 => ?_)
    have rz18 : -2147483648 ≤ z18 ∧ z18 ≤ 2147483647 := ⟨by omega, by omega⟩
    refine jT.icmp rfl rx12 rz18 (fun c28 => ?_) (fun c28 => ?_)
    · have c28 := of_decide_eq_true c28
      refine mj_T.pl rfl rfl rfl rfl ?_
      exact jT.ret oh13 rfl rfl rfl ⟨x11, by omega, by omega, rfl⟩
    · have c28 := of_decide_eq_false c28
      iterate 2 refine mj_T.pl rfl rfl rfl rfl ?_
      refine jT.icmp rfl rx11 rp1 (fun c33 => ?_) (fun c33 => ?_)
      · have c33 := of_decide_eq_true c33
        refine mj_T.pl rfl rfl rfl rfl ?_
        exact jT.ret oh13 rfl rfl rfl ⟨x11, by omega, by omega, rfl⟩
      · have c33 := of_decide_eq_false c33
        iterate 2 refine mj_T.pl rfl rfl rfl rfl ?_
        refine jT.call rfl rfl (Nat.le_of_ble_eq_true rfl) (Nat.le_of_ble_eq_true rfl) (jrv_of oh13 kp0 (by decide) rfl (by decide) rfl _) rfl (mj_Ok.up (Nat.add_le_add_left (by decide) D) (jc_65 (D := D) ty hg oh13 kp0 rx12)) rfl rfl (fun v19 h20 qv19 oh20 => ?_)
        obtain rfl : v19 = none := qv19
        refine mj_T.eq (pc2 := 41) (st2 := []) ?_ rfl rfl rfl rfl
        iterate 2 refine mj_T.pl rfl rfl rfl rfl ?_
        refine jT.getI 15 2 oh20 rfl kp0 (by decide) rfl rfl rfl (fun z21 (az21 : 0 ≤ z21) (bz21 : z21 ≤ 1) fz21 => ?_)
        have rz21 : -2147483648 ≤ z21 ∧ z21 ≤ 2147483647 := ⟨by omega, by omega⟩
        refine jT.if0 rfl rz21 (fun c46 => ?_) (fun c46 => ?_)
        · have c46 := of_decide_eq_true c46
          refine mj_T.pl rfl rfl rfl rfl ?_
          refine jT.iadd rfl (fun z22 rz22 ez22 => ?_)
          replace ez22 := ez22 ⟨by omega, by omega⟩
          refine mj_T.pl (loc' := [some (.ref p0), some (.int (jn p1)), some (.int (jn z22)), some (.int (jn x12))]) rfl rfl rfl rfl ?_
          refine jT.iinc rfl rfl (fun z23 rz23 ez23 => ?_)
          replace ez23 := ez23 ⟨by omega, by omega⟩
          refine mj_T.eq (loc2 := [some (.ref p0), some (.int (jn p1)), some (.int (jn z22)), some (.int (jn z23))]) ?_ rfl rfl rfl rfl
          refine mj_T.pl rfl rfl rfl rfl ?_
          exact ih16 ((2147483647 - z23 : Int).toNat) (by omega) z22 z23 h20 rz22 rz23 oh20 (by omega) rfl
        · have c46 := of_decide_eq_false c46
          iterate 2 refine mj_T.pl rfl rfl rfl rfl ?_
          refine jT.iadd rfl (fun z24 rz24 ez24 => ?_)
          replace ez24 := ez24 ⟨by omega, by omega⟩
          refine mj_T.pl (loc' := [some (.ref p0), some (.int (jn p1)), some (.int (jn z24)), some (.int (jn x12))]) rfl rfl rfl rfl ?_
          refine jT.iinc rfl rfl (fun z25 rz25 ez25 => ?_)
          replace ez25 := ez25 ⟨by omega, by omega⟩
          refine mj_T.eq (loc2 := [some (.ref p0), some (.int (jn p1)), some (.int (jn z24)), some (.int (jn z25))]) ?_ rfl rfl rfl rfl
          refine mj_T.pl rfl rfl rfl rfl ?_
          exact ih16 ((2147483647 - z25 : Int).toNat) (by omega) z24 z25 h20 rz24 rz25 oh20 (by omega) rfl
  exact t23_14 _ 0 0 h10 ⟨by decide, by decide⟩ ⟨by decide, by decide⟩ oh10 (by omega) rfl
