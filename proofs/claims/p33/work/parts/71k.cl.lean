/-! The class by kinds: its methods. -/
-- PolyRegisters$Text.at(I)I
theorem jc_79 {D n : Nat} {tm : Int} {h g : mj_H} {K L : Nat → Nat} {R : Nat → Nat → Nat} {p0 : Nat} {p1 : Int} (ty : jTY K L R) (hg : g.length ≤ n) (o : jO K L R g n tm h) (kp0 : K p0 = 17 ∨ K p0 = 27) (rp1 : -2147483648 ≤ p1 ∧ p1 ≤ 2147483647) : mj_Ok (D + 1) 79 [.ref p0, .int (jn p1)] h (jQp K L R g n tm h [] (jVi (-2147483648) 2147483647)) := by
  refine mj_Ok.of (M := mj_m79) (loc := [some (.ref p0), some (.int (jn p1))]) rfl rfl rfl ?_
  refine mj_T.pl rfl rfl rfl rfl ?_
  refine jT.if0 rfl rp1 (fun c1 => ?_) (fun c1 => ?_)
  · have c1 := of_decide_eq_true c1
    refine mj_T.pl rfl rfl rfl rfl ?_
    exact jT.retp rfl rfl rfl ⟨(-1), by omega, by omega, rfl⟩
  · have c1 := of_decide_eq_false c1
    iterate 2 refine mj_T.pl rfl rfl rfl rfl ?_
    refine jT.getE o rfl kp0 (fun z1 (az1 : 0 ≤ z1) (bz1 : z1 ≤ 340) fz1 => ?_)
    have rz1 : -2147483648 ≤ z1 ∧ z1 ≤ 2147483647 := ⟨by omega, by omega⟩
    refine jT.icmp rfl rp1 rz1 (fun c9 => ?_) (fun c9 => ?_)
    · have c9 := of_decide_eq_true c9
      refine mj_T.pl rfl rfl rfl rfl ?_
      exact jT.retp rfl rfl rfl ⟨(-1), by omega, by omega, rfl⟩
    · have c9 := of_decide_eq_false c9
      iterate 2 refine mj_T.pl rfl rfl rfl rfl ?_
      refine jT.getRE ty o rfl kp0 (fun k2 => ?_)
      refine jT.alen 3 ty o rfl k2 (by decide) (by decide) (fun z3 ez3 (az3 : 0 ≤ z3) (bz3 : z3 ≤ 1000) => ?_)
      have rz3 : -2147483648 ≤ z3 ∧ z3 ≤ 2147483647 := ⟨by omega, by omega⟩
      refine jT.icmp rfl rp1 rz3 (fun c18 => ?_) (fun c18 => ?_)
      · have c18 := of_decide_eq_true c18
        refine mj_T.pl rfl rfl rfl rfl ?_
        exact jT.retp rfl rfl rfl ⟨(-1), by omega, by omega, rfl⟩
      · have c18 := of_decide_eq_false c18
        refine mj_T.pl rfl rfl rfl rfl ?_
        refine jT.getRE ty o rfl kp0 (fun k4 => ?_)
        refine mj_T.pl rfl rfl rfl rfl ?_
        refine jT.bald o rfl k4 rp1 ⟨by omega, by omega⟩ (fun z5 rz5 fz5 => ?_)
        refine mj_T.pl rfl rfl rfl rfl ?_
        refine mj_T.pl rfl rfl rfl rfl ?_
        refine jT.anyI (fun z6 rz6 => ?_)
        refine mj_T.pl rfl rfl rfl rfl ?_
        exact jT.retp rfl rfl rfl ⟨z6, by omega, by omega, rfl⟩
-- PolyRegisters$Text.put(I)V
theorem jc_80 {D n : Nat} {tm : Int} {h g : mj_H} {K L : Nat → Nat} {R : Nat → Nat → Nat} {p0 : Nat} {p1 : Int} (ty : jTY K L R) (hg : g.length ≤ n) (o : jO K L R g n tm h) (kp0 : K p0 = 17) (rp1 : -2147483648 ≤ p1 ∧ p1 ≤ 2147483647) : mj_Ok (D + 1) 80 [.ref p0, .int (jn p1)] h (jQ K L R g n tm [] jV0) := by
  refine mj_Ok.of (M := mj_m80) (loc := [some (.ref p0), some (.int (jn p1))]) rfl rfl rfl ?_
  refine mj_T.pl rfl rfl rfl rfl ?_
  refine jT.getI 17 5 o rfl kp0 (by decide) rfl rfl rfl (fun z1 (az1 : 0 ≤ z1) (bz1 : z1 ≤ 340) fz1 => ?_)
  have rz1 : -2147483648 ≤ z1 ∧ z1 ≤ 2147483647 := ⟨by omega, by omega⟩
  refine jT.if0 rfl rz1 (fun c4 => ?_) (fun c4 => ?_)
  · have c4 := of_decide_eq_true c4
    exact jT.ret o rfl rfl rfl rfl
  · have c4 := of_decide_eq_false c4
    refine mj_T.pl rfl rfl rfl rfl ?_
    refine jT.getK 17 5 o rfl kp0 (by decide) rfl rfl rfl fz1.symm ?_
    refine mj_T.pl rfl rfl rfl rfl ?_
    refine jT.getR 17 103 3 ty o rfl kp0 (by decide) rfl rfl rfl (fun k2 => ?_)
    have lk2 : L (R p0 0) = 340 := ty.2.2.2.2.2.1 p0 kp0
    refine jT.alen 3 ty o rfl k2 (by decide) (by decide) (fun z3 ez3 (az3 : 0 ≤ z3) (bz3 : z3 ≤ 1000) => ?_)
    have rz3 : -2147483648 ≤ z3 ∧ z3 ≤ 2147483647 := ⟨by omega, by omega⟩
    refine jT.icmp rfl rz1 rz3 (fun c16 => ?_) (fun c16 => ?_)
    · have c16 := of_decide_eq_true c16
      exact jT.ret o rfl rfl rfl rfl
    · have c16 := of_decide_eq_false c16
      refine mj_T.pl rfl rfl rfl rfl ?_
      refine jT.getR 17 103 3 ty o rfl kp0 (by decide) rfl rfl rfl (fun k4 => ?_)
      refine mj_T.pl rfl rfl rfl rfl ?_
      refine jT.getK 17 5 o rfl kp0 (by decide) rfl rfl rfl fz1.symm ?_
      refine mj_T.pl rfl rfl rfl rfl ?_
      refine mj_T.pl rfl rfl rfl rfl ?_
      refine jT.anyI (fun z5 rz5 => ?_)
      refine jT.bast o rfl k4 rz1 ⟨by omega, by omega⟩ (fun h6 oh6 uh6 => ?_)
      iterate 2 refine mj_T.pl rfl rfl rfl rfl ?_
      refine jT.getK 17 5 oh6 rfl kp0 (by decide) rfl rfl rfl ((uh6 p0 1).trans fz1.symm) ?_
      refine mj_T.pl rfl rfl rfl rfl ?_
      refine jT.iadd rfl (fun z7 rz7 ez7 => ?_)
      replace ez7 := ez7 ⟨by omega, by omega⟩
      refine jT.putI 17 5 oh6 rfl kp0 (by decide) rfl rfl rfl (Or.inl rfl) (by show 0 ≤ z7; omega) (by show z7 ≤ 340; omega) (fun h8 oh8 wh8 uh8 => ?_)
      exact jT.ret oh8 rfl rfl rfl rfl
-- PolyRegisters$Text.putNumber(J)V
theorem jc_84 {D n : Nat} {tm : Int} {h g : mj_H} {K L : Nat → Nat} {R : Nat → Nat → Nat} {p0 : Nat} {p1 : Int} (ty : jTY K L R) (hg : g.length ≤ n) (o : jO K L R g n tm h) (kp0 : K p0 = 17) (jp1 : jR p1) : mj_Ok (D + 2) 84 [.ref p0, .long (jl p1)] h (jQ K L R g n tm [] jV0) := by
  refine mj_Ok.of (M := mj_m84) (loc := [some (.ref p0), some (.long (jl p1)), none, none, none, none]) rfl rfl rfl ?_
  refine jT.lc 1 rfl rfl ?_
  refine mj_T.pl (loc' := [some (.ref p0), some (.long (jl p1)), none, some (.long (jl ((1 : Nat) : Int))), none, none]) rfl rfl rfl rfl ?_
  refine mj_T.pl rfl rfl rfl rfl ?_
  refine mj_T.pl (loc' := [some (.ref p0), some (.long (jl p1)), none, some (.long (jl ((1 : Nat) : Int))), none, some (.int (jn 0))]) rfl rfl rfl rfl ?_
  have t5_4 : ∀ (k5 : Nat) (y1 : Int) (x2 : Int), (jR y1) → (-2147483648 ≤ x2 ∧ x2 ≤ 2147483647) → (0 ≤ x2) → (jPW x2 y1) → (2147483647 - x2 : Int).toNat = k5 → mj_T (D + 1) mj_m84 5 [some (.ref p0), some (.long (jl p1)), none, some (.long (jl y1)), none, some (.int (jn x2))] [] h (jQ K L R g n tm [] jV0) := by
    refine jInd (fun k5 ih6 => ?_)
    intro y1 x2 jy1 rx2 ix2 i3 hm7
    have pwi3 := jPW.b i3
    refine mj_T.pl rfl rfl rfl rfl ?_
    refine mj_T.pl rfl rfl rfl rfl ?_
    refine jT.icmp rfl rx2 ⟨by decide, by decide⟩ (fun c9 => ?_) (fun c9 => ?_)
    · have c9 := of_decide_eq_true c9
      refine mj_T.pl rfl rfl rfl rfl ?_
      refine mj_T.pl (loc' := [some (.ref p0), some (.long (jl p1)), none, some (.long (jl y1)), none, some (.int (jn 0))]) rfl rfl rfl rfl ?_
      have t37_11 : ∀ (k12 : Nat) (y8 : Int) (x9 : Int) (h10 : mj_H), (jR y8) → (-2147483648 ≤ x9 ∧ x9 ≤ 2147483647) → (jO K L R g n tm h10) → (0 ≤ x9) → (2147483647 - x9 : Int).toNat = k12 → mj_T (D + 1) mj_m84 37 [some (.ref p0), some (.long (jl p1)), none, some (.long (jl y8)), none, some (.int (jn x9))] [] h10 (jQ K L R g n tm [] jV0) := by
        refine jInd (fun k12 ih13 => ?_)
        intro y8 x9 h10 jy8 rx9 oh10 ix9 hm14
        refine mj_T.pl rfl rfl rfl rfl ?_
        refine mj_T.pl rfl rfl rfl rfl ?_
        refine jT.icmp rfl rx9 ⟨by decide, by decide⟩ (fun c41 => ?_) (fun c41 => ?_)
        · have c41 := of_decide_eq_true c41
          exact jT.ret oh10 rfl rfl rfl rfl
        · have c41 := of_decide_eq_false c41
          refine mj_T.pl rfl rfl rfl rfl ?_
          refine jT.lc 0 rfl rfl ?_
          refine mj_T.lif rfl rfl jy8 ⟨by decide, by decide⟩ (fun c46 => ?_) (fun c46 => ?_)
          · have c46 := of_decide_eq_true c46
            exact jT.ret oh10 rfl rfl rfl rfl
          · have c46 := of_decide_eq_false c46
            refine mj_T.pl rfl rfl rfl rfl ?_
            refine jT.ldcL rfl ?_
            iterate 2 refine mj_T.pl rfl rfl rfl rfl ?_
            refine jT.ldiv rfl jy8 (by omega) (fun z15 jz15 => ?_)
            refine jT.ldcL rfl ?_
            refine jT.lrem rfl ⟨by decide, by decide⟩ (by decide) (fun z16 jz16 => ?_)
            refine jT.ladd rfl (fun z17 jz17 _ => ?_)
            refine jT.l2i rfl (fun z18 rz18 _ => ?_)
            refine jT.call rfl rfl (Nat.le_of_ble_eq_true rfl) (Nat.le_of_ble_eq_true rfl) (jrv_of oh10 kp0 (by decide) rfl (by decide) rfl _) rfl (mj_Ok.up (Nat.add_le_add_left (by decide) D) (jc_80 (D := D) ty hg oh10 kp0 rz18)) rfl rfl (fun v19 h20 qv19 oh20 => ?_)
            obtain rfl : v19 = none := qv19
            refine mj_T.eq (pc2 := 66) (st2 := []) ?_ rfl rfl rfl rfl
            refine mj_T.pl rfl rfl rfl rfl ?_
            refine jT.ldcL rfl ?_
            refine jT.ldiv rfl ⟨by decide, by decide⟩ (by decide) (fun z21 jz21 => ?_)
            refine mj_T.pl (loc' := [some (.ref p0), some (.long (jl p1)), none, some (.long (jl z21)), none, some (.int (jn x9))]) rfl rfl rfl rfl ?_
            refine jT.iinc rfl rfl (fun z22 rz22 ez22 => ?_)
            replace ez22 := ez22 ⟨by omega, by omega⟩
            refine mj_T.eq (loc2 := [some (.ref p0), some (.long (jl p1)), none, some (.long (jl z21)), none, some (.int (jn z22))]) ?_ rfl rfl rfl rfl
            refine mj_T.pl rfl rfl rfl rfl ?_
            exact ih13 ((2147483647 - z22 : Int).toNat) (by omega) z21 z22 h20 jz21 rz22 oh20 (by omega) rfl
      exact t37_11 _ y1 0 h jy1 ⟨by decide, by decide⟩ o (by omega) rfl
    · have c9 := of_decide_eq_false c9
      iterate 2 refine mj_T.pl rfl rfl rfl rfl ?_
      refine jT.ldiv rfl jy1 (by omega) (fun z23 jz23 => ?_)
      refine jT.ldcL rfl ?_
      refine mj_T.lif rfl rfl jz23 ⟨by decide, by decide⟩ (fun c18 => ?_) (fun c18 => ?_)
      · have c18 := of_decide_eq_true c18
        refine mj_T.pl rfl rfl rfl rfl ?_
        refine mj_T.pl (loc' := [some (.ref p0), some (.long (jl p1)), none, some (.long (jl y1)), none, some (.int (jn 0))]) rfl rfl rfl rfl ?_
        have t37_27 : ∀ (k28 : Nat) (y24 : Int) (x25 : Int) (h26 : mj_H), (jR y24) → (-2147483648 ≤ x25 ∧ x25 ≤ 2147483647) → (jO K L R g n tm h26) → (0 ≤ x25) → (2147483647 - x25 : Int).toNat = k28 → mj_T (D + 1) mj_m84 37 [some (.ref p0), some (.long (jl p1)), none, some (.long (jl y24)), none, some (.int (jn x25))] [] h26 (jQ K L R g n tm [] jV0) := by
          refine jInd (fun k28 ih29 => ?_)
          intro y24 x25 h26 jy24 rx25 oh26 ix25 hm30
          refine mj_T.pl rfl rfl rfl rfl ?_
          refine mj_T.pl rfl rfl rfl rfl ?_
          refine jT.icmp rfl rx25 ⟨by decide, by decide⟩ (fun c41 => ?_) (fun c41 => ?_)
          · have c41 := of_decide_eq_true c41
            exact jT.ret oh26 rfl rfl rfl rfl
          · have c41 := of_decide_eq_false c41
            refine mj_T.pl rfl rfl rfl rfl ?_
            refine jT.lc 0 rfl rfl ?_
            refine mj_T.lif rfl rfl jy24 ⟨by decide, by decide⟩ (fun c46 => ?_) (fun c46 => ?_)
            · have c46 := of_decide_eq_true c46
              exact jT.ret oh26 rfl rfl rfl rfl
            · have c46 := of_decide_eq_false c46
              refine mj_T.pl rfl rfl rfl rfl ?_
              refine jT.ldcL rfl ?_
              iterate 2 refine mj_T.pl rfl rfl rfl rfl ?_
              refine jT.ldiv rfl jy24 (by omega) (fun z31 jz31 => ?_)
              refine jT.ldcL rfl ?_
              refine jT.lrem rfl ⟨by decide, by decide⟩ (by decide) (fun z32 jz32 => ?_)
              refine jT.ladd rfl (fun z33 jz33 _ => ?_)
              refine jT.l2i rfl (fun z34 rz34 _ => ?_)
              refine jT.call rfl rfl (Nat.le_of_ble_eq_true rfl) (Nat.le_of_ble_eq_true rfl) (jrv_of oh26 kp0 (by decide) rfl (by decide) rfl _) rfl (mj_Ok.up (Nat.add_le_add_left (by decide) D) (jc_80 (D := D) ty hg oh26 kp0 rz34)) rfl rfl (fun v35 h36 qv35 oh36 => ?_)
              obtain rfl : v35 = none := qv35
              refine mj_T.eq (pc2 := 66) (st2 := []) ?_ rfl rfl rfl rfl
              refine mj_T.pl rfl rfl rfl rfl ?_
              refine jT.ldcL rfl ?_
              refine jT.ldiv rfl ⟨by decide, by decide⟩ (by decide) (fun z37 jz37 => ?_)
              refine mj_T.pl (loc' := [some (.ref p0), some (.long (jl p1)), none, some (.long (jl z37)), none, some (.int (jn x25))]) rfl rfl rfl rfl ?_
              refine jT.iinc rfl rfl (fun z38 rz38 ez38 => ?_)
              replace ez38 := ez38 ⟨by omega, by omega⟩
              refine mj_T.eq (loc2 := [some (.ref p0), some (.long (jl p1)), none, some (.long (jl z37)), none, some (.int (jn z38))]) ?_ rfl rfl rfl rfl
              refine mj_T.pl rfl rfl rfl rfl ?_
              exact ih29 ((2147483647 - z38 : Int).toNat) (by omega) z37 z38 h36 jz37 rz38 oh36 (by omega) rfl
        exact t37_27 _ y1 0 h jy1 ⟨by decide, by decide⟩ o (by omega) rfl
      · have c18 := of_decide_eq_false c18
        refine mj_T.pl rfl rfl rfl rfl ?_
        refine jT.ldcL rfl ?_
        refine jT.lmul rfl (fun z39 jz39 ez39 => ?_)
        replace ez39 := ez39 ⟨by omega, by omega⟩
        refine mj_T.pl (loc' := [some (.ref p0), some (.long (jl p1)), none, some (.long (jl z39)), none, some (.int (jn x2))]) rfl rfl rfl rfl ?_
        refine jT.iinc rfl rfl (fun z40 rz40 ez40 => ?_)
        replace ez40 := ez40 ⟨by omega, by omega⟩
        refine mj_T.eq (loc2 := [some (.ref p0), some (.long (jl p1)), none, some (.long (jl z39)), none, some (.int (jn z40))]) ?_ rfl rfl rfl rfl
        refine mj_T.pl rfl rfl rfl rfl ?_
        exact ih6 ((2147483647 - z40 : Int).toNat) (by omega) z39 z40 jz39 rz40 (by omega) (jPW.s i3 (by omega) (by omega) (by omega)) rfl
  exact t5_4 _ ((1 : Nat) : Int) 0 ⟨by decide, by decide⟩ ⟨by decide, by decide⟩ (by omega) ⟨0, rfl, by decide, rfl⟩ rfl
-- PolyRegisters$Text.putTerm(JI)V
theorem jc_83 {D n : Nat} {tm : Int} {h g : mj_H} {K L : Nat → Nat} {R : Nat → Nat → Nat} {p0 : Nat} {p1 : Int} {p2 : Int} (ty : jTY K L R) (hg : g.length ≤ n) (o : jO K L R g n tm h) (kp0 : K p0 = 17) (jp1 : jR p1) (rp2 : -2147483648 ≤ p2 ∧ p2 ≤ 2147483647) : mj_Ok (D + 3) 83 [.ref p0, .long (jl p1), .int (jn p2)] h (jQ K L R g n tm [] jV0) := by
  refine mj_Ok.of (M := mj_m83) (loc := [some (.ref p0), some (.long (jl p1)), none, some (.int (jn p2)), none, none, none]) rfl rfl rfl ?_
  refine mj_T.pl rfl rfl rfl rfl ?_
  refine jT.getI 17 5 o rfl kp0 (by decide) rfl rfl rfl (fun z1 (az1 : 0 ≤ z1) (bz1 : z1 ≤ 340) fz1 => ?_)
  have rz1 : -2147483648 ≤ z1 ∧ z1 ≤ 2147483647 := ⟨by omega, by omega⟩
  have t12_3 : ∀ (x2 : Int), (0 ≤ x2 ∧ x2 ≤ 1) → mj_T (D + 2) mj_m83 12 [some (.ref p0), some (.long (jl p1)), none, some (.int (jn p2)), none, none, none] [.int (jn x2)] h (jQ K L R g n tm [] jV0) := by
    intro x2 ax2
    have rx2 : -2147483648 ≤ x2 ∧ x2 ≤ 2147483647 := ⟨by omega, by omega⟩
    refine mj_T.pl (loc' := [some (.ref p0), some (.long (jl p1)), none, some (.int (jn p2)), some (.int (jn x2)), none, none]) rfl rfl rfl rfl ?_
    refine mj_T.pl rfl rfl rfl rfl ?_
    have t25_5 : ∀ (h4 : mj_H), (jO K L R g n tm h4) → mj_T (D + 2) mj_m83 25 [some (.ref p0), some (.long (jl p1)), none, some (.int (jn p2)), some (.int (jn x2)), none, none] [] h4 (jQ K L R g n tm [] jV0) := by
      intro h4 oh4
      refine mj_T.pl rfl rfl rfl rfl ?_
      refine jT.lc 0 rfl rfl ?_
      have t51_7 : ∀ (h6 : mj_H), (jO K L R g n tm h6) → mj_T (D + 2) mj_m83 51 [some (.ref p0), some (.long (jl p1)), none, some (.int (jn p2)), some (.int (jn x2)), none, none] [] h6 (jQ K L R g n tm [] jV0) := by
        intro h6 oh6
        refine mj_T.pl rfl rfl rfl rfl ?_
        have t62_9 : ∀ (h8 : mj_H), (jO K L R g n tm h8) → mj_T (D + 2) mj_m83 62 [some (.ref p0), some (.long (jl p1)), none, some (.int (jn p2)), some (.int (jn x2)), none, none] [] h8 (jQ K L R g n tm [] jV0) := by
          intro h8 oh8
          refine mj_T.pl rfl rfl rfl rfl ?_
          refine jT.lc 0 rfl rfl ?_
          have t74_11 : ∀ (y10 : Int), (jR y10) → mj_T (D + 2) mj_m83 74 [some (.ref p0), some (.long (jl p1)), none, some (.int (jn p2)), some (.int (jn x2)), none, none] [.long (jl y10)] h8 (jQ K L R g n tm [] jV0) := by
            intro y10 jy10
            refine mj_T.pl (loc' := [some (.ref p0), some (.long (jl p1)), none, some (.int (jn p2)), some (.int (jn x2)), some (.long (jl y10)), none]) rfl rfl rfl rfl ?_
            refine mj_T.pl rfl rfl rfl rfl ?_
            refine jT.lc 1 rfl rfl ?_
            have t93_13 : ∀ (h12 : mj_H), (jO K L R g n tm h12) → mj_T (D + 2) mj_m83 93 [some (.ref p0), some (.long (jl p1)), none, some (.int (jn p2)), some (.int (jn x2)), some (.long (jl y10)), none] [] h12 (jQ K L R g n tm [] jV0) := by
              intro h12 oh12
              refine mj_T.pl rfl rfl rfl rfl ?_
              refine jT.lc 1 rfl rfl ?_
              have t110_15 : ∀ (h14 : mj_H), (jO K L R g n tm h14) → mj_T (D + 2) mj_m83 110 [some (.ref p0), some (.long (jl p1)), none, some (.int (jn p2)), some (.int (jn x2)), some (.long (jl y10)), none] [] h14 (jQ K L R g n tm [] jV0) := by
                intro h14 oh14
                refine mj_T.pl rfl rfl rfl rfl ?_
                have t120_17 : ∀ (h16 : mj_H), (jO K L R g n tm h16) → mj_T (D + 2) mj_m83 120 [some (.ref p0), some (.long (jl p1)), none, some (.int (jn p2)), some (.int (jn x2)), some (.long (jl y10)), none] [] h16 (jQ K L R g n tm [] jV0) := by
                  intro h16 oh16
                  iterate 2 refine mj_T.pl rfl rfl rfl rfl ?_
                  refine jT.icmp rfl rp2 ⟨by decide, by decide⟩ (fun c122 => ?_) (fun c122 => ?_)
                  · have c122 := of_decide_eq_true c122
                    exact jT.ret oh16 rfl rfl rfl rfl
                  · have c122 := of_decide_eq_false c122
                    iterate 2 refine mj_T.pl rfl rfl rfl rfl ?_
                    refine jT.call rfl rfl (Nat.le_of_ble_eq_true rfl) (Nat.le_of_ble_eq_true rfl) (jrv_of oh16 kp0 (by decide) rfl (by decide) rfl _) rfl (mj_Ok.up (Nat.add_le_add_left (by decide) D) (jc_80 (D := D) ty hg oh16 kp0 ⟨by decide, by decide⟩)) rfl rfl (fun v18 h19 qv18 oh19 => ?_)
                    obtain rfl : v18 = none := qv18
                    refine mj_T.eq (pc2 := 131) (st2 := []) ?_ rfl rfl rfl rfl
                    iterate 2 refine mj_T.pl rfl rfl rfl rfl ?_
                    refine jT.i2l rfl rp2 ?_
                    have j20 : jR p2 := ⟨by omega, by omega⟩
                    refine jT.call rfl rfl (Nat.le_of_ble_eq_true rfl) (Nat.le_of_ble_eq_true rfl) (jrv_of oh19 kp0 (by decide) rfl (by decide) rfl _) rfl (mj_Ok.up (Nat.add_le_add_left (by decide) D) (jc_84 (D := D) ty hg oh19 kp0 j20)) rfl rfl (fun v21 h22 qv21 oh22 => ?_)
                    obtain rfl : v21 = none := qv21
                    refine mj_T.eq (pc2 := 137) (st2 := []) ?_ rfl rfl rfl rfl
                    exact jT.ret oh22 rfl rfl rfl rfl
                refine jT.if0 rfl rp2 (fun c111 => ?_) (fun c111 => ?_)
                · have c111 := of_decide_eq_true c111
                  exact t120_17 h14 oh14
                · have c111 := of_decide_eq_false c111
                  iterate 2 refine mj_T.pl rfl rfl rfl rfl ?_
                  refine jT.call rfl rfl (Nat.le_of_ble_eq_true rfl) (Nat.le_of_ble_eq_true rfl) (jrv_of oh14 kp0 (by decide) rfl (by decide) rfl _) rfl (mj_Ok.up (Nat.add_le_add_left (by decide) D) (jc_80 (D := D) ty hg oh14 kp0 ⟨by decide, by decide⟩)) rfl rfl (fun v23 h24 qv23 oh24 => ?_)
                  obtain rfl : v23 = none := qv23
                  refine mj_T.eq (pc2 := 120) (st2 := []) ?_ rfl rfl rfl rfl
                  exact t120_17 h24 oh24
              refine mj_T.lif rfl rfl jy10 ⟨by decide, by decide⟩ (fun c96 => ?_) (fun c96 => ?_)
              · have c96 := of_decide_eq_true c96
                exact t110_15 h12 oh12
              · have c96 := of_decide_eq_false c96
                refine mj_T.pl rfl rfl rfl rfl ?_
                refine jT.if0 rfl rp2 (fun c101 => ?_) (fun c101 => ?_)
                · have c101 := of_decide_eq_true c101
                  exact t110_15 h12 oh12
                · have c101 := of_decide_eq_false c101
                  iterate 2 refine mj_T.pl rfl rfl rfl rfl ?_
                  refine jT.call rfl rfl (Nat.le_of_ble_eq_true rfl) (Nat.le_of_ble_eq_true rfl) (jrv_of oh12 kp0 (by decide) rfl (by decide) rfl _) rfl (mj_Ok.up (Nat.add_le_add_left (by decide) D) (jc_80 (D := D) ty hg oh12 kp0 ⟨by decide, by decide⟩)) rfl rfl (fun v25 h26 qv25 oh26 => ?_)
                  obtain rfl : v25 = none := qv25
                  refine mj_T.eq (pc2 := 110) (st2 := []) ?_ rfl rfl rfl rfl
                  exact t110_15 h26 oh26
            have t87_27 : mj_T (D + 2) mj_m83 87 [some (.ref p0), some (.long (jl p1)), none, some (.int (jn p2)), some (.int (jn x2)), some (.long (jl y10)), none] [] h8 (jQ K L R g n tm [] jV0) := by
              iterate 2 refine mj_T.pl rfl rfl rfl rfl ?_
              refine jT.call rfl rfl (Nat.le_of_ble_eq_true rfl) (Nat.le_of_ble_eq_true rfl) (jrv_of oh8 kp0 (by decide) rfl (by decide) rfl _) rfl (mj_Ok.up (Nat.add_le_add_left (by decide) D) (jc_84 (D := D) ty hg oh8 kp0 jy10)) rfl rfl (fun v28 h29 qv28 oh29 => ?_)
              obtain rfl : v28 = none := qv28
              refine mj_T.eq (pc2 := 93) (st2 := []) ?_ rfl rfl rfl rfl
              exact t93_13 h29 oh29
            refine mj_T.lif rfl rfl jy10 ⟨by decide, by decide⟩ (fun c79 => ?_) (fun c79 => ?_)
            · have c79 := jne1 c79
              exact t87_27 
            · have c79 := jne2 c79
              refine mj_T.pl rfl rfl rfl rfl ?_
              refine jT.if0 rfl rp2 (fun c84 => ?_) (fun c84 => ?_)
              · have c84 := jne1 c84
                exact t93_13 h8 oh8
              · have c84 := jne2 c84
                exact t87_27 
          refine mj_T.lif rfl rfl jp1 ⟨by decide, by decide⟩ (fun c64 => ?_) (fun c64 => ?_)
          · have c64 := of_decide_eq_true c64
            refine mj_T.pl rfl rfl rfl rfl ?_
            exact t74_11 p1 jp1
          · have c64 := of_decide_eq_false c64
            refine mj_T.pl rfl rfl rfl rfl ?_
            refine jT.lneg rfl (fun z30 jz30 _ => ?_)
            refine mj_T.pl rfl rfl rfl rfl ?_
            exact t74_11 z30 jz30
        refine jT.if0 rfl rx2 (fun c53 => ?_) (fun c53 => ?_)
        · have c53 := jne1 c53
          exact t62_9 h6 oh6
        · have c53 := jne2 c53
          iterate 2 refine mj_T.pl rfl rfl rfl rfl ?_
          refine jT.call rfl rfl (Nat.le_of_ble_eq_true rfl) (Nat.le_of_ble_eq_true rfl) (jrv_of oh6 kp0 (by decide) rfl (by decide) rfl _) rfl (mj_Ok.up (Nat.add_le_add_left (by decide) D) (jc_80 (D := D) ty hg oh6 kp0 ⟨by decide, by decide⟩)) rfl rfl (fun v31 h32 qv31 oh32 => ?_)
          obtain rfl : v31 = none := qv31
          refine mj_T.eq (pc2 := 62) (st2 := []) ?_ rfl rfl rfl rfl
          exact t62_9 h32 oh32
      refine mj_T.lif rfl rfl jp1 ⟨by decide, by decide⟩ (fun c27 => ?_) (fun c27 => ?_)
      · have c27 := of_decide_eq_true c27
        refine mj_T.pl rfl rfl rfl rfl ?_
        refine jT.if0 rfl rx2 (fun c42 => ?_) (fun c42 => ?_)
        · have c42 := jne1 c42
          exact t51_7 h4 oh4
        · have c42 := jne2 c42
          iterate 2 refine mj_T.pl rfl rfl rfl rfl ?_
          refine jT.call rfl rfl (Nat.le_of_ble_eq_true rfl) (Nat.le_of_ble_eq_true rfl) (jrv_of oh4 kp0 (by decide) rfl (by decide) rfl _) rfl (mj_Ok.up (Nat.add_le_add_left (by decide) D) (jc_80 (D := D) ty hg oh4 kp0 ⟨by decide, by decide⟩)) rfl rfl (fun v33 h34 qv33 oh34 => ?_)
          obtain rfl : v33 = none := qv33
          refine mj_T.eq (pc2 := 51) (st2 := []) ?_ rfl rfl rfl rfl
          exact t51_7 h34 oh34
      · have c27 := of_decide_eq_false c27
        iterate 2 refine mj_T.pl rfl rfl rfl rfl ?_
        refine jT.call rfl rfl (Nat.le_of_ble_eq_true rfl) (Nat.le_of_ble_eq_true rfl) (jrv_of oh4 kp0 (by decide) rfl (by decide) rfl _) rfl (mj_Ok.up (Nat.add_le_add_left (by decide) D) (jc_80 (D := D) ty hg oh4 kp0 ⟨by decide, by decide⟩)) rfl rfl (fun v35 h36 qv35 oh36 => ?_)
        obtain rfl : v35 = none := qv35
        refine mj_T.eq (pc2 := 37) (st2 := []) ?_ rfl rfl rfl rfl
        refine mj_T.pl rfl rfl rfl rfl ?_
        exact t51_7 h36 oh36
    refine jT.if0 rfl rx2 (fun c16 => ?_) (fun c16 => ?_)
    · have c16 := jne1 c16
      exact t25_5 h o
    · have c16 := jne2 c16
      iterate 2 refine mj_T.pl rfl rfl rfl rfl ?_
      refine jT.call rfl rfl (Nat.le_of_ble_eq_true rfl) (Nat.le_of_ble_eq_true rfl) (jrv_of o kp0 (by decide) rfl (by decide) rfl _) rfl (mj_Ok.up (Nat.add_le_add_left (by decide) D) (jc_80 (D := D) ty hg o kp0 ⟨by decide, by decide⟩)) rfl rfl (fun v37 h38 qv37 oh38 => ?_)
      obtain rfl : v37 = none := qv37
      refine mj_T.eq (pc2 := 25) (st2 := []) ?_ rfl rfl rfl rfl
      exact t25_5 h38 oh38
  refine jT.if0 rfl rz1 (fun c4 => ?_) (fun c4 => ?_)
  · have c4 := jne1 c4
    refine mj_T.pl rfl rfl rfl rfl ?_
    exact t12_3 0 ⟨by omega, by omega⟩
  · have c4 := jne2 c4
    iterate 2 refine mj_T.pl rfl rfl rfl rfl ?_
    exact t12_3 1 ⟨by omega, by omega⟩
-- PolyRegisters$Text.setRow([J)V
theorem jc_82 {D n : Nat} {tm : Int} {h g : mj_H} {K L : Nat → Nat} {R : Nat → Nat → Nat} {p0 : Nat} {p1 : Nat} (ty : jTY K L R) (hg : g.length ≤ n) (o : jO K L R g n tm h) (kp0 : K p0 = 17) (kp1 : K p1 = 2) : mj_Ok (D + 4) 82 [.ref p0, .ref p1] h (jQ K L R g n tm [] jV0) := by
  refine mj_Ok.of (M := mj_m82) (loc := [some (.ref p0), some (.ref p1), none]) rfl rfl rfl ?_
  iterate 2 refine mj_T.pl rfl rfl rfl rfl ?_
  refine jT.putI 17 5 o rfl kp0 (by decide) rfl rfl rfl (Or.inl rfl) (by show 0 ≤ 0; omega) (by show 0 ≤ 340; omega) (fun h1 oh1 wh1 uh1 => ?_)
  refine mj_T.pl rfl rfl rfl rfl ?_
  refine jT.alen 2 ty oh1 rfl kp1 (by decide) (by decide) (fun z2 ez2 (az2 : 13 ≤ z2) (bz2 : z2 ≤ 13) => ?_)
  have rz2 : -2147483648 ≤ z2 ∧ z2 ≤ 2147483647 := ⟨by omega, by omega⟩
  refine mj_T.pl rfl rfl rfl rfl ?_
  refine jT.isub rfl (fun z3 rz3 ez3 => ?_)
  replace ez3 := ez3 ⟨by omega, by omega⟩
  refine mj_T.pl (loc' := [some (.ref p0), some (.ref p1), some (.int (jn z3))]) rfl rfl rfl rfl ?_
  have t10_6 : ∀ (k7 : Nat) (x4 : Int) (h5 : mj_H), (-2147483648 ≤ x4 ∧ x4 ≤ 2147483647) → (jO K L R g n tm h5) → (x4 ≤ z3) → (x4 + 1 : Int).toNat = k7 → mj_T (D + 3) mj_m82 10 [some (.ref p0), some (.ref p1), some (.int (jn x4))] [] h5 (jQ K L R g n tm [] jV0) := by
    refine jInd (fun k7 ih8 => ?_)
    intro x4 h5 rx4 oh5 ix4 hm9
    refine mj_T.pl rfl rfl rfl rfl ?_
    refine jT.if0 rfl rx4 (fun c11 => ?_) (fun c11 => ?_)
    · have c11 := of_decide_eq_true c11
      refine mj_T.pl rfl rfl rfl rfl ?_
      refine jT.getI 17 5 oh5 rfl kp0 (by decide) rfl rfl rfl (fun z10 (az10 : 0 ≤ z10) (bz10 : z10 ≤ 340) fz10 => ?_)
      have rz10 : -2147483648 ≤ z10 ∧ z10 ≤ 2147483647 := ⟨by omega, by omega⟩
      refine jT.if0 rfl rz10 (fun c40 => ?_) (fun c40 => ?_)
      · have c40 := jne1 c40
        exact jT.ret oh5 rfl rfl rfl rfl
      · have c40 := jne2 c40
        iterate 2 refine mj_T.pl rfl rfl rfl rfl ?_
        refine jT.call rfl rfl (Nat.le_of_ble_eq_true rfl) (Nat.le_of_ble_eq_true rfl) (jrv_of oh5 kp0 (by decide) rfl (by decide) rfl _) rfl (mj_Ok.up (Nat.add_le_add_left (by decide) D) (jc_80 (D := D) ty hg oh5 kp0 ⟨by decide, by decide⟩)) rfl rfl (fun v11 h12 qv11 oh12 => ?_)
        obtain rfl : v11 = none := qv11
        refine mj_T.eq (pc2 := 49) (st2 := []) ?_ rfl rfl rfl rfl
        exact jT.ret oh12 rfl rfl rfl rfl
    · have c11 := of_decide_eq_false c11
      iterate 2 refine mj_T.pl rfl rfl rfl rfl ?_
      refine jT.lald oh5 rfl kp1 rx4 ⟨by omega, by omega⟩ (fun z13 jz13 => ?_)
      refine jT.lc 0 rfl rfl ?_
      refine mj_T.lif rfl rfl jz13 ⟨by decide, by decide⟩ (fun c18 => ?_) (fun c18 => ?_)
      · have c18 := of_decide_eq_true c18
        refine jT.iinc rfl rfl (fun z14 rz14 ez14 => ?_)
        replace ez14 := ez14 ⟨by omega, by omega⟩
        refine mj_T.eq (loc2 := [some (.ref p0), some (.ref p1), some (.int (jn z14))]) ?_ rfl rfl rfl rfl
        refine mj_T.pl rfl rfl rfl rfl ?_
        exact ih8 ((z14 + 1 : Int).toNat) (by omega) z14 h5 rz14 oh5 (by omega) rfl
      · have c18 := of_decide_eq_false c18
        iterate 3 refine mj_T.pl rfl rfl rfl rfl ?_
        refine jT.lald oh5 rfl kp1 rx4 ⟨by omega, by omega⟩ (fun z15 jz15 => ?_)
        refine mj_T.pl rfl rfl rfl rfl ?_
        refine jT.call rfl rfl (Nat.le_of_ble_eq_true rfl) (Nat.le_of_ble_eq_true rfl) (jrv_of oh5 kp0 (by decide) rfl (by decide) rfl _) rfl (mj_Ok.up (Nat.add_le_add_left (by decide) D) (jc_83 (D := D) ty hg oh5 kp0 jz15 rx4)) rfl rfl (fun v16 h17 qv16 oh17 => ?_)
        obtain rfl : v16 = none := qv16
        refine mj_T.eq (pc2 := 30) (st2 := []) ?_ rfl rfl rfl rfl
        refine jT.iinc rfl rfl (fun z18 rz18 ez18 => ?_)
        replace ez18 := ez18 ⟨by omega, by omega⟩
        refine mj_T.eq (loc2 := [some (.ref p0), some (.ref p1), some (.int (jn z18))]) ?_ rfl rfl rfl rfl
        refine mj_T.pl rfl rfl rfl rfl ?_
        exact ih8 ((z18 + 1 : Int).toNat) (by omega) z18 h17 rz18 oh17 (by omega) rfl
  exact t10_6 _ z3 h1 rz3 oh1 (by omega) rfl
-- PolyRegisters$Reader.isDigit(I)Z
theorem jc_55 {D n : Nat} {tm : Int} {h g : mj_H} {K L : Nat → Nat} {R : Nat → Nat → Nat} {p0 : Int} (ty : jTY K L R) (hg : g.length ≤ n) (o : jO K L R g n tm h) (rp0 : -2147483648 ≤ p0 ∧ p0 ≤ 2147483647) : mj_Ok (D + 1) 55 [.int (jn p0)] h (jQp K L R g n tm h [] (jVi 0 1)) := by
  refine mj_Ok.of (M := mj_m55) (loc := [some (.int (jn p0))]) rfl rfl rfl ?_
  iterate 2 refine mj_T.pl rfl rfl rfl rfl ?_
  refine jT.icmp rfl rp0 ⟨by decide, by decide⟩ (fun c3 => ?_) (fun c3 => ?_)
  · have c3 := of_decide_eq_true c3
    refine mj_T.pl rfl rfl rfl rfl ?_
    exact jT.retbp rfl rfl (by omega) (by omega)
  · have c3 := of_decide_eq_false c3
    iterate 2 refine mj_T.pl rfl rfl rfl rfl ?_
    refine jT.icmp rfl rp0 ⟨by decide, by decide⟩ (fun c9 => ?_) (fun c9 => ?_)
    · have c9 := of_decide_eq_true c9
      refine mj_T.pl rfl rfl rfl rfl ?_
      exact jT.retbp rfl rfl (by omega) (by omega)
    · have c9 := of_decide_eq_false c9
      iterate 2 refine mj_T.pl rfl rfl rfl rfl ?_
      exact jT.retbp rfl rfl (by omega) (by omega)
-- PolyRegisters$Reader.skipBlanks()V
theorem jc_56 {D n : Nat} {tm : Int} {h g : mj_H} {K L : Nat → Nat} {R : Nat → Nat → Nat} {p0 : Nat} (ty : jTY K L R) (hg : g.length ≤ n) (o : jO K L R g n tm h) (kp0 : K p0 = 14) : mj_Ok (D + 2) 56 [.ref p0] h (jQ K L R g n tm [] jV0) := by
  refine mj_Ok.of (M := mj_m56) (loc := [some (.ref p0), none]) rfl rfl rfl ?_
  refine mj_T.pl rfl rfl rfl rfl ?_
  refine mj_T.pl (loc' := [some (.ref p0), some (.int (jn 0))]) rfl rfl rfl rfl ?_
  have t2_3 : ∀ (k4 : Nat) (x1 : Int) (h2 : mj_H), (-2147483648 ≤ x1 ∧ x1 ≤ 2147483647) → (jO K L R g n tm h2) → (0 ≤ x1) → (2147483647 - x1 : Int).toNat = k4 → mj_T (D + 1) mj_m56 2 [some (.ref p0), some (.int (jn x1))] [] h2 (jQ K L R g n tm [] jV0) := by
    refine jInd (fun k4 ih5 => ?_)
    intro x1 h2 rx1 oh2 ix1 hm6
    refine mj_T.pl rfl rfl rfl rfl ?_
    refine mj_T.pl rfl rfl rfl rfl ?_
    refine jT.getT oh2 rfl kp0 (fun b7 kb7 => ?_)
    refine jT.getE oh2 rfl kb7 (fun z8 (az8 : 0 ≤ z8) (bz8 : z8 ≤ 340) fz8 => ?_)
    have rz8 : -2147483648 ≤ z8 ∧ z8 ≤ 2147483647 := ⟨by omega, by omega⟩
    refine jT.icmp rfl rx1 rz8 (fun c10 => ?_) (fun c10 => ?_)
    · have c10 := of_decide_eq_true c10
      exact jT.ret oh2 rfl rfl rfl rfl
    · have c10 := of_decide_eq_false c10
      refine mj_T.pl rfl rfl rfl rfl ?_
      refine jT.getT oh2 rfl kp0 (fun b9 kb9 => ?_)
      refine mj_T.pl rfl rfl rfl rfl ?_
      refine jT.getI 14 0 oh2 rfl kp0 (by decide) rfl rfl rfl (fun z10 (az10 : (-2147483648) ≤ z10) (bz10 : z10 ≤ 2147483647) fz10 => ?_)
      have rz10 : -2147483648 ≤ z10 ∧ z10 ≤ 2147483647 := ⟨by omega, by omega⟩
      refine jT.callp rfl rfl (Nat.le_of_ble_eq_true rfl) (Nat.le_of_ble_eq_true rfl) (jrv_ofE oh2 kb9 (by decide) rfl _) rfl (mj_Ok.up (Nat.add_le_add_left (by decide) D) (jc_79 (D := D) ty hg oh2 kb9 rz10)) rfl rfl (fun v11 qv11 => ?_)
      obtain ⟨z12, az12, bz12, rfl⟩ := qv11
      have rz12 : -2147483648 ≤ z12 ∧ z12 ≤ 2147483647 := ⟨by omega, by omega⟩
      refine mj_T.eq (pc2 := 24) (st2 := [.int (jn z12)]) ?_ rfl rfl rfl rfl
      refine mj_T.pl rfl rfl rfl rfl ?_
      refine jT.icmp rfl rz12 ⟨by decide, by decide⟩ (fun c26 => ?_) (fun c26 => ?_)
      · have c26 := jne1 c26
        exact jT.ret oh2 rfl rfl rfl rfl
      · have c26 := jne2 c26
        iterate 2 refine mj_T.pl rfl rfl rfl rfl ?_
        refine jT.getK 14 0 oh2 rfl kp0 (by decide) rfl rfl rfl fz10.symm ?_
        refine mj_T.pl rfl rfl rfl rfl ?_
        refine jT.iadd rfl (fun z13 rz13 ez13 => ?_)
        clear ez13
        refine jT.putI 14 0 oh2 rfl kp0 (by decide) rfl rfl rfl (Or.inl rfl) (by show (-2147483648) ≤ z13; omega) (by show z13 ≤ 2147483647; omega) (fun h14 oh14 wh14 uh14 => ?_)
        refine jT.iinc rfl rfl (fun z15 rz15 ez15 => ?_)
        replace ez15 := ez15 ⟨by omega, by omega⟩
        refine mj_T.eq (loc2 := [some (.ref p0), some (.int (jn z15))]) ?_ rfl rfl rfl rfl
        refine mj_T.pl rfl rfl rfl rfl ?_
        exact ih5 ((2147483647 - z15 : Int).toNat) (by omega) z15 h14 rz15 oh14 (by omega) rfl
  exact t2_3 _ 0 h ⟨by decide, by decide⟩ o (by omega) rfl
-- PolyRegisters$Reader.takes(C)Z
theorem jc_57 {D n : Nat} {tm : Int} {h g : mj_H} {K L : Nat → Nat} {R : Nat → Nat → Nat} {p0 : Nat} {p1 : Int} (ty : jTY K L R) (hg : g.length ≤ n) (o : jO K L R g n tm h) (kp0 : K p0 = 14) (rp1 : -2147483648 ≤ p1 ∧ p1 ≤ 2147483647) : mj_Ok (D + 3) 57 [.ref p0, .int (jn p1)] h (jQ K L R g n tm [] (jVi 0 1)) := by
  refine mj_Ok.of (M := mj_m57) (loc := [some (.ref p0), some (.int (jn p1))]) rfl rfl rfl ?_
  refine mj_T.pl rfl rfl rfl rfl ?_
  refine jT.call rfl rfl (Nat.le_of_ble_eq_true rfl) (Nat.le_of_ble_eq_true rfl) (jrv_of o kp0 (by decide) rfl (by decide) rfl _) rfl (mj_Ok.up (Nat.add_le_add_left (by decide) D) (jc_56 (D := D) ty hg o kp0)) rfl rfl (fun v1 h2 qv1 oh2 => ?_)
  obtain rfl : v1 = none := qv1
  refine mj_T.eq (pc2 := 4) (st2 := []) ?_ rfl rfl rfl rfl
  refine mj_T.pl rfl rfl rfl rfl ?_
  refine jT.getT oh2 rfl kp0 (fun b3 kb3 => ?_)
  refine mj_T.pl rfl rfl rfl rfl ?_
  refine jT.getI 14 0 oh2 rfl kp0 (by decide) rfl rfl rfl (fun z4 (az4 : (-2147483648) ≤ z4) (bz4 : z4 ≤ 2147483647) fz4 => ?_)
  have rz4 : -2147483648 ≤ z4 ∧ z4 ≤ 2147483647 := ⟨by omega, by omega⟩
  refine jT.callp rfl rfl (Nat.le_of_ble_eq_true rfl) (Nat.le_of_ble_eq_true rfl) (jrv_ofE oh2 kb3 (by decide) rfl _) rfl (mj_Ok.up (Nat.add_le_add_left (by decide) D) (jc_79 (D := D) ty hg oh2 kb3 rz4)) rfl rfl (fun v5 qv5 => ?_)
  obtain ⟨z6, az6, bz6, rfl⟩ := qv5
  have rz6 : -2147483648 ≤ z6 ∧ z6 ≤ 2147483647 := ⟨by omega, by omega⟩
  refine mj_T.eq (pc2 := 15) (st2 := [.int (jn z6)]) ?_ rfl rfl rfl rfl
  refine mj_T.pl rfl rfl rfl rfl ?_
  refine jT.icmp rfl rz6 rp1 (fun c16 => ?_) (fun c16 => ?_)
  · have c16 := of_decide_eq_true c16
    iterate 2 refine mj_T.pl rfl rfl rfl rfl ?_
    refine jT.getK 14 0 oh2 rfl kp0 (by decide) rfl rfl rfl fz4.symm ?_
    refine mj_T.pl rfl rfl rfl rfl ?_
    refine jT.iadd rfl (fun z7 rz7 ez7 => ?_)
    clear ez7
    refine jT.putI 14 0 oh2 rfl kp0 (by decide) rfl rfl rfl (Or.inl rfl) (by show (-2147483648) ≤ z7; omega) (by show z7 ≤ 2147483647; omega) (fun h8 oh8 wh8 uh8 => ?_)
    refine mj_T.pl rfl rfl rfl rfl ?_
    exact jT.retb oh8 rfl rfl (by omega) (by omega)
  · have c16 := of_decide_eq_false c16
    refine mj_T.pl rfl rfl rfl rfl ?_
    exact jT.retb oh2 rfl rfl (by omega) (by omega)
-- PolyRegisters$Reader.readNumber()J
theorem jc_54 {D n : Nat} {tm : Int} {h g : mj_H} {K L : Nat → Nat} {R : Nat → Nat → Nat} {p0 : Nat} (ty : jTY K L R) (hg : g.length ≤ n) (o : jO K L R g n tm h) (kp0 : K p0 = 14) : mj_Ok (D + 2) 54 [.ref p0] h (jQ K L R g n tm [] jVl) := by
  refine mj_Ok.of (M := mj_m54) (loc := [some (.ref p0), none, none, none, none]) rfl rfl rfl ?_
  refine mj_T.pl rfl rfl rfl rfl ?_
  refine jT.getI 14 0 o rfl kp0 (by decide) rfl rfl rfl (fun z1 (az1 : (-2147483648) ≤ z1) (bz1 : z1 ≤ 2147483647) fz1 => ?_)
  have rz1 : -2147483648 ≤ z1 ∧ z1 ≤ 2147483647 := ⟨by omega, by omega⟩
  refine mj_T.pl (loc' := [some (.ref p0), some (.int (jn z1)), none, none, none]) rfl rfl rfl rfl ?_
  refine jT.lc 0 rfl rfl ?_
  refine mj_T.pl (loc' := [some (.ref p0), some (.int (jn z1)), some (.long (jl ((0 : Nat) : Int))), none, none]) rfl rfl rfl rfl ?_
  refine mj_T.pl rfl rfl rfl rfl ?_
  refine mj_T.pl (loc' := [some (.ref p0), some (.int (jn z1)), some (.long (jl ((0 : Nat) : Int))), none, some (.int (jn 0))]) rfl rfl rfl rfl ?_
  have t10_5 : ∀ (k6 : Nat) (y2 : Int) (x3 : Int) (h4 : mj_H), (jR y2) → (-2147483648 ≤ x3 ∧ x3 ≤ 2147483647) → (jO K L R g n tm h4) → (0 ≤ x3) → (2147483647 - x3 : Int).toNat = k6 → mj_T (D + 1) mj_m54 10 [some (.ref p0), some (.int (jn z1)), some (.long (jl y2)), none, some (.int (jn x3))] [] h4 (jQ K L R g n tm [] jVl) := by
    refine jInd (fun k6 ih7 => ?_)
    intro y2 x3 h4 jy2 rx3 oh4 ix3 hm8
    refine mj_T.pl rfl rfl rfl rfl ?_
    refine mj_T.pl rfl rfl rfl rfl ?_
    refine jT.getT oh4 rfl kp0 (fun b9 kb9 => ?_)
    refine jT.getE oh4 rfl kb9 (fun z10 (az10 : 0 ≤ z10) (bz10 : z10 ≤ 340) fz10 => ?_)
    have rz10 : -2147483648 ≤ z10 ∧ z10 ≤ 2147483647 := ⟨by omega, by omega⟩
    have t78_11 : mj_T (D + 1) mj_m54 78 [some (.ref p0), some (.int (jn z1)), some (.long (jl y2)), none, some (.int (jn x3))] [] h4 (jQ K L R g n tm [] jVl) := by
      refine mj_T.pl rfl rfl rfl rfl ?_
      refine jT.getI 14 0 oh4 rfl kp0 (by decide) rfl rfl rfl (fun z12 (az12 : (-2147483648) ≤ z12) (bz12 : z12 ≤ 2147483647) fz12 => ?_)
      have rz12 : -2147483648 ≤ z12 ∧ z12 ≤ 2147483647 := ⟨by omega, by omega⟩
      refine mj_T.pl rfl rfl rfl rfl ?_
      refine jT.isub rfl (fun z13 rz13 ez13 => ?_)
      clear ez13
      refine mj_T.pl rfl rfl rfl rfl ?_
      refine jT.icmp rfl rz13 ⟨by decide, by decide⟩ (fun c86 => ?_) (fun c86 => ?_)
      · have c86 := of_decide_eq_true c86
        refine mj_T.pl rfl rfl rfl rfl ?_
        exact jT.ret oh4 rfl rfl rfl ⟨y2, jy2, rfl⟩
      · have c86 := of_decide_eq_false c86
        iterate 2 refine mj_T.pl rfl rfl rfl rfl ?_
        refine jT.putI 14 0 oh4 rfl kp0 (by decide) rfl rfl rfl (Or.inl rfl) (by show (-2147483648) ≤ z1; omega) (by show z1 ≤ 2147483647; omega) (fun h14 oh14 wh14 uh14 => ?_)
        refine jT.lc 0 rfl rfl ?_
        exact jT.ret oh14 rfl rfl rfl ⟨((0 : Nat) : Int), ⟨by decide, by decide⟩, rfl⟩
    refine jT.icmp rfl rx3 rz10 (fun c19 => ?_) (fun c19 => ?_)
    · have c19 := of_decide_eq_true c19
      exact t78_11 
    · have c19 := of_decide_eq_false c19
      refine mj_T.pl rfl rfl rfl rfl ?_
      refine jT.getT oh4 rfl kp0 (fun b15 kb15 => ?_)
      refine mj_T.pl rfl rfl rfl rfl ?_
      refine jT.getI 14 0 oh4 rfl kp0 (by decide) rfl rfl rfl (fun z16 (az16 : (-2147483648) ≤ z16) (bz16 : z16 ≤ 2147483647) fz16 => ?_)
      have rz16 : -2147483648 ≤ z16 ∧ z16 ≤ 2147483647 := ⟨by omega, by omega⟩
      refine jT.callp rfl rfl (Nat.le_of_ble_eq_true rfl) (Nat.le_of_ble_eq_true rfl) (jrv_ofE oh4 kb15 (by decide) rfl _) rfl (mj_Ok.up (Nat.add_le_add_left (by decide) D) (jc_79 (D := D) ty hg oh4 kb15 rz16)) rfl rfl (fun v17 qv17 => ?_)
      obtain ⟨z18, az18, bz18, rfl⟩ := qv17
      have rz18 : -2147483648 ≤ z18 ∧ z18 ≤ 2147483647 := ⟨by omega, by omega⟩
      refine mj_T.eq (pc2 := 33) (st2 := [.int (jn z18)]) ?_ rfl rfl rfl rfl
      refine jT.callp rfl rfl (Nat.le_of_ble_eq_true rfl) (Nat.le_of_ble_eq_true rfl) rfl rfl (mj_Ok.up (Nat.add_le_add_left (by decide) D) (jc_55 (D := D) ty hg oh4 rz18)) rfl rfl (fun v19 qv19 => ?_)
      obtain ⟨z20, az20, bz20, rfl⟩ := qv19
      have rz20 : -2147483648 ≤ z20 ∧ z20 ≤ 2147483647 := ⟨by omega, by omega⟩
      refine mj_T.eq (pc2 := 36) (st2 := [.int (jn z20)]) ?_ rfl rfl rfl rfl
      refine jT.if0 rfl rz20 (fun c36 => ?_) (fun c36 => ?_)
      · have c36 := of_decide_eq_true c36
        exact t78_11 
      · have c36 := of_decide_eq_false c36
        refine mj_T.pl rfl rfl rfl rfl ?_
        refine jT.ldcL rfl ?_
        refine jT.lmul rfl (fun z21 jz21 _ => ?_)
        refine mj_T.pl rfl rfl rfl rfl ?_
        refine jT.getT oh4 rfl kp0 (fun b22 kb22 => ?_)
        refine mj_T.pl rfl rfl rfl rfl ?_
        refine jT.getK 14 0 oh4 rfl kp0 (by decide) rfl rfl rfl fz16.symm ?_
        refine jT.callp rfl rfl (Nat.le_of_ble_eq_true rfl) (Nat.le_of_ble_eq_true rfl) (jrv_ofE oh4 kb22 (by decide) rfl _) rfl (mj_Ok.up (Nat.add_le_add_left (by decide) D) (jc_79 (D := D) ty hg oh4 kb22 rz16)) rfl rfl (fun v23 qv23 => ?_)
        obtain ⟨z24, az24, bz24, rfl⟩ := qv23
        have rz24 : -2147483648 ≤ z24 ∧ z24 ≤ 2147483647 := ⟨by omega, by omega⟩
        refine mj_T.eq (pc2 := 55) (st2 := [.int (jn z24), .long (jl z21)]) ?_ rfl rfl rfl rfl
        refine jT.i2l rfl rz24 ?_
        have j25 : jR z24 := ⟨by omega, by omega⟩
        refine jT.ladd rfl (fun z26 jz26 _ => ?_)
        refine jT.ldcL rfl ?_
        refine jT.lsub rfl (fun z27 jz27 _ => ?_)
        refine mj_T.pl (loc' := [some (.ref p0), some (.int (jn z1)), some (.long (jl z27)), none, some (.int (jn x3))]) rfl rfl rfl rfl ?_
        iterate 2 refine mj_T.pl rfl rfl rfl rfl ?_
        refine jT.getK 14 0 oh4 rfl kp0 (by decide) rfl rfl rfl fz16.symm ?_
        refine mj_T.pl rfl rfl rfl rfl ?_
        refine jT.iadd rfl (fun z28 rz28 ez28 => ?_)
        clear ez28
        refine jT.putI 14 0 oh4 rfl kp0 (by decide) rfl rfl rfl (Or.inl rfl) (by show (-2147483648) ≤ z28; omega) (by show z28 ≤ 2147483647; omega) (fun h29 oh29 wh29 uh29 => ?_)
        refine jT.iinc rfl rfl (fun z30 rz30 ez30 => ?_)
        replace ez30 := ez30 ⟨by omega, by omega⟩
        refine mj_T.eq (loc2 := [some (.ref p0), some (.int (jn z1)), some (.long (jl z27)), none, some (.int (jn z30))]) ?_ rfl rfl rfl rfl
        refine mj_T.pl rfl rfl rfl rfl ?_
        exact ih7 ((2147483647 - z30 : Int).toNat) (by omega) z27 z30 h29 jz27 rz30 oh29 (by omega) rfl
  exact t10_5 _ ((0 : Nat) : Int) 0 h ⟨by decide, by decide⟩ ⟨by decide, by decide⟩ o (by omega) rfl
-- PolyRegisters$Reader.readExponent()I
theorem jc_53 {D n : Nat} {tm : Int} {h g : mj_H} {K L : Nat → Nat} {R : Nat → Nat → Nat} {p0 : Nat} (ty : jTY K L R) (hg : g.length ≤ n) (o : jO K L R g n tm h) (kp0 : K p0 = 14) : mj_Ok (D + 3) 53 [.ref p0] h (jQ K L R g n tm [] (jVi (-2147483648) 2147483647)) := by
  refine mj_Ok.of (M := mj_m53) (loc := [some (.ref p0), none, none, none]) rfl rfl rfl ?_
  refine mj_T.pl rfl rfl rfl rfl ?_
  refine jT.call rfl rfl (Nat.le_of_ble_eq_true rfl) (Nat.le_of_ble_eq_true rfl) (jrv_of o kp0 (by decide) rfl (by decide) rfl _) rfl (mj_Ok.up (Nat.add_le_add_left (by decide) D) (jc_56 (D := D) ty hg o kp0)) rfl rfl (fun v1 h2 qv1 oh2 => ?_)
  obtain rfl : v1 = none := qv1
  refine mj_T.eq (pc2 := 4) (st2 := []) ?_ rfl rfl rfl rfl
  refine mj_T.pl rfl rfl rfl rfl ?_
  refine jT.getI 14 0 oh2 rfl kp0 (by decide) rfl rfl rfl (fun z3 (az3 : (-2147483648) ≤ z3) (bz3 : z3 ≤ 2147483647) fz3 => ?_)
  have rz3 : -2147483648 ≤ z3 ∧ z3 ≤ 2147483647 := ⟨by omega, by omega⟩
  refine mj_T.pl (loc' := [some (.ref p0), some (.int (jn z3)), none, none]) rfl rfl rfl rfl ?_
  refine mj_T.pl rfl rfl rfl rfl ?_
  refine jT.getT oh2 rfl kp0 (fun b4 kb4 => ?_)
  refine mj_T.pl rfl rfl rfl rfl ?_
  refine jT.getK 14 0 oh2 rfl kp0 (by decide) rfl rfl rfl fz3.symm ?_
  refine jT.callp rfl rfl (Nat.le_of_ble_eq_true rfl) (Nat.le_of_ble_eq_true rfl) (jrv_ofE oh2 kb4 (by decide) rfl _) rfl (mj_Ok.up (Nat.add_le_add_left (by decide) D) (jc_79 (D := D) ty hg oh2 kb4 rz3)) rfl rfl (fun v5 qv5 => ?_)
  obtain ⟨z6, az6, bz6, rfl⟩ := qv5
  have rz6 : -2147483648 ≤ z6 ∧ z6 ≤ 2147483647 := ⟨by omega, by omega⟩
  refine mj_T.eq (pc2 := 20) (st2 := [.int (jn z6)]) ?_ rfl rfl rfl rfl
  refine jT.callp rfl rfl (Nat.le_of_ble_eq_true rfl) (Nat.le_of_ble_eq_true rfl) rfl rfl (mj_Ok.up (Nat.add_le_add_left (by decide) D) (jc_55 (D := D) ty hg oh2 rz6)) rfl rfl (fun v7 qv7 => ?_)
  obtain ⟨z8, az8, bz8, rfl⟩ := qv7
  have rz8 : -2147483648 ≤ z8 ∧ z8 ≤ 2147483647 := ⟨by omega, by omega⟩
  refine mj_T.eq (pc2 := 23) (st2 := [.int (jn z8)]) ?_ rfl rfl rfl rfl
  refine jT.if0 rfl rz8 (fun c23 => ?_) (fun c23 => ?_)
  · have c23 := jne1 c23
    refine mj_T.pl rfl rfl rfl rfl ?_
    refine jT.call rfl rfl (Nat.le_of_ble_eq_true rfl) (Nat.le_of_ble_eq_true rfl) (jrv_of oh2 kp0 (by decide) rfl (by decide) rfl _) rfl (mj_Ok.up (Nat.add_le_add_left (by decide) D) (jc_54 (D := D) ty hg oh2 kp0)) rfl rfl (fun v9 h10 qv9 oh10 => ?_)
    obtain ⟨z11, jz11, rfl⟩ := qv9
    refine mj_T.eq (pc2 := 40) (st2 := [.long (jl z11)]) ?_ rfl rfl rfl rfl
    refine mj_T.pl (loc' := [some (.ref p0), some (.int (jn z3)), some (.long (jl z11)), none]) rfl rfl rfl rfl ?_
    refine mj_T.pl rfl rfl rfl rfl ?_
    refine jT.ldcL rfl ?_
    refine mj_T.lif rfl rfl jz11 ⟨by decide, by decide⟩ (fun c45 => ?_) (fun c45 => ?_)
    · have c45 := of_decide_eq_true c45
      refine mj_T.pl rfl rfl rfl rfl ?_
      refine jT.l2i rfl (fun z12 rz12 _ => ?_)
      exact jT.ret oh10 rfl rfl rfl ⟨z12, by omega, by omega, rfl⟩
    · have c45 := of_decide_eq_false c45
      iterate 2 refine mj_T.pl rfl rfl rfl rfl ?_
      refine jT.putI 14 0 oh10 rfl kp0 (by decide) rfl rfl rfl (Or.inl rfl) (by show (-2147483648) ≤ z3; omega) (by show z3 ≤ 2147483647; omega) (fun h13 oh13 wh13 uh13 => ?_)
      refine mj_T.pl rfl rfl rfl rfl ?_
      exact jT.ret oh13 rfl rfl rfl ⟨(-1), by omega, by omega, rfl⟩
  · have c23 := jne2 c23
    iterate 2 refine mj_T.pl rfl rfl rfl rfl ?_
    refine jT.getK 14 0 oh2 rfl kp0 (by decide) rfl rfl rfl fz3.symm ?_
    refine jT.putI 14 0 oh2 rfl kp0 (by decide) rfl rfl rfl (Or.inl rfl) (by show (-2147483648) ≤ z3; omega) (by show z3 ≤ 2147483647; omega) (fun h14 oh14 wh14 uh14 => ?_)
    refine mj_T.pl rfl rfl rfl rfl ?_
    exact jT.ret oh14 rfl rfl rfl ⟨(-1), by omega, by omega, rfl⟩
-- PolyRegisters$Reader.rowAt([[JI)[J
theorem jc_48 {D n : Nat} {tm : Int} {h g : mj_H} {K L : Nat → Nat} {R : Nat → Nat → Nat} {p0 : Nat} {p1 : Int} (ty : jTY K L R) (hg : g.length ≤ n) (o : jO K L R g n tm h) (kp0 : K p0 = 6) (rp1 : -2147483648 ≤ p1 ∧ p1 ≤ 2147483647) : mj_Ok (D + 1) 48 [.ref p0, .int (jn p1)] h (jQp K L R g n tm h [] (jVr K 2)) := by
  refine mj_Ok.of (M := mj_m48) (loc := [some (.ref p0), some (.int (jn p1))]) rfl rfl rfl ?_
  iterate 2 refine mj_T.pl rfl rfl rfl rfl ?_
  refine jT.if0 rfl rp1 (fun c2 => ?_) (fun c2 => ?_)
  · have c2 := of_decide_eq_true c2
    refine mj_T.pl rfl rfl rfl rfl ?_
    have l1 : 6 ≤ (L p0 : Int) ∧ (L p0 : Int) ≤ 9 := jlen 6 ty kp0 (by decide) (by decide)
    refine jT.aald 6 2 ty o rfl kp0 (by decide) (by decide) rfl ⟨by decide, by decide⟩ ⟨by omega, by omega⟩ (fun k2 => ?_)
    exact jT.retp rfl rfl rfl ⟨(R p0 (0 : Int).toNat), k2, rfl⟩
  · have c2 := of_decide_eq_false c2
    iterate 2 refine mj_T.pl rfl rfl rfl rfl ?_
    refine jT.alen 6 ty o rfl kp0 (by decide) (by decide) (fun z3 ez3 (az3 : 6 ≤ z3) (bz3 : z3 ≤ 9) => ?_)
    have rz3 : -2147483648 ≤ z3 ∧ z3 ≤ 2147483647 := ⟨by omega, by omega⟩
    refine jT.icmp rfl rp1 rz3 (fun c8 => ?_) (fun c8 => ?_)
    · have c8 := of_decide_eq_true c8
      refine mj_T.pl rfl rfl rfl rfl ?_
      refine jT.aald 6 2 ty o rfl kp0 (by decide) (by decide) rfl ⟨by decide, by decide⟩ ⟨by omega, by omega⟩ (fun k4 => ?_)
      exact jT.retp rfl rfl rfl ⟨(R p0 (0 : Int).toNat), k4, rfl⟩
    · have c8 := of_decide_eq_false c8
      iterate 2 refine mj_T.pl rfl rfl rfl rfl ?_
      refine jT.aald 6 2 ty o rfl kp0 (by decide) (by decide) rfl rp1 ⟨by omega, by omega⟩ (fun k5 => ?_)
      exact jT.retp rfl rfl rfl ⟨(R p0 (p1 : Int).toNat), k5, rfl⟩
-- PolyRegisters$Reader.answer()[J
theorem jc_47 {D n : Nat} {tm : Int} {h g : mj_H} {K L : Nat → Nat} {R : Nat → Nat → Nat} {p0 : Nat} (ty : jTY K L R) (hg : g.length ≤ n) (o : jO K L R g n tm h) (kp0 : K p0 = 14) : mj_Ok (D + 1) 47 [.ref p0] h (jQp K L R g n tm h [] (jVr K 2)) := by
  refine mj_Ok.of (M := mj_m47) (loc := [some (.ref p0)]) rfl rfl rfl ?_
  refine mj_T.pl rfl rfl rfl rfl ?_
  refine jT.getR 14 106 6 ty o rfl kp0 (by decide) rfl rfl rfl (fun k1 => ?_)
  refine mj_T.pl rfl rfl rfl rfl ?_
  have l2 : 6 ≤ (L (R p0 5) : Int) ∧ (L (R p0 5) : Int) ≤ 9 := jlen 6 ty k1 (by decide) (by decide)
  refine jT.aald 6 2 ty o rfl k1 (by decide) (by decide) rfl ⟨by decide, by decide⟩ ⟨by omega, by omega⟩ (fun k3 => ?_)
  exact jT.retp rfl rfl rfl ⟨(R (R p0 5) (0 : Int).toNat), k3, rfl⟩
-- PolyRegisters$Reader.check(Z[J)V
theorem jc_51 {D n : Nat} {tm : Int} {h g : mj_H} {K L : Nat → Nat} {R : Nat → Nat → Nat} {p0 : Nat} {p1 : Int} {p2 : Nat} (ty : jTY K L R) (hg : g.length ≤ n) (o : jO K L R g n tm h) (kp0 : K p0 = 14) (ap1 : 0 ≤ p1 ∧ p1 ≤ 1) (kp2 : K p2 = 2) : mj_Ok (D + 2) 51 [.ref p0, .int (jn p1), .ref p2] h (jQ K L R g n tm [] jV0) := by
  have rp1 : -2147483648 ≤ p1 ∧ p1 ≤ 2147483647 := ⟨by omega, by omega⟩
  refine mj_Ok.of (M := mj_m51) (loc := [some (.ref p0), some (.int (jn p1)), some (.ref p2)]) rfl rfl rfl ?_
  refine mj_T.pl rfl rfl rfl rfl ?_
  refine jT.if0 rfl rp1 (fun c1 => ?_) (fun c1 => ?_)
  · have c1 := jne1 c1
    exact jT.ret o rfl rfl rfl rfl
  · have c1 := jne2 c1
    iterate 2 refine mj_T.pl rfl rfl rfl rfl ?_
    refine jT.putI 14 2 o rfl kp0 (by decide) rfl rfl rfl (Or.inr ⟨rfl, rfl⟩) (by show 0 ≤ 1; omega) (by show 1 ≤ 1; omega) (fun h1 oh1 wh1 uh1 => ?_)
    refine mj_T.pl rfl rfl rfl rfl ?_
    refine jT.call rfl rfl (Nat.le_of_ble_eq_true rfl) (Nat.le_of_ble_eq_true rfl) rfl rfl (mj_Ok.up (Nat.add_le_add_left (by decide) D) (jc_165 (D := D) ty hg oh1 kp2)) rfl rfl (fun v2 h3 qv2 oh3 => ?_)
    obtain rfl : v2 = none := qv2
    refine mj_T.eq (pc2 := 13) (st2 := []) ?_ rfl rfl rfl rfl
    exact jT.ret oh3 rfl rfl rfl rfl
/-! The class by kinds: its Reader. -/
-- PolyRegisters$Reader.readFactor(I)I
theorem jc_52x {D n : Nat} {tm : Int} {h g : mj_H} {K L : Nat → Nat} {R : Nat → Nat → Nat} {p0 : Nat} {p1 : Int} (ty : jTY K L R) (hg : g.length ≤ n) (o : jO K L R g n tm h) (kp0 : K p0 = 14) (rp1 : -2147483648 ≤ p1 ∧ p1 ≤ 2147483647) (hrec : ∀ (z : Int) (h1 : mj_H), p1 < 8 → z = p1 + 1 → jO K L R g n tm h1 → mj_Ok D 49 [.ref p0, .int (jn z)] h1 (jQ K L R g n tm [] jV0)) : mj_Ok (D + 4) 52 [.ref p0, .int (jn p1)] h (jQ K L R g n tm [] (jVi (-2147483648) 2147483647)) := by
  refine mj_Ok.of (M := mj_m52) (loc := [some (.ref p0), some (.int (jn p1))]) rfl rfl rfl ?_
  refine mj_T.pl rfl rfl rfl rfl ?_
  refine jT.getR 14 102 2 ty o rfl kp0 (by decide) rfl rfl rfl (fun k1 => ?_)
  refine jT.call rfl rfl (Nat.le_of_ble_eq_true rfl) (Nat.le_of_ble_eq_true rfl) rfl rfl (mj_Ok.up (Nat.add_le_add_left (by decide) D) (jc_165 (D := D) ty hg o k1)) rfl rfl (fun v2 h3 qv2 oh3 => ?_)
  obtain rfl : v2 = none := qv2
  refine mj_T.eq (pc2 := 7) (st2 := []) ?_ rfl rfl rfl rfl
  refine mj_T.pl rfl rfl rfl rfl ?_
  refine jT.call rfl rfl (Nat.le_of_ble_eq_true rfl) (Nat.le_of_ble_eq_true rfl) (jrv_of oh3 kp0 (by decide) rfl (by decide) rfl _) rfl (mj_Ok.up (Nat.add_le_add_left (by decide) D) (jc_56 (D := D) ty hg oh3 kp0)) rfl rfl (fun v4 h5 qv4 oh5 => ?_)
  obtain rfl : v4 = none := qv4
  refine mj_T.eq (pc2 := 11) (st2 := []) ?_ rfl rfl rfl rfl
  refine mj_T.pl rfl rfl rfl rfl ?_
  refine jT.getT oh5 rfl kp0 (fun b6 kb6 => ?_)
  refine mj_T.pl rfl rfl rfl rfl ?_
  refine jT.getI 14 0 oh5 rfl kp0 (by decide) rfl rfl rfl (fun z7 (az7 : (-2147483648) ≤ z7) (bz7 : z7 ≤ 2147483647) fz7 => ?_)
  have rz7 : -2147483648 ≤ z7 ∧ z7 ≤ 2147483647 := ⟨by omega, by omega⟩
  refine jT.callp rfl rfl (Nat.le_of_ble_eq_true rfl) (Nat.le_of_ble_eq_true rfl) (jrv_ofE oh5 kb6 (by decide) rfl _) rfl (mj_Ok.up (Nat.add_le_add_left (by decide) D) (jc_79 (D := D) ty hg oh5 kb6 rz7)) rfl rfl (fun v8 qv8 => ?_)
  obtain ⟨z9, az9, bz9, rfl⟩ := qv8
  have rz9 : -2147483648 ≤ z9 ∧ z9 ≤ 2147483647 := ⟨by omega, by omega⟩
  refine mj_T.eq (pc2 := 22) (st2 := [.int (jn z9)]) ?_ rfl rfl rfl rfl
  refine jT.callp rfl rfl (Nat.le_of_ble_eq_true rfl) (Nat.le_of_ble_eq_true rfl) rfl rfl (mj_Ok.up (Nat.add_le_add_left (by decide) D) (jc_55 (D := D) ty hg oh5 rz9)) rfl rfl (fun v10 qv10 => ?_)
  obtain ⟨z11, az11, bz11, rfl⟩ := qv10
  have rz11 : -2147483648 ≤ z11 ∧ z11 ≤ 2147483647 := ⟨by omega, by omega⟩
  refine mj_T.eq (pc2 := 25) (st2 := [.int (jn z11)]) ?_ rfl rfl rfl rfl
  have t135_13 : ∀ (h12 : mj_H), (jO K L R g n tm h12) → mj_T (D + 3) mj_m52 135 [some (.ref p0), some (.int (jn p1))] [] h12 (jQ K L R g n tm [] (jVi (-2147483648) 2147483647)) := by
    intro h12 oh12
    refine mj_T.pl rfl rfl rfl rfl ?_
    refine jT.getI 14 0 oh12 rfl kp0 (by decide) rfl rfl rfl (fun z14 (az14 : (-2147483648) ≤ z14) (bz14 : z14 ≤ 2147483647) fz14 => ?_)
    have rz14 : -2147483648 ≤ z14 ∧ z14 ≤ 2147483647 := ⟨by omega, by omega⟩
    refine mj_T.pl rfl rfl rfl rfl ?_
    refine jT.icmp rfl rz14 ⟨by decide, by decide⟩ (fun c140 => ?_) (fun c140 => ?_)
    · have c140 := jne1 c140
      refine mj_T.pl rfl rfl rfl rfl ?_
      exact jT.ret oh12 rfl rfl rfl ⟨(-1), by omega, by omega, rfl⟩
    · have c140 := jne2 c140
      iterate 2 refine mj_T.pl rfl rfl rfl rfl ?_
      refine jT.call rfl rfl (Nat.le_of_ble_eq_true rfl) (Nat.le_of_ble_eq_true rfl) (jrv_of oh12 kp0 (by decide) rfl (by decide) rfl _) rfl (mj_Ok.up (Nat.add_le_add_left (by decide) D) (jc_57 (D := D) ty hg oh12 kp0 ⟨by decide, by decide⟩)) rfl rfl (fun v15 h16 qv15 oh16 => ?_)
      obtain ⟨z17, az17, bz17, rfl⟩ := qv15
      have rz17 : -2147483648 ≤ z17 ∧ z17 ≤ 2147483647 := ⟨by omega, by omega⟩
      refine mj_T.eq (pc2 := 149) (st2 := [.int (jn z17)]) ?_ rfl rfl rfl rfl
      refine jT.if0 rfl rz17 (fun c149 => ?_) (fun c149 => ?_)
      · have c149 := of_decide_eq_true c149
        refine mj_T.pl rfl rfl rfl rfl ?_
        exact jT.ret oh16 rfl rfl rfl ⟨(-1), by omega, by omega, rfl⟩
      · have c149 := of_decide_eq_false c149
        refine mj_T.pl rfl rfl rfl rfl ?_
        refine jT.call rfl rfl (Nat.le_of_ble_eq_true rfl) (Nat.le_of_ble_eq_true rfl) (jrv_of oh16 kp0 (by decide) rfl (by decide) rfl _) rfl (mj_Ok.up (Nat.add_le_add_left (by decide) D) (jc_53 (D := D) ty hg oh16 kp0)) rfl rfl (fun v18 h19 qv18 oh19 => ?_)
        obtain ⟨z20, az20, bz20, rfl⟩ := qv18
        have rz20 : -2147483648 ≤ z20 ∧ z20 ≤ 2147483647 := ⟨by omega, by omega⟩
        refine mj_T.eq (pc2 := 156) (st2 := [.int (jn z20)]) ?_ rfl rfl rfl rfl
        refine mj_T.pl rfl rfl rfl rfl ?_
        exact jT.ret oh19 rfl rfl rfl ⟨z20, by omega, by omega, rfl⟩
  refine jT.if0 rfl rz11 (fun c25 => ?_) (fun c25 => ?_)
  · have c25 := of_decide_eq_true c25
    iterate 2 refine mj_T.pl rfl rfl rfl rfl ?_
    refine jT.call rfl rfl (Nat.le_of_ble_eq_true rfl) (Nat.le_of_ble_eq_true rfl) (jrv_of oh5 kp0 (by decide) rfl (by decide) rfl _) rfl (mj_Ok.up (Nat.add_le_add_left (by decide) D) (jc_57 (D := D) ty hg oh5 kp0 ⟨by decide, by decide⟩)) rfl rfl (fun v21 h22 qv21 oh22 => ?_)
    obtain ⟨z23, az23, bz23, rfl⟩ := qv21
    have rz23 : -2147483648 ≤ z23 ∧ z23 ≤ 2147483647 := ⟨by omega, by omega⟩
    refine mj_T.eq (pc2 := 47) (st2 := [.int (jn z23)]) ?_ rfl rfl rfl rfl
    refine jT.if0 rfl rz23 (fun c47 => ?_) (fun c47 => ?_)
    · have c47 := of_decide_eq_true c47
      iterate 2 refine mj_T.pl rfl rfl rfl rfl ?_
      have t127_25 : ∀ (h24 : mj_H), (jO K L R g n tm h24) → mj_T (D + 3) mj_m52 127 [some (.ref p0), some (.int (jn p1))] [] h24 (jQ K L R g n tm [] (jVi (-2147483648) 2147483647)) := by
        intro h24 oh24
        iterate 2 refine mj_T.pl rfl rfl rfl rfl ?_
        refine jT.getI 14 0 oh24 rfl kp0 (by decide) rfl rfl rfl (fun z26 (az26 : (-2147483648) ≤ z26) (bz26 : z26 ≤ 2147483647) fz26 => ?_)
        have rz26 : -2147483648 ≤ z26 ∧ z26 ≤ 2147483647 := ⟨by omega, by omega⟩
        refine jT.putI 14 0 oh24 rfl kp0 (by decide) rfl rfl rfl (Or.inl rfl) (by show (-2147483648) ≤ z26; omega) (by show z26 ≤ 2147483647; omega) (fun h27 oh27 wh27 uh27 => ?_)
        exact t135_13 h27 oh27
      refine jT.icmp rfl rp1 ⟨by decide, by decide⟩ (fun c63 => ?_) (fun c63 => ?_)
      · have c63 := of_decide_eq_true c63
        exact t127_25 h22 oh22
      · have c63 := of_decide_eq_false c63
        iterate 2 refine mj_T.pl rfl rfl rfl rfl ?_
        refine jT.call rfl rfl (Nat.le_of_ble_eq_true rfl) (Nat.le_of_ble_eq_true rfl) (jrv_of oh22 kp0 (by decide) rfl (by decide) rfl _) rfl (mj_Ok.up (Nat.add_le_add_left (by decide) D) (jc_57 (D := D) ty hg oh22 kp0 ⟨by decide, by decide⟩)) rfl rfl (fun v28 h29 qv28 oh29 => ?_)
        obtain ⟨z30, az30, bz30, rfl⟩ := qv28
        have rz30 : -2147483648 ≤ z30 ∧ z30 ≤ 2147483647 := ⟨by omega, by omega⟩
        refine mj_T.eq (pc2 := 72) (st2 := [.int (jn z30)]) ?_ rfl rfl rfl rfl
        refine jT.if0 rfl rz30 (fun c72 => ?_) (fun c72 => ?_)
        · have c72 := of_decide_eq_true c72
          exact t127_25 h29 oh29
        · have c72 := of_decide_eq_false c72
          iterate 3 refine mj_T.pl rfl rfl rfl rfl ?_
          refine jT.iadd rfl (fun z31 rz31 ez31 => ?_)
          replace ez31 := ez31 ⟨by omega, by omega⟩
          refine jT.call rfl rfl (Nat.le_of_ble_eq_true rfl) (Nat.le_of_ble_eq_true rfl) (jrv_of oh29 kp0 (by decide) rfl (by decide) rfl _) rfl (mj_Ok.up (Nat.le_add_right D _) (hrec _ _ (by omega) (by omega) oh29)) rfl rfl (fun v32 h33 qv32 oh33 => ?_)
          obtain rfl : v32 = none := qv32
          refine mj_T.eq (pc2 := 82) (st2 := []) ?_ rfl rfl rfl rfl
          refine mj_T.pl rfl rfl rfl rfl ?_
          refine jT.getI 14 0 oh33 rfl kp0 (by decide) rfl rfl rfl (fun z34 (az34 : (-2147483648) ≤ z34) (bz34 : z34 ≤ 2147483647) fz34 => ?_)
          have rz34 : -2147483648 ≤ z34 ∧ z34 ≤ 2147483647 := ⟨by omega, by omega⟩
          refine mj_T.pl rfl rfl rfl rfl ?_
          have t107_36 : ∀ (h35 : mj_H), (jO K L R g n tm h35) → mj_T (D + 3) mj_m52 107 [some (.ref p0), some (.int (jn p1))] [] h35 (jQ K L R g n tm [] (jVi (-2147483648) 2147483647)) := by
            intro h35 oh35
            refine mj_T.pl rfl rfl rfl rfl ?_
            refine jT.getR 14 106 6 ty oh35 rfl kp0 (by decide) rfl rfl rfl (fun k37 => ?_)
            iterate 2 refine mj_T.pl rfl rfl rfl rfl ?_
            refine jT.iadd rfl (fun z38 rz38 ez38 => ?_)
            replace ez38 := ez38 ⟨by omega, by omega⟩
            refine jT.callp rfl rfl (Nat.le_of_ble_eq_true rfl) (Nat.le_of_ble_eq_true rfl) rfl rfl (mj_Ok.up (Nat.add_le_add_left (by decide) D) (jc_48 (D := D) ty hg oh35 k37 rz38)) rfl rfl (fun v39 qv39 => ?_)
            obtain ⟨a40, ka40, rfl⟩ := qv39
            refine mj_T.eq (pc2 := 117) (st2 := [.ref a40]) ?_ rfl rfl rfl rfl
            refine mj_T.pl rfl rfl rfl rfl ?_
            refine jT.getR 14 102 2 ty oh35 rfl kp0 (by decide) rfl rfl rfl (fun k41 => ?_)
            refine jT.call rfl rfl (Nat.le_of_ble_eq_true rfl) (Nat.le_of_ble_eq_true rfl) rfl rfl (mj_Ok.up (Nat.add_le_add_left (by decide) D) (jc_164 (D := D) ty hg oh35 ka40 k41)) rfl rfl (fun v42 h43 qv42 oh43 => ?_)
            obtain rfl : v42 = none := qv42
            refine mj_T.eq (pc2 := 124) (st2 := []) ?_ rfl rfl rfl rfl
            refine mj_T.pl rfl rfl rfl rfl ?_
            exact t135_13 h43 oh43
          refine jT.icmp rfl rz34 ⟨by decide, by decide⟩ (fun c87 => ?_) (fun c87 => ?_)
          · have c87 := jne1 c87
            exact t107_36 h33 oh33
          · have c87 := jne2 c87
            iterate 2 refine mj_T.pl rfl rfl rfl rfl ?_
            refine jT.call rfl rfl (Nat.le_of_ble_eq_true rfl) (Nat.le_of_ble_eq_true rfl) (jrv_of oh33 kp0 (by decide) rfl (by decide) rfl _) rfl (mj_Ok.up (Nat.add_le_add_left (by decide) D) (jc_57 (D := D) ty hg oh33 kp0 ⟨by decide, by decide⟩)) rfl rfl (fun v44 h45 qv44 oh45 => ?_)
            obtain ⟨z46, az46, bz46, rfl⟩ := qv44
            have rz46 : -2147483648 ≤ z46 ∧ z46 ≤ 2147483647 := ⟨by omega, by omega⟩
            refine mj_T.eq (pc2 := 96) (st2 := [.int (jn z46)]) ?_ rfl rfl rfl rfl
            refine jT.if0 rfl rz46 (fun c96 => ?_) (fun c96 => ?_)
            · have c96 := jne1 c96
              exact t107_36 h45 oh45
            · have c96 := jne2 c96
              iterate 2 refine mj_T.pl rfl rfl rfl rfl ?_
              refine jT.getI 14 0 oh45 rfl kp0 (by decide) rfl rfl rfl (fun z47 (az47 : (-2147483648) ≤ z47) (bz47 : z47 ≤ 2147483647) fz47 => ?_)
              have rz47 : -2147483648 ≤ z47 ∧ z47 ≤ 2147483647 := ⟨by omega, by omega⟩
              refine jT.putI 14 0 oh45 rfl kp0 (by decide) rfl rfl rfl (Or.inl rfl) (by show (-2147483648) ≤ z47; omega) (by show z47 ≤ 2147483647; omega) (fun h48 oh48 wh48 uh48 => ?_)
              exact t107_36 h48 oh48
    · have c47 := of_decide_eq_false c47
      refine mj_T.pl rfl rfl rfl rfl ?_
      refine jT.getR 14 102 2 ty oh22 rfl kp0 (by decide) rfl rfl rfl (fun k49 => ?_)
      refine mj_T.pl rfl rfl rfl rfl ?_
      refine jT.lc 1 rfl rfl ?_
      have l50 : 13 ≤ (L (R p0 7) : Int) ∧ (L (R p0 7) : Int) ≤ 13 := jlen 2 ty k49 (by decide) (by decide)
      refine jT.last oh22 rfl k49 ⟨by decide, by decide⟩ ⟨by omega, by omega⟩ ⟨by decide, by decide⟩ (fun h51 oh51 uh51 => ?_)
      refine mj_T.pl rfl rfl rfl rfl ?_
      exact t135_13 h51 oh51
  · have c25 := of_decide_eq_false c25
    refine mj_T.pl rfl rfl rfl rfl ?_
    refine jT.getR 14 102 2 ty oh5 rfl kp0 (by decide) rfl rfl rfl (fun k52 => ?_)
    iterate 2 refine mj_T.pl rfl rfl rfl rfl ?_
    refine jT.call rfl rfl (Nat.le_of_ble_eq_true rfl) (Nat.le_of_ble_eq_true rfl) (jrv_of oh5 kp0 (by decide) rfl (by decide) rfl _) rfl (mj_Ok.up (Nat.add_le_add_left (by decide) D) (jc_54 (D := D) ty hg oh5 kp0)) rfl rfl (fun v53 h54 qv53 oh54 => ?_)
    obtain ⟨z55, jz55, rfl⟩ := qv53
    refine mj_T.eq (pc2 := 37) (st2 := [.long (jl z55), .int (jn 0), .ref (R p0 7)]) ?_ rfl rfl rfl rfl
    have l56 : 13 ≤ (L (R p0 7) : Int) ∧ (L (R p0 7) : Int) ≤ 13 := jlen 2 ty k52 (by decide) (by decide)
    refine jT.last oh54 rfl k52 ⟨by decide, by decide⟩ ⟨by omega, by omega⟩ jz55 (fun h57 oh57 uh57 => ?_)
    refine mj_T.pl rfl rfl rfl rfl ?_
    exact t135_13 h57 oh57
-- PolyRegisters$Reader.readProduct(I)V
theorem jc_50x {D n : Nat} {tm : Int} {h g : mj_H} {K L : Nat → Nat} {R : Nat → Nat → Nat} {p0 : Nat} {p1 : Int} (ty : jTY K L R) (hg : g.length ≤ n) (o : jO K L R g n tm h) (kp0 : K p0 = 14) (rp1 : -2147483648 ≤ p1 ∧ p1 ≤ 2147483647) (hrec : ∀ (z : Int) (h1 : mj_H), p1 < 8 → z = p1 + 1 → jO K L R g n tm h1 → mj_Ok D 49 [.ref p0, .int (jn z)] h1 (jQ K L R g n tm [] jV0)) : mj_Ok (D + 5) 50 [.ref p0, .int (jn p1)] h (jQ K L R g n tm [] jV0) := by
  refine mj_Ok.of (M := mj_m50) (loc := [some (.ref p0), some (.int (jn p1)), none, none, none]) rfl rfl rfl ?_
  refine mj_T.pl rfl rfl rfl rfl ?_
  refine jT.getR 14 106 6 ty o rfl kp0 (by decide) rfl rfl rfl (fun k1 => ?_)
  refine mj_T.pl rfl rfl rfl rfl ?_
  refine jT.callp rfl rfl (Nat.le_of_ble_eq_true rfl) (Nat.le_of_ble_eq_true rfl) rfl rfl (mj_Ok.up (Nat.add_le_add_left (by decide) D) (jc_48 (D := D) ty hg o k1 rp1)) rfl rfl (fun v2 qv2 => ?_)
  obtain ⟨a3, ka3, rfl⟩ := qv2
  refine mj_T.eq (pc2 := 8) (st2 := [.ref a3]) ?_ rfl rfl rfl rfl
  refine mj_T.pl (loc' := [some (.ref p0), some (.int (jn p1)), some (.ref a3), none, none]) rfl rfl rfl rfl ?_
  refine mj_T.pl rfl rfl rfl rfl ?_
  refine jT.call rfl rfl (Nat.le_of_ble_eq_true rfl) (Nat.le_of_ble_eq_true rfl) rfl rfl (mj_Ok.up (Nat.add_le_add_left (by decide) D) (jc_165 (D := D) ty hg o ka3)) rfl rfl (fun v4 h5 qv4 oh5 => ?_)
  obtain rfl : v4 = none := qv4
  refine mj_T.eq (pc2 := 13) (st2 := []) ?_ rfl rfl rfl rfl
  iterate 2 refine mj_T.pl rfl rfl rfl rfl ?_
  refine jT.lc 1 rfl rfl ?_
  have l6 : 13 ≤ (L a3 : Int) ∧ (L a3 : Int) ≤ 13 := jlen 2 ty ka3 (by decide) (by decide)
  refine jT.last oh5 rfl ka3 ⟨by decide, by decide⟩ ⟨by omega, by omega⟩ ⟨by decide, by decide⟩ (fun h7 oh7 uh7 => ?_)
  refine mj_T.pl rfl rfl rfl rfl ?_
  refine mj_T.pl (loc' := [some (.ref p0), some (.int (jn p1)), some (.ref a3), some (.int (jn 0)), none]) rfl rfl rfl rfl ?_
  have t19_11 : ∀ (k12 : Nat) (x8 : Int) (w9 : Option Value) (h10 : mj_H), (-2147483648 ≤ x8 ∧ x8 ≤ 2147483647) → (jO K L R g n tm h10) → (0 ≤ x8) → (2147483647 - x8 : Int).toNat = k12 → mj_T (D + 4) mj_m50 19 [some (.ref p0), some (.int (jn p1)), some (.ref a3), some (.int (jn x8)), w9] [] h10 (jQ K L R g n tm [] jV0) := by
    refine jInd (fun k12 ih13 => ?_)
    intro x8 w9 h10 rx8 oh10 ix8 hm14
    refine mj_T.pl rfl rfl rfl rfl ?_
    refine mj_T.pl rfl rfl rfl rfl ?_
    refine jT.getT oh10 rfl kp0 (fun b15 kb15 => ?_)
    refine jT.getE oh10 rfl kb15 (fun z16 (az16 : 0 ≤ z16) (bz16 : z16 ≤ 340) fz16 => ?_)
    have rz16 : -2147483648 ≤ z16 ∧ z16 ≤ 2147483647 := ⟨by omega, by omega⟩
    refine jT.icmp rfl rx8 rz16 (fun c27 => ?_) (fun c27 => ?_)
    · have c27 := of_decide_eq_true c27
      exact jT.ret oh10 rfl rfl rfl rfl
    · have c27 := of_decide_eq_false c27
      iterate 2 refine mj_T.pl rfl rfl rfl rfl ?_
      refine jT.call rfl rfl (Nat.le_of_ble_eq_true rfl) (Nat.le_of_ble_eq_true rfl) (jrv_of oh10 kp0 (by decide) rfl (by decide) rfl _) rfl (mj_Ok.up (Nat.add_le_add_left (by decide) D) (jc_52x (D := D) ty hg oh10 kp0 rp1 hrec)) rfl rfl (fun v17 h18 qv17 oh18 => ?_)
      obtain ⟨z19, az19, bz19, rfl⟩ := qv17
      have rz19 : -2147483648 ≤ z19 ∧ z19 ≤ 2147483647 := ⟨by omega, by omega⟩
      refine mj_T.eq (pc2 := 35) (st2 := [.int (jn z19)]) ?_ rfl rfl rfl rfl
      refine mj_T.pl (loc' := [some (.ref p0), some (.int (jn p1)), some (.ref a3), some (.int (jn x8)), some (.int (jn z19))]) rfl rfl rfl rfl ?_
      refine mj_T.pl rfl rfl rfl rfl ?_
      refine jT.getI 14 0 oh18 rfl kp0 (by decide) rfl rfl rfl (fun z20 (az20 : (-2147483648) ≤ z20) (bz20 : z20 ≤ 2147483647) fz20 => ?_)
      have rz20 : -2147483648 ≤ z20 ∧ z20 ≤ 2147483647 := ⟨by omega, by omega⟩
      refine mj_T.pl rfl rfl rfl rfl ?_
      refine jT.icmp rfl rz20 ⟨by decide, by decide⟩ (fun c42 => ?_) (fun c42 => ?_)
      · have c42 := of_decide_eq_true c42
        iterate 2 refine mj_T.pl rfl rfl rfl rfl ?_
        have t77_22 : ∀ (h21 : mj_H), (jO K L R g n tm h21) → mj_T (D + 4) mj_m50 77 [some (.ref p0), some (.int (jn p1)), some (.ref a3), some (.int (jn x8)), some (.int (jn z19))] [] h21 (jQ K L R g n tm [] jV0) := by
          intro h21 oh21
          iterate 2 refine mj_T.pl rfl rfl rfl rfl ?_
          refine jT.getR 14 111 11 ty oh21 rfl kp0 (by decide) rfl rfl rfl (fun k23 => ?_)
          iterate 2 refine mj_T.pl rfl rfl rfl rfl ?_
          refine jT.getR 14 102 2 ty oh21 rfl kp0 (by decide) rfl rfl rfl (fun k24 => ?_)
          refine mj_T.pl rfl rfl rfl rfl ?_
          refine jT.call rfl rfl (Nat.le_of_ble_eq_true rfl) (Nat.le_of_ble_eq_true rfl) (jrv_of oh21 k23 (by decide) rfl (by decide) rfl _) rfl (mj_Ok.up (Nat.add_le_add_left (by decide) D) (jc_11 (D := D) ty hg oh21 k23 ka3 k24 ka3)) rfl rfl (fun v25 h26 qv25 oh26 => ?_)
          obtain ⟨z27, az27, bz27, rfl⟩ := qv25
          have rz27 : -2147483648 ≤ z27 ∧ z27 ≤ 2147483647 := ⟨by omega, by omega⟩
          refine mj_T.eq (pc2 := 91) (st2 := [.int (jn z27), .ref p0]) ?_ rfl rfl rfl rfl
          refine mj_T.pl rfl rfl rfl rfl ?_
          refine jT.call rfl rfl (Nat.le_of_ble_eq_true rfl) (Nat.le_of_ble_eq_true rfl) (jrv_of oh26 kp0 (by decide) rfl (by decide) rfl _) rfl (mj_Ok.up (Nat.add_le_add_left (by decide) D) (jc_51 (D := D) ty hg oh26 kp0 ⟨by omega, by omega⟩ ka3)) rfl rfl (fun v28 h29 qv28 oh29 => ?_)
          obtain rfl : v28 = none := qv28
          refine mj_T.eq (pc2 := 95) (st2 := []) ?_ rfl rfl rfl rfl
          iterate 2 refine mj_T.pl rfl rfl rfl rfl ?_
          refine jT.call rfl rfl (Nat.le_of_ble_eq_true rfl) (Nat.le_of_ble_eq_true rfl) (jrv_of oh29 kp0 (by decide) rfl (by decide) rfl _) rfl (mj_Ok.up (Nat.add_le_add_left (by decide) D) (jc_57 (D := D) ty hg oh29 kp0 ⟨by decide, by decide⟩)) rfl rfl (fun v30 h31 qv30 oh31 => ?_)
          obtain ⟨z32, az32, bz32, rfl⟩ := qv30
          have rz32 : -2147483648 ≤ z32 ∧ z32 ≤ 2147483647 := ⟨by omega, by omega⟩
          refine mj_T.eq (pc2 := 101) (st2 := [.int (jn z32)]) ?_ rfl rfl rfl rfl
          refine jT.if0 rfl rz32 (fun c101 => ?_) (fun c101 => ?_)
          · have c101 := jne1 c101
            refine jT.iinc rfl rfl (fun z33 rz33 ez33 => ?_)
            replace ez33 := ez33 ⟨by omega, by omega⟩
            refine mj_T.eq (loc2 := [some (.ref p0), some (.int (jn p1)), some (.ref a3), some (.int (jn z33)), some (.int (jn z19))]) ?_ rfl rfl rfl rfl
            refine mj_T.pl rfl rfl rfl rfl ?_
            exact ih13 ((2147483647 - z33 : Int).toNat) (by omega) z33 (some (.int (jn z19))) h31 rz33 oh31 (by omega) rfl
          · have c101 := jne2 c101
            exact jT.ret oh31 rfl rfl rfl rfl
        refine jT.icmp rfl rz19 ⟨by decide, by decide⟩ (fun c49 => ?_) (fun c49 => ?_)
        · have c49 := of_decide_eq_true c49
          exact t77_22 h18 oh18
        · have c49 := of_decide_eq_false c49
          iterate 2 refine mj_T.pl rfl rfl rfl rfl ?_
          refine jT.getR 14 111 11 ty oh18 rfl kp0 (by decide) rfl rfl rfl (fun k34 => ?_)
          refine mj_T.pl rfl rfl rfl rfl ?_
          refine jT.getR 14 102 2 ty oh18 rfl kp0 (by decide) rfl rfl rfl (fun k35 => ?_)
          iterate 2 refine mj_T.pl rfl rfl rfl rfl ?_
          refine jT.getR 14 102 2 ty oh18 rfl kp0 (by decide) rfl rfl rfl (fun k36 => ?_)
          refine jT.call rfl rfl (Nat.le_of_ble_eq_true rfl) (Nat.le_of_ble_eq_true rfl) (jrv_of oh18 k34 (by decide) rfl (by decide) rfl _) rfl (mj_Ok.up (Nat.add_le_add_left (by decide) D) (jc_12 (D := D) ty hg oh18 k34 k35 rz19 k36)) rfl rfl (fun v37 h38 qv37 oh38 => ?_)
          obtain ⟨z39, az39, bz39, rfl⟩ := qv37
          have rz39 : -2147483648 ≤ z39 ∧ z39 ≤ 2147483647 := ⟨by omega, by omega⟩
          refine mj_T.eq (pc2 := 70) (st2 := [.int (jn z39), .ref p0]) ?_ rfl rfl rfl rfl
          refine mj_T.pl rfl rfl rfl rfl ?_
          refine jT.getR 14 102 2 ty oh38 rfl kp0 (by decide) rfl rfl rfl (fun k40 => ?_)
          refine jT.call rfl rfl (Nat.le_of_ble_eq_true rfl) (Nat.le_of_ble_eq_true rfl) (jrv_of oh38 kp0 (by decide) rfl (by decide) rfl _) rfl (mj_Ok.up (Nat.add_le_add_left (by decide) D) (jc_51 (D := D) ty hg oh38 kp0 ⟨by omega, by omega⟩ k40)) rfl rfl (fun v41 h42 qv41 oh42 => ?_)
          obtain rfl : v41 = none := qv41
          refine mj_T.eq (pc2 := 77) (st2 := []) ?_ rfl rfl rfl rfl
          exact t77_22 h42 oh42
      · have c42 := of_decide_eq_false c42
        exact jT.ret oh18 rfl rfl rfl rfl
  exact t19_11 _ 0 none h7 ⟨by decide, by decide⟩ oh7 (by omega) rfl
-- PolyRegisters$Reader.readSum(I)V
theorem jc_49x {D n : Nat} {tm : Int} {h g : mj_H} {K L : Nat → Nat} {R : Nat → Nat → Nat} {p0 : Nat} {p1 : Int} (ty : jTY K L R) (hg : g.length ≤ n) (o : jO K L R g n tm h) (kp0 : K p0 = 14) (rp1 : -2147483648 ≤ p1 ∧ p1 ≤ 2147483647) (hrec : ∀ (z : Int) (h1 : mj_H), p1 < 8 → z = p1 + 1 → jO K L R g n tm h1 → mj_Ok D 49 [.ref p0, .int (jn z)] h1 (jQ K L R g n tm [] jV0)) : mj_Ok (D + 6) 49 [.ref p0, .int (jn p1)] h (jQ K L R g n tm [] jV0) := by
  refine mj_Ok.of (M := mj_m49) (loc := [some (.ref p0), some (.int (jn p1)), none, none, none, none]) rfl rfl rfl ?_
  refine mj_T.pl rfl rfl rfl rfl ?_
  refine jT.getR 14 106 6 ty o rfl kp0 (by decide) rfl rfl rfl (fun k1 => ?_)
  refine mj_T.pl rfl rfl rfl rfl ?_
  refine jT.callp rfl rfl (Nat.le_of_ble_eq_true rfl) (Nat.le_of_ble_eq_true rfl) rfl rfl (mj_Ok.up (Nat.add_le_add_left (by decide) D) (jc_48 (D := D) ty hg o k1 rp1)) rfl rfl (fun v2 qv2 => ?_)
  obtain ⟨a3, ka3, rfl⟩ := qv2
  refine mj_T.eq (pc2 := 8) (st2 := [.ref a3]) ?_ rfl rfl rfl rfl
  refine mj_T.pl (loc' := [some (.ref p0), some (.int (jn p1)), some (.ref a3), none, none, none]) rfl rfl rfl rfl ?_
  refine mj_T.pl rfl rfl rfl rfl ?_
  refine jT.call rfl rfl (Nat.le_of_ble_eq_true rfl) (Nat.le_of_ble_eq_true rfl) rfl rfl (mj_Ok.up (Nat.add_le_add_left (by decide) D) (jc_165 (D := D) ty hg o ka3)) rfl rfl (fun v4 h5 qv4 oh5 => ?_)
  obtain rfl : v4 = none := qv4
  refine mj_T.eq (pc2 := 13) (st2 := []) ?_ rfl rfl rfl rfl
  iterate 2 refine mj_T.pl rfl rfl rfl rfl ?_
  refine jT.call rfl rfl (Nat.le_of_ble_eq_true rfl) (Nat.le_of_ble_eq_true rfl) (jrv_of oh5 kp0 (by decide) rfl (by decide) rfl _) rfl (mj_Ok.up (Nat.add_le_add_left (by decide) D) (jc_57 (D := D) ty hg oh5 kp0 ⟨by decide, by decide⟩)) rfl rfl (fun v6 h7 qv6 oh7 => ?_)
  obtain ⟨z8, az8, bz8, rfl⟩ := qv6
  have rz8 : -2147483648 ≤ z8 ∧ z8 ≤ 2147483647 := ⟨by omega, by omega⟩
  refine mj_T.eq (pc2 := 19) (st2 := [.int (jn z8)]) ?_ rfl rfl rfl rfl
  refine jT.if0 rfl rz8 (fun c19 => ?_) (fun c19 => ?_)
  · have c19 := of_decide_eq_true c19
    refine mj_T.pl rfl rfl rfl rfl ?_
    refine mj_T.pl (loc' := [some (.ref p0), some (.int (jn p1)), some (.ref a3), some (.int (jn 1)), none, none]) rfl rfl rfl rfl ?_
    refine mj_T.pl rfl rfl rfl rfl ?_
    refine mj_T.pl (loc' := [some (.ref p0), some (.int (jn p1)), some (.ref a3), some (.int (jn 1)), some (.int (jn 0)), none]) rfl rfl rfl rfl ?_
    have t31_13 : ∀ (k14 : Nat) (x9 : Int) (x10 : Int) (w11 : Option Value) (h12 : mj_H), (-2147483648 ≤ x9 ∧ x9 ≤ 2147483647) → (-2147483648 ≤ x10 ∧ x10 ≤ 2147483647) → (jO K L R g n tm h12) → (0 ≤ x10) → (2147483647 - x10 : Int).toNat = k14 → mj_T (D + 5) mj_m49 31 [some (.ref p0), some (.int (jn p1)), some (.ref a3), some (.int (jn x9)), some (.int (jn x10)), w11] [] h12 (jQ K L R g n tm [] jV0) := by
      refine jInd (fun k14 ih15 => ?_)
      intro x9 x10 w11 h12 rx9 rx10 oh12 ix10 hm16
      refine mj_T.pl rfl rfl rfl rfl ?_
      refine mj_T.pl rfl rfl rfl rfl ?_
      refine jT.getT oh12 rfl kp0 (fun b17 kb17 => ?_)
      refine jT.getE oh12 rfl kb17 (fun z18 (az18 : 0 ≤ z18) (bz18 : z18 ≤ 340) fz18 => ?_)
      have rz18 : -2147483648 ≤ z18 ∧ z18 ≤ 2147483647 := ⟨by omega, by omega⟩
      refine jT.icmp rfl rx10 rz18 (fun c40 => ?_) (fun c40 => ?_)
      · have c40 := of_decide_eq_true c40
        exact jT.ret oh12 rfl rfl rfl rfl
      · have c40 := of_decide_eq_false c40
        iterate 2 refine mj_T.pl rfl rfl rfl rfl ?_
        refine jT.call rfl rfl (Nat.le_of_ble_eq_true rfl) (Nat.le_of_ble_eq_true rfl) (jrv_of oh12 kp0 (by decide) rfl (by decide) rfl _) rfl (mj_Ok.up (Nat.add_le_add_left (by decide) D) (jc_50x (D := D) ty hg oh12 kp0 rp1 hrec)) rfl rfl (fun v19 h20 qv19 oh20 => ?_)
        obtain rfl : v19 = none := qv19
        refine mj_T.eq (pc2 := 48) (st2 := []) ?_ rfl rfl rfl rfl
        refine mj_T.pl rfl rfl rfl rfl ?_
        refine jT.getI 14 0 oh20 rfl kp0 (by decide) rfl rfl rfl (fun z21 (az21 : (-2147483648) ≤ z21) (bz21 : z21 ≤ 2147483647) fz21 => ?_)
        have rz21 : -2147483648 ≤ z21 ∧ z21 ≤ 2147483647 := ⟨by omega, by omega⟩
        refine mj_T.pl rfl rfl rfl rfl ?_
        refine jT.icmp rfl rz21 ⟨by decide, by decide⟩ (fun c53 => ?_) (fun c53 => ?_)
        · have c53 := of_decide_eq_true c53
          iterate 3 refine mj_T.pl rfl rfl rfl rfl ?_
          refine jT.getR 14 106 6 ty oh20 rfl kp0 (by decide) rfl rfl rfl (fun k22 => ?_)
          refine mj_T.pl rfl rfl rfl rfl ?_
          refine jT.callp rfl rfl (Nat.le_of_ble_eq_true rfl) (Nat.le_of_ble_eq_true rfl) rfl rfl (mj_Ok.up (Nat.add_le_add_left (by decide) D) (jc_48 (D := D) ty hg oh20 k22 rp1)) rfl rfl (fun v23 qv23 => ?_)
          obtain ⟨a24, ka24, rfl⟩ := qv23
          refine mj_T.eq (pc2 := 67) (st2 := [.ref a24, .ref a3, .ref p0]) ?_ rfl rfl rfl rfl
          iterate 2 refine mj_T.pl rfl rfl rfl rfl ?_
          refine jT.call rfl rfl (Nat.le_of_ble_eq_true rfl) (Nat.le_of_ble_eq_true rfl) rfl rfl (mj_Ok.up (Nat.add_le_add_left (by decide) D) (jc_167 (D := D) ty hg oh20 ka3 ka24 rx9 ka3)) rfl rfl (fun v25 h26 qv25 oh26 => ?_)
          obtain ⟨z27, az27, bz27, rfl⟩ := qv25
          have rz27 : -2147483648 ≤ z27 ∧ z27 ≤ 2147483647 := ⟨by omega, by omega⟩
          refine mj_T.eq (pc2 := 72) (st2 := [.int (jn z27), .ref p0]) ?_ rfl rfl rfl rfl
          refine mj_T.pl rfl rfl rfl rfl ?_
          refine jT.call rfl rfl (Nat.le_of_ble_eq_true rfl) (Nat.le_of_ble_eq_true rfl) (jrv_of oh26 kp0 (by decide) rfl (by decide) rfl _) rfl (mj_Ok.up (Nat.add_le_add_left (by decide) D) (jc_51 (D := D) ty hg oh26 kp0 ⟨by omega, by omega⟩ ka3)) rfl rfl (fun v28 h29 qv28 oh29 => ?_)
          obtain rfl : v28 = none := qv28
          refine mj_T.eq (pc2 := 76) (st2 := []) ?_ rfl rfl rfl rfl
          iterate 2 refine mj_T.pl rfl rfl rfl rfl ?_
          refine jT.call rfl rfl (Nat.le_of_ble_eq_true rfl) (Nat.le_of_ble_eq_true rfl) (jrv_of oh29 kp0 (by decide) rfl (by decide) rfl _) rfl (mj_Ok.up (Nat.add_le_add_left (by decide) D) (jc_57 (D := D) ty hg oh29 kp0 ⟨by decide, by decide⟩)) rfl rfl (fun v30 h31 qv30 oh31 => ?_)
          obtain ⟨z32, az32, bz32, rfl⟩ := qv30
          have rz32 : -2147483648 ≤ z32 ∧ z32 ≤ 2147483647 := ⟨by omega, by omega⟩
          refine mj_T.eq (pc2 := 82) (st2 := [.int (jn z32)]) ?_ rfl rfl rfl rfl
          refine mj_T.pl (loc' := [some (.ref p0), some (.int (jn p1)), some (.ref a3), some (.int (jn x9)), some (.int (jn x10)), some (.int (jn z32))]) rfl rfl rfl rfl ?_
          refine mj_T.pl rfl rfl rfl rfl ?_
          have t99_34 : ∀ (h33 : mj_H), (jO K L R g n tm h33) → mj_T (D + 5) mj_m49 99 [some (.ref p0), some (.int (jn p1)), some (.ref a3), some (.int (jn x9)), some (.int (jn x10)), some (.int (jn z32))] [] h33 (jQ K L R g n tm [] jV0) := by
            intro h33 oh33
            refine mj_T.pl rfl rfl rfl rfl ?_
            refine jT.if0 rfl rz32 (fun c101 => ?_) (fun c101 => ?_)
            · have c101 := of_decide_eq_true c101
              refine mj_T.pl rfl rfl rfl rfl ?_
              refine mj_T.pl (loc' := [some (.ref p0), some (.int (jn p1)), some (.ref a3), some (.int (jn (-1))), some (.int (jn x10)), some (.int (jn z32))]) rfl rfl rfl rfl ?_
              refine jT.iinc rfl rfl (fun z35 rz35 ez35 => ?_)
              replace ez35 := ez35 ⟨by omega, by omega⟩
              refine mj_T.eq (loc2 := [some (.ref p0), some (.int (jn p1)), some (.ref a3), some (.int (jn (-1))), some (.int (jn z35)), some (.int (jn z32))]) ?_ rfl rfl rfl rfl
              refine mj_T.pl rfl rfl rfl rfl ?_
              exact ih15 ((2147483647 - z35 : Int).toNat) (by omega) (-1) z35 (some (.int (jn z32))) h33 ⟨by decide, by decide⟩ rz35 oh33 (by omega) rfl
            · have c101 := of_decide_eq_false c101
              iterate 2 refine mj_T.pl rfl rfl rfl rfl ?_
              refine mj_T.pl (loc' := [some (.ref p0), some (.int (jn p1)), some (.ref a3), some (.int (jn 1)), some (.int (jn x10)), some (.int (jn z32))]) rfl rfl rfl rfl ?_
              refine jT.iinc rfl rfl (fun z36 rz36 ez36 => ?_)
              replace ez36 := ez36 ⟨by omega, by omega⟩
              refine mj_T.eq (loc2 := [some (.ref p0), some (.int (jn p1)), some (.ref a3), some (.int (jn 1)), some (.int (jn z36)), some (.int (jn z32))]) ?_ rfl rfl rfl rfl
              refine mj_T.pl rfl rfl rfl rfl ?_
              exact ih15 ((2147483647 - z36 : Int).toNat) (by omega) 1 z36 (some (.int (jn z32))) h33 ⟨by decide, by decide⟩ rz36 oh33 (by omega) rfl
          refine jT.if0 rfl rz32 (fun c86 => ?_) (fun c86 => ?_)
          · have c86 := jne1 c86
            exact t99_34 h31 oh31
          · have c86 := jne2 c86
            iterate 2 refine mj_T.pl rfl rfl rfl rfl ?_
            refine jT.call rfl rfl (Nat.le_of_ble_eq_true rfl) (Nat.le_of_ble_eq_true rfl) (jrv_of oh31 kp0 (by decide) rfl (by decide) rfl _) rfl (mj_Ok.up (Nat.add_le_add_left (by decide) D) (jc_57 (D := D) ty hg oh31 kp0 ⟨by decide, by decide⟩)) rfl rfl (fun v37 h38 qv37 oh38 => ?_)
            obtain ⟨z39, az39, bz39, rfl⟩ := qv37
            have rz39 : -2147483648 ≤ z39 ∧ z39 ≤ 2147483647 := ⟨by omega, by omega⟩
            refine mj_T.eq (pc2 := 95) (st2 := [.int (jn z39)]) ?_ rfl rfl rfl rfl
            refine jT.if0 rfl rz39 (fun c95 => ?_) (fun c95 => ?_)
            · have c95 := jne1 c95
              exact t99_34 h38 oh38
            · have c95 := jne2 c95
              exact jT.ret oh38 rfl rfl rfl rfl
        · have c53 := of_decide_eq_false c53
          exact jT.ret oh20 rfl rfl rfl rfl
    exact t31_13 _ 1 0 none h7 ⟨by decide, by decide⟩ ⟨by decide, by decide⟩ oh7 (by omega) rfl
  · have c19 := of_decide_eq_false c19
    iterate 2 refine mj_T.pl rfl rfl rfl rfl ?_
    refine mj_T.pl (loc' := [some (.ref p0), some (.int (jn p1)), some (.ref a3), some (.int (jn (-1))), none, none]) rfl rfl rfl rfl ?_
    refine mj_T.pl rfl rfl rfl rfl ?_
    refine mj_T.pl (loc' := [some (.ref p0), some (.int (jn p1)), some (.ref a3), some (.int (jn (-1))), some (.int (jn 0)), none]) rfl rfl rfl rfl ?_
    have t31_44 : ∀ (k45 : Nat) (x40 : Int) (x41 : Int) (w42 : Option Value) (h43 : mj_H), (-2147483648 ≤ x40 ∧ x40 ≤ 2147483647) → (-2147483648 ≤ x41 ∧ x41 ≤ 2147483647) → (jO K L R g n tm h43) → (0 ≤ x41) → (2147483647 - x41 : Int).toNat = k45 → mj_T (D + 5) mj_m49 31 [some (.ref p0), some (.int (jn p1)), some (.ref a3), some (.int (jn x40)), some (.int (jn x41)), w42] [] h43 (jQ K L R g n tm [] jV0) := by
      refine jInd (fun k45 ih46 => ?_)
      intro x40 x41 w42 h43 rx40 rx41 oh43 ix41 hm47
      refine mj_T.pl rfl rfl rfl rfl ?_
      refine mj_T.pl rfl rfl rfl rfl ?_
      refine jT.getT oh43 rfl kp0 (fun b48 kb48 => ?_)
      refine jT.getE oh43 rfl kb48 (fun z49 (az49 : 0 ≤ z49) (bz49 : z49 ≤ 340) fz49 => ?_)
      have rz49 : -2147483648 ≤ z49 ∧ z49 ≤ 2147483647 := ⟨by omega, by omega⟩
      refine jT.icmp rfl rx41 rz49 (fun c40 => ?_) (fun c40 => ?_)
      · have c40 := of_decide_eq_true c40
        exact jT.ret oh43 rfl rfl rfl rfl
      · have c40 := of_decide_eq_false c40
        iterate 2 refine mj_T.pl rfl rfl rfl rfl ?_
        refine jT.call rfl rfl (Nat.le_of_ble_eq_true rfl) (Nat.le_of_ble_eq_true rfl) (jrv_of oh43 kp0 (by decide) rfl (by decide) rfl _) rfl (mj_Ok.up (Nat.add_le_add_left (by decide) D) (jc_50x (D := D) ty hg oh43 kp0 rp1 hrec)) rfl rfl (fun v50 h51 qv50 oh51 => ?_)
        obtain rfl : v50 = none := qv50
        refine mj_T.eq (pc2 := 48) (st2 := []) ?_ rfl rfl rfl rfl
        refine mj_T.pl rfl rfl rfl rfl ?_
        refine jT.getI 14 0 oh51 rfl kp0 (by decide) rfl rfl rfl (fun z52 (az52 : (-2147483648) ≤ z52) (bz52 : z52 ≤ 2147483647) fz52 => ?_)
        have rz52 : -2147483648 ≤ z52 ∧ z52 ≤ 2147483647 := ⟨by omega, by omega⟩
        refine mj_T.pl rfl rfl rfl rfl ?_
        refine jT.icmp rfl rz52 ⟨by decide, by decide⟩ (fun c53 => ?_) (fun c53 => ?_)
        · have c53 := of_decide_eq_true c53
          iterate 3 refine mj_T.pl rfl rfl rfl rfl ?_
          refine jT.getR 14 106 6 ty oh51 rfl kp0 (by decide) rfl rfl rfl (fun k53 => ?_)
          refine mj_T.pl rfl rfl rfl rfl ?_
          refine jT.callp rfl rfl (Nat.le_of_ble_eq_true rfl) (Nat.le_of_ble_eq_true rfl) rfl rfl (mj_Ok.up (Nat.add_le_add_left (by decide) D) (jc_48 (D := D) ty hg oh51 k53 rp1)) rfl rfl (fun v54 qv54 => ?_)
          obtain ⟨a55, ka55, rfl⟩ := qv54
          refine mj_T.eq (pc2 := 67) (st2 := [.ref a55, .ref a3, .ref p0]) ?_ rfl rfl rfl rfl
          iterate 2 refine mj_T.pl rfl rfl rfl rfl ?_
          refine jT.call rfl rfl (Nat.le_of_ble_eq_true rfl) (Nat.le_of_ble_eq_true rfl) rfl rfl (mj_Ok.up (Nat.add_le_add_left (by decide) D) (jc_167 (D := D) ty hg oh51 ka3 ka55 rx40 ka3)) rfl rfl (fun v56 h57 qv56 oh57 => ?_)
          obtain ⟨z58, az58, bz58, rfl⟩ := qv56
          have rz58 : -2147483648 ≤ z58 ∧ z58 ≤ 2147483647 := ⟨by omega, by omega⟩
          refine mj_T.eq (pc2 := 72) (st2 := [.int (jn z58), .ref p0]) ?_ rfl rfl rfl rfl
          refine mj_T.pl rfl rfl rfl rfl ?_
          refine jT.call rfl rfl (Nat.le_of_ble_eq_true rfl) (Nat.le_of_ble_eq_true rfl) (jrv_of oh57 kp0 (by decide) rfl (by decide) rfl _) rfl (mj_Ok.up (Nat.add_le_add_left (by decide) D) (jc_51 (D := D) ty hg oh57 kp0 ⟨by omega, by omega⟩ ka3)) rfl rfl (fun v59 h60 qv59 oh60 => ?_)
          obtain rfl : v59 = none := qv59
          refine mj_T.eq (pc2 := 76) (st2 := []) ?_ rfl rfl rfl rfl
          iterate 2 refine mj_T.pl rfl rfl rfl rfl ?_
          refine jT.call rfl rfl (Nat.le_of_ble_eq_true rfl) (Nat.le_of_ble_eq_true rfl) (jrv_of oh60 kp0 (by decide) rfl (by decide) rfl _) rfl (mj_Ok.up (Nat.add_le_add_left (by decide) D) (jc_57 (D := D) ty hg oh60 kp0 ⟨by decide, by decide⟩)) rfl rfl (fun v61 h62 qv61 oh62 => ?_)
          obtain ⟨z63, az63, bz63, rfl⟩ := qv61
          have rz63 : -2147483648 ≤ z63 ∧ z63 ≤ 2147483647 := ⟨by omega, by omega⟩
          refine mj_T.eq (pc2 := 82) (st2 := [.int (jn z63)]) ?_ rfl rfl rfl rfl
          refine mj_T.pl (loc' := [some (.ref p0), some (.int (jn p1)), some (.ref a3), some (.int (jn x40)), some (.int (jn x41)), some (.int (jn z63))]) rfl rfl rfl rfl ?_
          refine mj_T.pl rfl rfl rfl rfl ?_
          have t99_65 : ∀ (h64 : mj_H), (jO K L R g n tm h64) → mj_T (D + 5) mj_m49 99 [some (.ref p0), some (.int (jn p1)), some (.ref a3), some (.int (jn x40)), some (.int (jn x41)), some (.int (jn z63))] [] h64 (jQ K L R g n tm [] jV0) := by
            intro h64 oh64
            refine mj_T.pl rfl rfl rfl rfl ?_
            refine jT.if0 rfl rz63 (fun c101 => ?_) (fun c101 => ?_)
            · have c101 := of_decide_eq_true c101
              refine mj_T.pl rfl rfl rfl rfl ?_
              refine mj_T.pl (loc' := [some (.ref p0), some (.int (jn p1)), some (.ref a3), some (.int (jn (-1))), some (.int (jn x41)), some (.int (jn z63))]) rfl rfl rfl rfl ?_
              refine jT.iinc rfl rfl (fun z66 rz66 ez66 => ?_)
              replace ez66 := ez66 ⟨by omega, by omega⟩
              refine mj_T.eq (loc2 := [some (.ref p0), some (.int (jn p1)), some (.ref a3), some (.int (jn (-1))), some (.int (jn z66)), some (.int (jn z63))]) ?_ rfl rfl rfl rfl
              refine mj_T.pl rfl rfl rfl rfl ?_
              exact ih46 ((2147483647 - z66 : Int).toNat) (by omega) (-1) z66 (some (.int (jn z63))) h64 ⟨by decide, by decide⟩ rz66 oh64 (by omega) rfl
            · have c101 := of_decide_eq_false c101
              iterate 2 refine mj_T.pl rfl rfl rfl rfl ?_
              refine mj_T.pl (loc' := [some (.ref p0), some (.int (jn p1)), some (.ref a3), some (.int (jn 1)), some (.int (jn x41)), some (.int (jn z63))]) rfl rfl rfl rfl ?_
              refine jT.iinc rfl rfl (fun z67 rz67 ez67 => ?_)
              replace ez67 := ez67 ⟨by omega, by omega⟩
              refine mj_T.eq (loc2 := [some (.ref p0), some (.int (jn p1)), some (.ref a3), some (.int (jn 1)), some (.int (jn z67)), some (.int (jn z63))]) ?_ rfl rfl rfl rfl
              refine mj_T.pl rfl rfl rfl rfl ?_
              exact ih46 ((2147483647 - z67 : Int).toNat) (by omega) 1 z67 (some (.int (jn z63))) h64 ⟨by decide, by decide⟩ rz67 oh64 (by omega) rfl
          refine jT.if0 rfl rz63 (fun c86 => ?_) (fun c86 => ?_)
          · have c86 := jne1 c86
            exact t99_65 h62 oh62
          · have c86 := jne2 c86
            iterate 2 refine mj_T.pl rfl rfl rfl rfl ?_
            refine jT.call rfl rfl (Nat.le_of_ble_eq_true rfl) (Nat.le_of_ble_eq_true rfl) (jrv_of oh62 kp0 (by decide) rfl (by decide) rfl _) rfl (mj_Ok.up (Nat.add_le_add_left (by decide) D) (jc_57 (D := D) ty hg oh62 kp0 ⟨by decide, by decide⟩)) rfl rfl (fun v68 h69 qv68 oh69 => ?_)
            obtain ⟨z70, az70, bz70, rfl⟩ := qv68
            have rz70 : -2147483648 ≤ z70 ∧ z70 ≤ 2147483647 := ⟨by omega, by omega⟩
            refine mj_T.eq (pc2 := 95) (st2 := [.int (jn z70)]) ?_ rfl rfl rfl rfl
            refine jT.if0 rfl rz70 (fun c95 => ?_) (fun c95 => ?_)
            · have c95 := jne1 c95
              exact t99_65 h69 oh69
            · have c95 := jne2 c95
              exact jT.ret oh69 rfl rfl rfl rfl
        · have c53 := of_decide_eq_false c53
          exact jT.ret oh51 rfl rfl rfl rfl
    exact t31_44 _ (-1) 0 none h7 ⟨by decide, by decide⟩ ⟨by decide, by decide⟩ oh7 (by omega) rfl
theorem jc_49 {n : Nat} {tm : Int} {g : mj_H} {K L : Nat → Nat} {R : Nat → Nat → Nat} {p0 : Nat} (ty : jTY K L R) (hg : g.length ≤ n) (kp0 : K p0 = 14) : ∀ (k : Nat) {D : Nat} {p1 : Int} {h : mj_H}, 8 - p1 ≤ k → (-2147483648 ≤ p1 ∧ p1 ≤ 2147483647) → jO K L R g n tm h → mj_Ok (D + 6 * (k + 1)) 49 [.ref p0, .int (jn p1)] h (jQ K L R g n tm [] jV0)
  | 0, D, p1, h, hk, hr, o => jc_49x ty hg o kp0 hr (fun z h1 q _ _ => absurd q (by omega))
  | k + 1, D, p1, h, hk, hr, o => jc_49x (D := D + 6 * (k + 1)) ty hg o kp0 hr (fun z h1 q e o1 => jc_49 ty hg kp0 k (by omega) ⟨by omega, by omega⟩ o1)
-- PolyRegisters$Reader.accepts(LPolyRegisters$Text;)Z
theorem jc_46 {D n : Nat} {tm : Int} {h g : mj_H} {K L : Nat → Nat} {R : Nat → Nat → Nat} {p0 : Nat} {p1 : Nat} (ty : jTY K L R) (hg : g.length ≤ n) (o : jO K L R g n tm h) (kp0 : K p0 = 14) (kp1 : K p1 = 17 ∨ K p1 = 27) : mj_Ok (D + 55) 46 [.ref p0, .ref p1] h (jQ K L R g n tm [] (jVi 0 1)) := by
  refine mj_Ok.of (M := mj_m46) (loc := [some (.ref p0), some (.ref p1)]) rfl rfl rfl ?_
  iterate 2 refine mj_T.pl rfl rfl rfl rfl ?_
  refine jT.putT o rfl kp0 kp1 (fun h1 oh1 uh1 => ?_)
  iterate 2 refine mj_T.pl rfl rfl rfl rfl ?_
  refine jT.putI 14 0 oh1 rfl kp0 (by decide) rfl rfl rfl (Or.inl rfl) (by show (-2147483648) ≤ 0; omega) (by show 0 ≤ 2147483647; omega) (fun h2 oh2 wh2 uh2 => ?_)
  iterate 2 refine mj_T.pl rfl rfl rfl rfl ?_
  refine jT.putI 14 0 oh2 rfl kp0 (by decide) rfl rfl rfl (Or.inl rfl) (by show (-2147483648) ≤ (-1); omega) (by show (-1) ≤ 2147483647; omega) (fun h3 oh3 wh3 uh3 => ?_)
  iterate 2 refine mj_T.pl rfl rfl rfl rfl ?_
  refine jT.putI 14 2 oh3 rfl kp0 (by decide) rfl rfl rfl (Or.inr ⟨rfl, rfl⟩) (by show 0 ≤ 0; omega) (by show 0 ≤ 1; omega) (fun h4 oh4 wh4 uh4 => ?_)
  iterate 2 refine mj_T.pl rfl rfl rfl rfl ?_
  refine jT.call rfl rfl (Nat.le_of_ble_eq_true rfl) (Nat.le_of_ble_eq_true rfl) (jrv_of oh4 kp0 (by decide) rfl (by decide) rfl _) rfl (mj_Ok.up (Nat.add_le_add_left (by decide) D) (jc_49 ty hg kp0 8 (D := D) (by omega) ⟨by decide, by decide⟩ oh4)) rfl rfl (fun v5 h6 qv5 oh6 => ?_)
  obtain rfl : v5 = none := qv5
  refine mj_T.eq (pc2 := 25) (st2 := []) ?_ rfl rfl rfl rfl
  refine mj_T.pl rfl rfl rfl rfl ?_
  refine jT.getI 14 0 oh6 rfl kp0 (by decide) rfl rfl rfl (fun z7 (az7 : (-2147483648) ≤ z7) (bz7 : z7 ≤ 2147483647) fz7 => ?_)
  have rz7 : -2147483648 ≤ z7 ∧ z7 ≤ 2147483647 := ⟨by omega, by omega⟩
  refine mj_T.pl rfl rfl rfl rfl ?_
  have t55_9 : ∀ (h8 : mj_H), (jO K L R g n tm h8) → mj_T (D + 54) mj_m46 55 [some (.ref p0), some (.ref p1)] [] h8 (jQ K L R g n tm [] (jVi 0 1)) := by
    intro h8 oh8
    refine mj_T.pl rfl rfl rfl rfl ?_
    refine jT.getI 14 0 oh8 rfl kp0 (by decide) rfl rfl rfl (fun z10 (az10 : (-2147483648) ≤ z10) (bz10 : z10 ≤ 2147483647) fz10 => ?_)
    have rz10 : -2147483648 ≤ z10 ∧ z10 ≤ 2147483647 := ⟨by omega, by omega⟩
    refine mj_T.pl rfl rfl rfl rfl ?_
    refine jT.icmp rfl rz10 ⟨by decide, by decide⟩ (fun c60 => ?_) (fun c60 => ?_)
    · have c60 := jne1 c60
      refine mj_T.pl rfl rfl rfl rfl ?_
      exact jT.retb oh8 rfl rfl (by omega) (by omega)
    · have c60 := jne2 c60
      iterate 2 refine mj_T.pl rfl rfl rfl rfl ?_
      exact jT.retb oh8 rfl rfl (by omega) (by omega)
  refine jT.icmp rfl rz7 ⟨by decide, by decide⟩ (fun c30 => ?_) (fun c30 => ?_)
  · have c30 := jne1 c30
    exact t55_9 h6 oh6
  · have c30 := jne2 c30
    refine mj_T.pl rfl rfl rfl rfl ?_
    refine jT.getI 14 0 oh6 rfl kp0 (by decide) rfl rfl rfl (fun z11 (az11 : (-2147483648) ≤ z11) (bz11 : z11 ≤ 2147483647) fz11 => ?_)
    have rz11 : -2147483648 ≤ z11 ∧ z11 ≤ 2147483647 := ⟨by omega, by omega⟩
    refine mj_T.pl rfl rfl rfl rfl ?_
    refine jT.getT oh6 rfl kp0 (fun b12 kb12 => ?_)
    refine jT.getE oh6 rfl kb12 (fun z13 (az13 : 0 ≤ z13) (bz13 : z13 ≤ 340) fz13 => ?_)
    have rz13 : -2147483648 ≤ z13 ∧ z13 ≤ 2147483647 := ⟨by omega, by omega⟩
    refine jT.icmp rfl rz11 rz13 (fun c44 => ?_) (fun c44 => ?_)
    · have c44 := of_decide_eq_true c44
      exact t55_9 h6 oh6
    · have c44 := of_decide_eq_false c44
      iterate 2 refine mj_T.pl rfl rfl rfl rfl ?_
      refine jT.getK 14 0 oh6 rfl kp0 (by decide) rfl rfl rfl fz11.symm ?_
      refine jT.putI 14 0 oh6 rfl kp0 (by decide) rfl rfl rfl (Or.inl rfl) (by show (-2147483648) ≤ z11; omega) (by show z11 ≤ 2147483647; omega) (fun h14 oh14 wh14 uh14 => ?_)
      exact t55_9 h14 oh14
/-! The class by kinds: what others call. -/
-- PolyRegisters.rowOf(I)[J
theorem jc_149 {D n : Nat} {tm : Int} {h g : mj_H} {K L : Nat → Nat} {R : Nat → Nat → Nat} {p0 : Nat} {p1 : Int} (ty : jTY K L R) (hg : g.length ≤ n) (o : jO K L R g n tm h) (kp0 : K p0 = 19) (rp1 : -2147483648 ≤ p1 ∧ p1 ≤ 2147483647) : mj_Ok (D + 1) 149 [.ref p0, .int (jn p1)] h (jQp K L R g n tm h [0] (jVr K 2)) := by
  refine mj_Ok.of (M := mj_m149) (loc := [some (.ref p0), some (.int (jn p1))]) rfl rfl rfl ?_
  refine mj_T.pl rfl rfl rfl rfl ?_
  refine jT.if0 rfl rp1 (fun c1 => ?_) (fun c1 => ?_)
  · have c1 := of_decide_eq_true c1
    exact jT.thrp o hg rfl rfl rfl (Nat.le_of_ble_eq_true rfl) rfl
  · have c1 := of_decide_eq_false c1
    iterate 2 refine mj_T.pl rfl rfl rfl rfl ?_
    refine jT.getR 19 110 10 ty o rfl kp0 (by decide) rfl rfl rfl (fun k1 => ?_)
    refine jT.getR 10 106 6 ty o rfl k1 (by decide) rfl rfl rfl (fun k2 => ?_)
    refine jT.alen 6 ty o rfl k2 (by decide) (by decide) (fun z3 ez3 (az3 : 6 ≤ z3) (bz3 : z3 ≤ 9) => ?_)
    have rz3 : -2147483648 ≤ z3 ∧ z3 ≤ 2147483647 := ⟨by omega, by omega⟩
    refine jT.icmp rfl rp1 rz3 (fun c13 => ?_) (fun c13 => ?_)
    · have c13 := of_decide_eq_true c13
      refine mj_T.pl rfl rfl rfl rfl ?_
      refine jT.getR 19 110 10 ty o rfl kp0 (by decide) rfl rfl rfl (fun k4 => ?_)
      refine jT.getR 10 106 6 ty o rfl k4 (by decide) rfl rfl rfl (fun k5 => ?_)
      refine mj_T.pl rfl rfl rfl rfl ?_
      refine jT.aald 6 2 ty o rfl k5 (by decide) (by decide) rfl rp1 ⟨by omega, by omega⟩ (fun k6 => ?_)
      exact jT.retp rfl rfl rfl ⟨(R (R (R p0 0) 0) (p1 : Int).toNat), k6, rfl⟩
    · have c13 := of_decide_eq_false c13
      exact jT.thrp o hg rfl rfl rfl (Nat.le_of_ble_eq_true rfl) rfl
-- PolyRegisters.checkExponent(I)V
theorem jc_150 {D n : Nat} {tm : Int} {h g : mj_H} {K L : Nat → Nat} {R : Nat → Nat → Nat} {p0 : Int} (ty : jTY K L R) (hg : g.length ≤ n) (o : jO K L R g n tm h) (rp0 : -2147483648 ≤ p0 ∧ p0 ≤ 2147483647) : mj_Ok (D + 1) 150 [.int (jn p0)] h (jQp K L R g n tm h [2] (jVp (0 ≤ p0 ∧ p0 ≤ 12))) := by
  refine mj_Ok.of (M := mj_m150) (loc := [some (.int (jn p0))]) rfl rfl rfl ?_
  refine mj_T.pl rfl rfl rfl rfl ?_
  refine jT.if0 rfl rp0 (fun c1 => ?_) (fun c1 => ?_)
  · have c1 := of_decide_eq_true c1
    exact jT.thrp o hg rfl rfl rfl (Nat.le_of_ble_eq_true rfl) rfl
  · have c1 := of_decide_eq_false c1
    iterate 2 refine mj_T.pl rfl rfl rfl rfl ?_
    refine jT.icmp rfl rp0 ⟨by decide, by decide⟩ (fun c7 => ?_) (fun c7 => ?_)
    · have c7 := of_decide_eq_true c7
      exact jT.retp rfl rfl rfl ⟨rfl, by omega⟩
    · have c7 := of_decide_eq_false c7
      exact jT.thrp o hg rfl rfl rfl (Nat.le_of_ble_eq_true rfl) rfl
-- PolyRegisters.checkFraction(II)V
theorem jc_151 {D n : Nat} {tm : Int} {h g : mj_H} {K L : Nat → Nat} {R : Nat → Nat → Nat} {p0 : Int} {p1 : Int} (ty : jTY K L R) (hg : g.length ≤ n) (o : jO K L R g n tm h) (rp0 : -2147483648 ≤ p0 ∧ p0 ≤ 2147483647) (rp1 : -2147483648 ≤ p1 ∧ p1 ≤ 2147483647) : mj_Ok (D + 1) 151 [.int (jn p0), .int (jn p1)] h (jQp K L R g n tm h [2] jV0) := by
  refine mj_Ok.of (M := mj_m151) (loc := [some (.int (jn p0)), some (.int (jn p1))]) rfl rfl rfl ?_
  iterate 2 refine mj_T.pl rfl rfl rfl rfl ?_
  refine jT.icmp rfl rp0 ⟨by decide, by decide⟩ (fun c4 => ?_) (fun c4 => ?_)
  · have c4 := of_decide_eq_true c4
    exact jT.thrp o hg rfl rfl rfl (Nat.le_of_ble_eq_true rfl) rfl
  · have c4 := of_decide_eq_false c4
    iterate 2 refine mj_T.pl rfl rfl rfl rfl ?_
    refine jT.icmp rfl rp0 ⟨by decide, by decide⟩ (fun c11 => ?_) (fun c11 => ?_)
    · have c11 := of_decide_eq_true c11
      exact jT.thrp o hg rfl rfl rfl (Nat.le_of_ble_eq_true rfl) rfl
    · have c11 := of_decide_eq_false c11
      iterate 2 refine mj_T.pl rfl rfl rfl rfl ?_
      refine jT.icmp rfl rp1 ⟨by decide, by decide⟩ (fun c16 => ?_) (fun c16 => ?_)
      · have c16 := of_decide_eq_true c16
        exact jT.thrp o hg rfl rfl rfl (Nat.le_of_ble_eq_true rfl) rfl
      · have c16 := of_decide_eq_false c16
        iterate 2 refine mj_T.pl rfl rfl rfl rfl ?_
        refine jT.icmp rfl rp1 ⟨by decide, by decide⟩ (fun c23 => ?_) (fun c23 => ?_)
        · have c23 := of_decide_eq_true c23
          exact jT.retp rfl rfl rfl rfl
        · have c23 := of_decide_eq_false c23
          exact jT.thrp o hg rfl rfl rfl (Nat.le_of_ble_eq_true rfl) rfl
-- PolyRegisters.checkPrime(I)V
theorem jc_152 {D n : Nat} {tm : Int} {h g : mj_H} {K L : Nat → Nat} {R : Nat → Nat → Nat} {p0 : Int} (ty : jTY K L R) (hg : g.length ≤ n) (o : jO K L R g n tm h) (rp0 : -2147483648 ≤ p0 ∧ p0 ≤ 2147483647) : mj_Ok (D + 1) 152 [.int (jn p0)] h (jQp K L R g n tm h [2] jV0) := by
  refine mj_Ok.of (M := mj_m152) (loc := [some (.int (jn p0)), none, none]) rfl rfl rfl ?_
  iterate 2 refine mj_T.pl rfl rfl rfl rfl ?_
  refine jT.icmp rfl rp0 ⟨by decide, by decide⟩ (fun c2 => ?_) (fun c2 => ?_)
  · have c2 := of_decide_eq_true c2
    refine mj_T.pl rfl rfl rfl rfl ?_
    refine mj_T.pl (loc' := [some (.int (jn p0)), some (.int (jn 0)), none]) rfl rfl rfl rfl ?_
    refine mj_T.pl rfl rfl rfl rfl ?_
    refine mj_T.pl (loc' := [some (.int (jn p0)), some (.int (jn 0)), some (.int (jn 2))]) rfl rfl rfl rfl ?_
    have t19_3 : ∀ (k4 : Nat) (x1 : Int) (x2 : Int), (0 ≤ x1 ∧ x1 ≤ 1) → (-2147483648 ≤ x2 ∧ x2 ≤ 2147483647) → (2 ≤ x2) → (2 ≤ x2 ∧ x2 ≤ 10) → (2147483647 - x2 : Int).toNat = k4 → mj_T (D + 0) mj_m152 19 [some (.int (jn p0)), some (.int (jn x1)), some (.int (jn x2))] [] h (jQp K L R g n tm h [2] jV0) := by
      refine jInd (fun k4 ih5 => ?_)
      intro x1 x2 ax1 rx2 ix2 ivx2 hm6
      have rx1 : -2147483648 ≤ x1 ∧ x1 ≤ 2147483647 := ⟨by omega, by omega⟩
      refine mj_T.pl rfl rfl rfl rfl ?_
      refine mj_T.pl rfl rfl rfl rfl ?_
      refine jT.imul rfl (fun z7 rz7 ez7 => ?_)
      replace ez7 := jsq ivx2 ez7
      refine mj_T.pl rfl rfl rfl rfl ?_
      refine jT.icmp rfl rz7 ⟨by decide, by decide⟩ (fun c24 => ?_) (fun c24 => ?_)
      · have c24 := of_decide_eq_true c24
        refine mj_T.pl rfl rfl rfl rfl ?_
        refine jT.if0 rfl rx1 (fun c55 => ?_) (fun c55 => ?_)
        · have c55 := jne1 c55
          exact jT.retp rfl rfl rfl rfl
        · have c55 := jne2 c55
          exact jT.thrp o hg rfl rfl rfl (Nat.le_of_ble_eq_true rfl) rfl
      · have c24 := of_decide_eq_false c24
        refine mj_T.pl rfl rfl rfl rfl ?_
        refine jT.if0 rfl rx1 (fun c28 => ?_) (fun c28 => ?_)
        · have c28 := of_decide_eq_true c28
          refine mj_T.pl rfl rfl rfl rfl ?_
          refine mj_T.pl (loc' := [some (.int (jn p0)), some (.int (jn 0)), some (.int (jn x2))]) rfl rfl rfl rfl ?_
          refine jT.iinc rfl rfl (fun z8 rz8 ez8 => ?_)
          replace ez8 := ez8 ⟨by omega, by omega⟩
          refine mj_T.eq (loc2 := [some (.int (jn p0)), some (.int (jn 0)), some (.int (jn z8))]) ?_ rfl rfl rfl rfl
          refine mj_T.pl rfl rfl rfl rfl ?_
          exact ih5 ((2147483647 - z8 : Int).toNat) (by omega) 0 z8 ⟨by omega, by omega⟩ rz8 (by omega) (by omega) rfl
        · have c28 := of_decide_eq_false c28
          iterate 2 refine mj_T.pl rfl rfl rfl rfl ?_
          refine jT.icmp rfl rp0 rx2 (fun c33 => ?_) (fun c33 => ?_)
          · have c33 := of_decide_eq_true c33
            iterate 2 refine mj_T.pl rfl rfl rfl rfl ?_
            refine mj_T.pl (loc' := [some (.int (jn p0)), some (.int (jn 1)), some (.int (jn x2))]) rfl rfl rfl rfl ?_
            refine jT.iinc rfl rfl (fun z9 rz9 ez9 => ?_)
            replace ez9 := ez9 ⟨by omega, by omega⟩
            refine mj_T.eq (loc2 := [some (.int (jn p0)), some (.int (jn 1)), some (.int (jn z9))]) ?_ rfl rfl rfl rfl
            refine mj_T.pl rfl rfl rfl rfl ?_
            exact ih5 ((2147483647 - z9 : Int).toNat) (by omega) 1 z9 ⟨by omega, by omega⟩ rz9 (by omega) (by omega) rfl
          · have c33 := of_decide_eq_false c33
            iterate 2 refine mj_T.pl rfl rfl rfl rfl ?_
            refine jT.irem rfl rx2 (by omega) (fun z10 rz10 => ?_)
            refine jT.if0 rfl rz10 (fun c39 => ?_) (fun c39 => ?_)
            · have c39 := of_decide_eq_true c39
              refine mj_T.pl rfl rfl rfl rfl ?_
              refine mj_T.pl (loc' := [some (.int (jn p0)), some (.int (jn 0)), some (.int (jn x2))]) rfl rfl rfl rfl ?_
              refine jT.iinc rfl rfl (fun z11 rz11 ez11 => ?_)
              replace ez11 := ez11 ⟨by omega, by omega⟩
              refine mj_T.eq (loc2 := [some (.int (jn p0)), some (.int (jn 0)), some (.int (jn z11))]) ?_ rfl rfl rfl rfl
              refine mj_T.pl rfl rfl rfl rfl ?_
              exact ih5 ((2147483647 - z11 : Int).toNat) (by omega) 0 z11 ⟨by omega, by omega⟩ rz11 (by omega) (by omega) rfl
            · have c39 := of_decide_eq_false c39
              iterate 2 refine mj_T.pl rfl rfl rfl rfl ?_
              refine mj_T.pl (loc' := [some (.int (jn p0)), some (.int (jn 1)), some (.int (jn x2))]) rfl rfl rfl rfl ?_
              refine jT.iinc rfl rfl (fun z12 rz12 ez12 => ?_)
              replace ez12 := ez12 ⟨by omega, by omega⟩
              refine mj_T.eq (loc2 := [some (.int (jn p0)), some (.int (jn 1)), some (.int (jn z12))]) ?_ rfl rfl rfl rfl
              refine mj_T.pl rfl rfl rfl rfl ?_
              exact ih5 ((2147483647 - z12 : Int).toNat) (by omega) 1 z12 ⟨by omega, by omega⟩ rz12 (by omega) (by omega) rfl
    exact t19_3 _ 0 2 ⟨by omega, by omega⟩ ⟨by decide, by decide⟩ (by omega) (by omega) rfl
  · have c2 := of_decide_eq_false c2
    iterate 2 refine mj_T.pl rfl rfl rfl rfl ?_
    refine jT.icmp rfl rp0 ⟨by decide, by decide⟩ (fun c8 => ?_) (fun c8 => ?_)
    · have c8 := of_decide_eq_true c8
      refine mj_T.pl rfl rfl rfl rfl ?_
      refine mj_T.pl (loc' := [some (.int (jn p0)), some (.int (jn 0)), none]) rfl rfl rfl rfl ?_
      refine mj_T.pl rfl rfl rfl rfl ?_
      refine mj_T.pl (loc' := [some (.int (jn p0)), some (.int (jn 0)), some (.int (jn 2))]) rfl rfl rfl rfl ?_
      have t19_15 : ∀ (k16 : Nat) (x13 : Int) (x14 : Int), (0 ≤ x13 ∧ x13 ≤ 1) → (-2147483648 ≤ x14 ∧ x14 ≤ 2147483647) → (2 ≤ x14) → (2 ≤ x14 ∧ x14 ≤ 10) → (2147483647 - x14 : Int).toNat = k16 → mj_T (D + 0) mj_m152 19 [some (.int (jn p0)), some (.int (jn x13)), some (.int (jn x14))] [] h (jQp K L R g n tm h [2] jV0) := by
        refine jInd (fun k16 ih17 => ?_)
        intro x13 x14 ax13 rx14 ix14 ivx14 hm18
        have rx13 : -2147483648 ≤ x13 ∧ x13 ≤ 2147483647 := ⟨by omega, by omega⟩
        refine mj_T.pl rfl rfl rfl rfl ?_
        refine mj_T.pl rfl rfl rfl rfl ?_
        refine jT.imul rfl (fun z19 rz19 ez19 => ?_)
        replace ez19 := jsq ivx14 ez19
        refine mj_T.pl rfl rfl rfl rfl ?_
        refine jT.icmp rfl rz19 ⟨by decide, by decide⟩ (fun c24 => ?_) (fun c24 => ?_)
        · have c24 := of_decide_eq_true c24
          refine mj_T.pl rfl rfl rfl rfl ?_
          refine jT.if0 rfl rx13 (fun c55 => ?_) (fun c55 => ?_)
          · have c55 := jne1 c55
            exact jT.retp rfl rfl rfl rfl
          · have c55 := jne2 c55
            exact jT.thrp o hg rfl rfl rfl (Nat.le_of_ble_eq_true rfl) rfl
        · have c24 := of_decide_eq_false c24
          refine mj_T.pl rfl rfl rfl rfl ?_
          refine jT.if0 rfl rx13 (fun c28 => ?_) (fun c28 => ?_)
          · have c28 := of_decide_eq_true c28
            refine mj_T.pl rfl rfl rfl rfl ?_
            refine mj_T.pl (loc' := [some (.int (jn p0)), some (.int (jn 0)), some (.int (jn x14))]) rfl rfl rfl rfl ?_
            refine jT.iinc rfl rfl (fun z20 rz20 ez20 => ?_)
            replace ez20 := ez20 ⟨by omega, by omega⟩
            refine mj_T.eq (loc2 := [some (.int (jn p0)), some (.int (jn 0)), some (.int (jn z20))]) ?_ rfl rfl rfl rfl
            refine mj_T.pl rfl rfl rfl rfl ?_
            exact ih17 ((2147483647 - z20 : Int).toNat) (by omega) 0 z20 ⟨by omega, by omega⟩ rz20 (by omega) (by omega) rfl
          · have c28 := of_decide_eq_false c28
            iterate 2 refine mj_T.pl rfl rfl rfl rfl ?_
            refine jT.icmp rfl rp0 rx14 (fun c33 => ?_) (fun c33 => ?_)
            · have c33 := of_decide_eq_true c33
              iterate 2 refine mj_T.pl rfl rfl rfl rfl ?_
              refine mj_T.pl (loc' := [some (.int (jn p0)), some (.int (jn 1)), some (.int (jn x14))]) rfl rfl rfl rfl ?_
              refine jT.iinc rfl rfl (fun z21 rz21 ez21 => ?_)
              replace ez21 := ez21 ⟨by omega, by omega⟩
              refine mj_T.eq (loc2 := [some (.int (jn p0)), some (.int (jn 1)), some (.int (jn z21))]) ?_ rfl rfl rfl rfl
              refine mj_T.pl rfl rfl rfl rfl ?_
              exact ih17 ((2147483647 - z21 : Int).toNat) (by omega) 1 z21 ⟨by omega, by omega⟩ rz21 (by omega) (by omega) rfl
            · have c33 := of_decide_eq_false c33
              iterate 2 refine mj_T.pl rfl rfl rfl rfl ?_
              refine jT.irem rfl rx14 (by omega) (fun z22 rz22 => ?_)
              refine jT.if0 rfl rz22 (fun c39 => ?_) (fun c39 => ?_)
              · have c39 := of_decide_eq_true c39
                refine mj_T.pl rfl rfl rfl rfl ?_
                refine mj_T.pl (loc' := [some (.int (jn p0)), some (.int (jn 0)), some (.int (jn x14))]) rfl rfl rfl rfl ?_
                refine jT.iinc rfl rfl (fun z23 rz23 ez23 => ?_)
                replace ez23 := ez23 ⟨by omega, by omega⟩
                refine mj_T.eq (loc2 := [some (.int (jn p0)), some (.int (jn 0)), some (.int (jn z23))]) ?_ rfl rfl rfl rfl
                refine mj_T.pl rfl rfl rfl rfl ?_
                exact ih17 ((2147483647 - z23 : Int).toNat) (by omega) 0 z23 ⟨by omega, by omega⟩ rz23 (by omega) (by omega) rfl
              · have c39 := of_decide_eq_false c39
                iterate 2 refine mj_T.pl rfl rfl rfl rfl ?_
                refine mj_T.pl (loc' := [some (.int (jn p0)), some (.int (jn 1)), some (.int (jn x14))]) rfl rfl rfl rfl ?_
                refine jT.iinc rfl rfl (fun z24 rz24 ez24 => ?_)
                replace ez24 := ez24 ⟨by omega, by omega⟩
                refine mj_T.eq (loc2 := [some (.int (jn p0)), some (.int (jn 1)), some (.int (jn z24))]) ?_ rfl rfl rfl rfl
                refine mj_T.pl rfl rfl rfl rfl ?_
                exact ih17 ((2147483647 - z24 : Int).toNat) (by omega) 1 z24 ⟨by omega, by omega⟩ rz24 (by omega) (by omega) rfl
      exact t19_15 _ 0 2 ⟨by omega, by omega⟩ ⟨by decide, by decide⟩ (by omega) (by omega) rfl
    · have c8 := of_decide_eq_false c8
      iterate 2 refine mj_T.pl rfl rfl rfl rfl ?_
      refine mj_T.pl (loc' := [some (.int (jn p0)), some (.int (jn 1)), none]) rfl rfl rfl rfl ?_
      refine mj_T.pl rfl rfl rfl rfl ?_
      refine mj_T.pl (loc' := [some (.int (jn p0)), some (.int (jn 1)), some (.int (jn 2))]) rfl rfl rfl rfl ?_
      have t19_27 : ∀ (k28 : Nat) (x25 : Int) (x26 : Int), (0 ≤ x25 ∧ x25 ≤ 1) → (-2147483648 ≤ x26 ∧ x26 ≤ 2147483647) → (2 ≤ x26) → (2 ≤ x26 ∧ x26 ≤ 10) → (2147483647 - x26 : Int).toNat = k28 → mj_T (D + 0) mj_m152 19 [some (.int (jn p0)), some (.int (jn x25)), some (.int (jn x26))] [] h (jQp K L R g n tm h [2] jV0) := by
        refine jInd (fun k28 ih29 => ?_)
        intro x25 x26 ax25 rx26 ix26 ivx26 hm30
        have rx25 : -2147483648 ≤ x25 ∧ x25 ≤ 2147483647 := ⟨by omega, by omega⟩
        refine mj_T.pl rfl rfl rfl rfl ?_
        refine mj_T.pl rfl rfl rfl rfl ?_
        refine jT.imul rfl (fun z31 rz31 ez31 => ?_)
        replace ez31 := jsq ivx26 ez31
        refine mj_T.pl rfl rfl rfl rfl ?_
        refine jT.icmp rfl rz31 ⟨by decide, by decide⟩ (fun c24 => ?_) (fun c24 => ?_)
        · have c24 := of_decide_eq_true c24
          refine mj_T.pl rfl rfl rfl rfl ?_
          refine jT.if0 rfl rx25 (fun c55 => ?_) (fun c55 => ?_)
          · have c55 := jne1 c55
            exact jT.retp rfl rfl rfl rfl
          · have c55 := jne2 c55
            exact jT.thrp o hg rfl rfl rfl (Nat.le_of_ble_eq_true rfl) rfl
        · have c24 := of_decide_eq_false c24
          refine mj_T.pl rfl rfl rfl rfl ?_
          refine jT.if0 rfl rx25 (fun c28 => ?_) (fun c28 => ?_)
          · have c28 := of_decide_eq_true c28
            refine mj_T.pl rfl rfl rfl rfl ?_
            refine mj_T.pl (loc' := [some (.int (jn p0)), some (.int (jn 0)), some (.int (jn x26))]) rfl rfl rfl rfl ?_
            refine jT.iinc rfl rfl (fun z32 rz32 ez32 => ?_)
            replace ez32 := ez32 ⟨by omega, by omega⟩
            refine mj_T.eq (loc2 := [some (.int (jn p0)), some (.int (jn 0)), some (.int (jn z32))]) ?_ rfl rfl rfl rfl
            refine mj_T.pl rfl rfl rfl rfl ?_
            exact ih29 ((2147483647 - z32 : Int).toNat) (by omega) 0 z32 ⟨by omega, by omega⟩ rz32 (by omega) (by omega) rfl
          · have c28 := of_decide_eq_false c28
            iterate 2 refine mj_T.pl rfl rfl rfl rfl ?_
            refine jT.icmp rfl rp0 rx26 (fun c33 => ?_) (fun c33 => ?_)
            · have c33 := of_decide_eq_true c33
              iterate 2 refine mj_T.pl rfl rfl rfl rfl ?_
              refine mj_T.pl (loc' := [some (.int (jn p0)), some (.int (jn 1)), some (.int (jn x26))]) rfl rfl rfl rfl ?_
              refine jT.iinc rfl rfl (fun z33 rz33 ez33 => ?_)
              replace ez33 := ez33 ⟨by omega, by omega⟩
              refine mj_T.eq (loc2 := [some (.int (jn p0)), some (.int (jn 1)), some (.int (jn z33))]) ?_ rfl rfl rfl rfl
              refine mj_T.pl rfl rfl rfl rfl ?_
              exact ih29 ((2147483647 - z33 : Int).toNat) (by omega) 1 z33 ⟨by omega, by omega⟩ rz33 (by omega) (by omega) rfl
            · have c33 := of_decide_eq_false c33
              iterate 2 refine mj_T.pl rfl rfl rfl rfl ?_
              refine jT.irem rfl rx26 (by omega) (fun z34 rz34 => ?_)
              refine jT.if0 rfl rz34 (fun c39 => ?_) (fun c39 => ?_)
              · have c39 := of_decide_eq_true c39
                refine mj_T.pl rfl rfl rfl rfl ?_
                refine mj_T.pl (loc' := [some (.int (jn p0)), some (.int (jn 0)), some (.int (jn x26))]) rfl rfl rfl rfl ?_
                refine jT.iinc rfl rfl (fun z35 rz35 ez35 => ?_)
                replace ez35 := ez35 ⟨by omega, by omega⟩
                refine mj_T.eq (loc2 := [some (.int (jn p0)), some (.int (jn 0)), some (.int (jn z35))]) ?_ rfl rfl rfl rfl
                refine mj_T.pl rfl rfl rfl rfl ?_
                exact ih29 ((2147483647 - z35 : Int).toNat) (by omega) 0 z35 ⟨by omega, by omega⟩ rz35 (by omega) (by omega) rfl
              · have c39 := of_decide_eq_false c39
                iterate 2 refine mj_T.pl rfl rfl rfl rfl ?_
                refine mj_T.pl (loc' := [some (.int (jn p0)), some (.int (jn 1)), some (.int (jn x26))]) rfl rfl rfl rfl ?_
                refine jT.iinc rfl rfl (fun z36 rz36 ez36 => ?_)
                replace ez36 := ez36 ⟨by omega, by omega⟩
                refine mj_T.eq (loc2 := [some (.int (jn p0)), some (.int (jn 1)), some (.int (jn z36))]) ?_ rfl rfl rfl rfl
                refine mj_T.pl rfl rfl rfl rfl ?_
                exact ih29 ((2147483647 - z36 : Int).toNat) (by omega) 1 z36 ⟨by omega, by omega⟩ rz36 (by omega) (by omega) rfl
      exact t19_27 _ 1 2 ⟨by omega, by omega⟩ ⟨by decide, by decide⟩ (by omega) (by omega) rfl
-- PolyRegisters.checkNotZero([J)V
theorem jc_153 {D n : Nat} {tm : Int} {h g : mj_H} {K L : Nat → Nat} {R : Nat → Nat → Nat} {p0 : Nat} (ty : jTY K L R) (hg : g.length ≤ n) (o : jO K L R g n tm h) (kp0 : K p0 = 2) : mj_Ok (D + 2) 153 [.ref p0] h (jQp K L R g n tm h [3] jV0) := by
  refine mj_Ok.of (M := mj_m153) (loc := [some (.ref p0)]) rfl rfl rfl ?_
  refine mj_T.pl rfl rfl rfl rfl ?_
  refine jT.callpp rfl rfl (Nat.le_of_ble_eq_true rfl) (Nat.le_of_ble_eq_true rfl) rfl rfl (mj_Ok.up (Nat.add_le_add_left (by decide) D) (jc_162 (D := D) ty hg o kp0)) rfl rfl (fun v1 qv1 => ?_)
  obtain ⟨z2, az2, bz2, rfl⟩ := qv1
  have rz2 : -2147483648 ≤ z2 ∧ z2 ≤ 2147483647 := ⟨by omega, by omega⟩
  refine mj_T.eq (pc2 := 4) (st2 := [.int (jn z2)]) ?_ rfl rfl rfl rfl
  refine jT.if0 rfl rz2 (fun c4 => ?_) (fun c4 => ?_)
  · have c4 := of_decide_eq_true c4
    exact jT.retp rfl rfl rfl rfl
  · have c4 := of_decide_eq_false c4
    exact jT.thrp o hg rfl rfl rfl (Nat.le_of_ble_eq_true rfl) rfl
-- PolyRegisters.earlierBench()LPolyRegisters$Bench;
theorem jc_155 {D n : Nat} {tm : Int} {h g : mj_H} {K L : Nat → Nat} {R : Nat → Nat → Nat} {p0 : Nat} (ty : jTY K L R) (hg : g.length ≤ n) (o : jO K L R g n tm h) (kp0 : K p0 = 19) : mj_Ok (D + 1) 155 [.ref p0] h (jQp K L R g n tm h [] (jVr K 10)) := by
  refine mj_Ok.of (M := mj_m155) (loc := [some (.ref p0)]) rfl rfl rfl ?_
  refine mj_T.pl rfl rfl rfl rfl ?_
  refine jT.getR 19 107 7 ty o rfl kp0 (by decide) rfl rfl rfl (fun k1 => ?_)
  refine mj_T.pl rfl rfl rfl rfl ?_
  refine jT.getI 19 0 o rfl kp0 (by decide) rfl rfl rfl (fun z2 (az2 : (-2147483648) ≤ z2) (bz2 : z2 ≤ 2147483647) fz2 => ?_)
  have rz2 : -2147483648 ≤ z2 ∧ z2 ≤ 2147483647 := ⟨by omega, by omega⟩
  refine jT.if0 rfl rz2 (fun c8 => ?_) (fun c8 => ?_)
  · have c8 := of_decide_eq_true c8
    refine mj_T.pl rfl rfl rfl rfl ?_
    have l3 : 8 ≤ (L (R p0 1) : Int) ∧ (L (R p0 1) : Int) ≤ 8 := jlen 7 ty k1 (by decide) (by decide)
    refine jT.aald 7 10 ty o rfl k1 (by decide) (by decide) rfl ⟨by decide, by decide⟩ ⟨by omega, by omega⟩ (fun k4 => ?_)
    exact jT.retp rfl rfl rfl ⟨(R (R p0 1) (0 : Int).toNat), k4, rfl⟩
  · have c8 := of_decide_eq_false c8
    refine mj_T.pl rfl rfl rfl rfl ?_
    refine jT.getK 19 0 o rfl kp0 (by decide) rfl rfl rfl fz2.symm ?_
    refine mj_T.pl rfl rfl rfl rfl ?_
    refine jT.getR 19 107 7 ty o rfl kp0 (by decide) rfl rfl rfl (fun k5 => ?_)
    refine jT.alen 7 ty o rfl k5 (by decide) (by decide) (fun z6 ez6 (az6 : 8 ≤ z6) (bz6 : z6 ≤ 8) => ?_)
    have rz6 : -2147483648 ≤ z6 ∧ z6 ≤ 2147483647 := ⟨by omega, by omega⟩
    refine jT.icmp rfl rz2 rz6 (fun c20 => ?_) (fun c20 => ?_)
    · have c20 := of_decide_eq_true c20
      refine mj_T.pl rfl rfl rfl rfl ?_
      refine jT.aald 7 10 ty o rfl k1 (by decide) (by decide) rfl ⟨by decide, by decide⟩ ⟨by omega, by omega⟩ (fun k7 => ?_)
      exact jT.retp rfl rfl rfl ⟨(R (R p0 1) (0 : Int).toNat), k7, rfl⟩
    · have c20 := of_decide_eq_false c20
      refine mj_T.pl rfl rfl rfl rfl ?_
      refine jT.getK 19 0 o rfl kp0 (by decide) rfl rfl rfl fz2.symm ?_
      refine mj_T.pl rfl rfl rfl rfl ?_
      refine jT.aald 7 10 ty o rfl k1 (by decide) (by decide) rfl rz2 ⟨by omega, by omega⟩ (fun k8 => ?_)
      exact jT.retp rfl rfl rfl ⟨(R (R p0 1) (z2 : Int).toNat), k8, rfl⟩
-- PolyRegisters.keepEarlier()V
theorem jc_156 {D n : Nat} {tm : Int} {h g : mj_H} {K L : Nat → Nat} {R : Nat → Nat → Nat} {p0 : Nat} (ty : jTY K L R) (hg : g.length ≤ n) (o : jO K L R g n tm h) (kp0 : K p0 = 19) : mj_Ok (D + 3) 156 [.ref p0] h (jQ K L R g n tm [] jV0) := by
  refine mj_Ok.of (M := mj_m156) (loc := [some (.ref p0)]) rfl rfl rfl ?_
  refine mj_T.pl rfl rfl rfl rfl ?_
  refine jT.callp rfl rfl (Nat.le_of_ble_eq_true rfl) (Nat.le_of_ble_eq_true rfl) (jrv_of o kp0 (by decide) rfl (by decide) rfl _) rfl (mj_Ok.up (Nat.add_le_add_left (by decide) D) (jc_155 (D := D) ty hg o kp0)) rfl rfl (fun v1 qv1 => ?_)
  obtain ⟨a2, ka2, rfl⟩ := qv1
  refine mj_T.eq (pc2 := 4) (st2 := [.ref a2]) ?_ rfl rfl rfl rfl
  refine mj_T.pl rfl rfl rfl rfl ?_
  refine jT.getR 19 110 10 ty o rfl kp0 (by decide) rfl rfl rfl (fun k3 => ?_)
  refine jT.call rfl rfl (Nat.le_of_ble_eq_true rfl) (Nat.le_of_ble_eq_true rfl) (jrv_of o ka2 (by decide) rfl (by decide) rfl _) rfl (mj_Ok.up (Nat.add_le_add_left (by decide) D) (jc_2 (D := D) ty hg o ka2 k3)) rfl rfl (fun v4 h5 qv4 oh5 => ?_)
  obtain rfl : v4 = none := qv4
  refine mj_T.eq (pc2 := 11) (st2 := []) ?_ rfl rfl rfl rfl
  iterate 2 refine mj_T.pl rfl rfl rfl rfl ?_
  refine jT.getI 19 0 oh5 rfl kp0 (by decide) rfl rfl rfl (fun z6 (az6 : (-2147483648) ≤ z6) (bz6 : z6 ≤ 2147483647) fz6 => ?_)
  have rz6 : -2147483648 ≤ z6 ∧ z6 ≤ 2147483647 := ⟨by omega, by omega⟩
  refine mj_T.pl rfl rfl rfl rfl ?_
  refine jT.iadd rfl (fun z7 rz7 ez7 => ?_)
  clear ez7
  refine mj_T.pl rfl rfl rfl rfl ?_
  refine jT.irem rfl ⟨by decide, by decide⟩ (by decide) (fun z8 rz8 => ?_)
  refine jT.putI 19 0 oh5 rfl kp0 (by decide) rfl rfl rfl (Or.inl rfl) (by show (-2147483648) ≤ z8; omega) (by show z8 ≤ 2147483647; omega) (fun h9 oh9 wh9 uh9 => ?_)
  iterate 2 refine mj_T.pl rfl rfl rfl rfl ?_
  refine jT.getI 19 0 oh9 rfl kp0 (by decide) rfl rfl rfl (fun z10 (az10 : (-2147483648) ≤ z10) (bz10 : z10 ≤ 2147483647) fz10 => ?_)
  have rz10 : -2147483648 ≤ z10 ∧ z10 ≤ 2147483647 := ⟨by omega, by omega⟩
  refine mj_T.pl rfl rfl rfl rfl ?_
  refine jT.iadd rfl (fun z11 rz11 ez11 => ?_)
  clear ez11
  refine mj_T.pl rfl rfl rfl rfl ?_
  refine jT.imin rfl rfl (Nat.le_of_ble_eq_true rfl) rz11 ⟨by decide, by decide⟩ (fun z12 ez12 => ?_)
  have rz12 : -2147483648 ≤ z12 ∧ z12 ≤ 2147483647 := ⟨by omega, by omega⟩
  refine jT.putI 19 0 oh9 rfl kp0 (by decide) rfl rfl rfl (Or.inl rfl) (by show (-2147483648) ≤ z12; omega) (by show z12 ≤ 2147483647; omega) (fun h13 oh13 wh13 uh13 => ?_)
  exact jT.ret oh13 rfl rfl rfl rfl
-- PolyRegisters.keep(I)I
theorem jc_154 {D n : Nat} {tm : Int} {h g : mj_H} {K L : Nat → Nat} {R : Nat → Nat → Nat} {p0 : Nat} {p1 : Int} (ty : jTY K L R) (hg : g.length ≤ n) (o : jO K L R g n tm h) (kp0 : K p0 = 19) (rp1 : -2147483648 ≤ p1 ∧ p1 ≤ 2147483647) : mj_Ok (D + 4) 154 [.ref p0, .int (jn p1)] h (jQ K L R g n tm [0] (jVi (-2147483648) 2147483647)) := by
  refine mj_Ok.of (M := mj_m154) (loc := [some (.ref p0), some (.int (jn p1))]) rfl rfl rfl ?_
  refine mj_T.pl rfl rfl rfl rfl ?_
  refine jT.call rfl rfl (Nat.le_of_ble_eq_true rfl) (Nat.le_of_ble_eq_true rfl) (jrv_of o kp0 (by decide) rfl (by decide) rfl _) rfl (mj_Ok.up (Nat.add_le_add_left (by decide) D) (jc_156 (D := D) ty hg o kp0)) rfl rfl (fun v1 h2 qv1 oh2 => ?_)
  obtain rfl : v1 = none := qv1
  refine mj_T.eq (pc2 := 4) (st2 := []) ?_ rfl rfl rfl rfl
  refine mj_T.pl rfl rfl rfl rfl ?_
  refine jT.getR 19 102 2 ty oh2 rfl kp0 (by decide) rfl rfl rfl (fun k3 => ?_)
  iterate 2 refine mj_T.pl rfl rfl rfl rfl ?_
  refine jT.callp rfl rfl (Nat.le_of_ble_eq_true rfl) (Nat.le_of_ble_eq_true rfl) (jrv_of oh2 kp0 (by decide) rfl (by decide) rfl _) rfl (mj_Ok.up (Nat.add_le_add_left (by decide) D) (jc_149 (D := D) ty hg oh2 kp0 rp1)) rfl rfl (fun v4 qv4 => ?_)
  obtain ⟨a5, ka5, rfl⟩ := qv4
  refine mj_T.eq (pc2 := 13) (st2 := [.ref a5, .ref (R p0 13)]) ?_ rfl rfl rfl rfl
  refine jT.call rfl rfl (Nat.le_of_ble_eq_true rfl) (Nat.le_of_ble_eq_true rfl) rfl rfl (mj_Ok.up (Nat.add_le_add_left (by decide) D) (jc_164 (D := D) ty hg oh2 k3 ka5)) rfl rfl (fun v6 h7 qv6 oh7 => ?_)
  obtain rfl : v6 = none := qv6
  refine mj_T.eq (pc2 := 16) (st2 := []) ?_ rfl rfl rfl rfl
  refine mj_T.pl rfl rfl rfl rfl ?_
  refine jT.getR 19 102 2 ty oh7 rfl kp0 (by decide) rfl rfl rfl (fun k8 => ?_)
  refine jT.callp rfl rfl (Nat.le_of_ble_eq_true rfl) (Nat.le_of_ble_eq_true rfl) rfl rfl (mj_Ok.up (Nat.add_le_add_left (by decide) D) (jc_162 (D := D) ty hg oh7 k8)) rfl rfl (fun v9 qv9 => ?_)
  obtain ⟨z10, az10, bz10, rfl⟩ := qv9
  have rz10 : -2147483648 ≤ z10 ∧ z10 ≤ 2147483647 := ⟨by omega, by omega⟩
  refine mj_T.eq (pc2 := 23) (st2 := [.int (jn z10)]) ?_ rfl rfl rfl rfl
  exact jT.ret oh7 rfl rfl rfl ⟨z10, by omega, by omega, rfl⟩
-- PolyRegisters.told(Z)LPolyRegisters$Wide;
theorem jc_157 {D n : Nat} {tm : Int} {h g : mj_H} {K L : Nat → Nat} {R : Nat → Nat → Nat} {p0 : Nat} {p1 : Int} (ty : jTY K L R) (hg : g.length ≤ n) (o : jO K L R g n tm h) (kp0 : K p0 = 19) (ap1 : 0 ≤ p1 ∧ p1 ≤ 1) : mj_Ok (D + 1) 157 [.ref p0, .int (jn p1)] h (jQp K L R g n tm h [] (jVr K 18)) := by
  have rp1 : -2147483648 ≤ p1 ∧ p1 ≤ 2147483647 := ⟨by omega, by omega⟩
  refine mj_Ok.of (M := mj_m157) (loc := [some (.ref p0), some (.int (jn p1))]) rfl rfl rfl ?_
  refine mj_T.pl rfl rfl rfl rfl ?_
  refine jT.if0 rfl rp1 (fun c1 => ?_) (fun c1 => ?_)
  · have c1 := of_decide_eq_true c1
    refine mj_T.pl rfl rfl rfl rfl ?_
    refine jT.getR 19 118 18 ty o rfl kp0 (by decide) rfl rfl rfl (fun k1 => ?_)
    exact jT.retp rfl rfl rfl ⟨(R p0 11), k1, rfl⟩
  · have c1 := of_decide_eq_false c1
    refine mj_T.pl rfl rfl rfl rfl ?_
    refine jT.getR 19 118 18 ty o rfl kp0 (by decide) rfl rfl rfl (fun k2 => ?_)
    refine mj_T.pl rfl rfl rfl rfl ?_
    exact jT.retp rfl rfl rfl ⟨(R p0 12), k2, rfl⟩
-- PolyRegisters.tellLong(J)I
theorem jc_158 {D n : Nat} {tm : Int} {h g : mj_H} {K L : Nat → Nat} {R : Nat → Nat → Nat} {p0 : Nat} {p1 : Int} (ty : jTY K L R) (hg : g.length ≤ n) (o : jO K L R g n tm h) (kp0 : K p0 = 19) (jp1 : jR p1) : mj_Ok (D + 2) 158 [.ref p0, .long (jl p1)] h (jQ K L R g n tm [] (jVi (-2147483648) 2147483647)) := by
  refine mj_Ok.of (M := mj_m158) (loc := [some (.ref p0), some (.long (jl p1)), none]) rfl rfl rfl ?_
  refine mj_T.pl rfl rfl rfl rfl ?_
  refine jT.getR 19 118 18 ty o rfl kp0 (by decide) rfl rfl rfl (fun k1 => ?_)
  refine mj_T.pl rfl rfl rfl rfl ?_
  refine jT.call rfl rfl (Nat.le_of_ble_eq_true rfl) (Nat.le_of_ble_eq_true rfl) (jrv_of o k1 (by decide) rfl (by decide) rfl _) rfl (mj_Ok.up (Nat.add_le_add_left (by decide) D) (jc_86 (D := D) ty hg o k1 jp1)) rfl rfl (fun v2 h3 qv2 oh3 => ?_)
  obtain rfl : v2 = none := qv2
  refine mj_T.eq (pc2 := 8) (st2 := []) ?_ rfl rfl rfl rfl
  refine mj_T.pl rfl rfl rfl rfl ?_
  refine jT.getR 19 118 18 ty oh3 rfl kp0 (by decide) rfl rfl rfl (fun k4 => ?_)
  refine jT.lc 1 rfl rfl ?_
  refine jT.call rfl rfl (Nat.le_of_ble_eq_true rfl) (Nat.le_of_ble_eq_true rfl) (jrv_of oh3 k4 (by decide) rfl (by decide) rfl _) rfl (mj_Ok.up (Nat.add_le_add_left (by decide) D) (jc_86 (D := D) ty hg oh3 k4 ⟨by decide, by decide⟩)) rfl rfl (fun v5 h6 qv5 oh6 => ?_)
  obtain rfl : v5 = none := qv5
  refine mj_T.eq (pc2 := 16) (st2 := []) ?_ rfl rfl rfl rfl
  refine mj_T.pl rfl rfl rfl rfl ?_
  refine jT.getR 19 118 18 ty oh6 rfl kp0 (by decide) rfl rfl rfl (fun k7 => ?_)
  refine jT.getI 18 0 oh6 rfl k7 (by decide) rfl rfl rfl (fun z8 (az8 : (-2147483648) ≤ z8) (bz8 : z8 ≤ 2147483647) fz8 => ?_)
  have rz8 : -2147483648 ≤ z8 ∧ z8 ≤ 2147483647 := ⟨by omega, by omega⟩
  exact jT.ret oh6 rfl rfl rfl ⟨z8, by omega, by omega, rfl⟩
-- PolyRegisters.tellQuotient(LPolyRegisters$Wide;JI)I
theorem jc_159 {D n : Nat} {tm : Int} {h g : mj_H} {K L : Nat → Nat} {R : Nat → Nat → Nat} {p0 : Nat} {p1 : Nat} {p2 : Int} {p3 : Int} (ty : jTY K L R) (hg : g.length ≤ n) (o : jO K L R g n tm h) (kp0 : K p0 = 19) (kp1 : K p1 = 18) (jp2 : jR p2) (rp3 : -2147483648 ≤ p3 ∧ p3 ≤ 2147483647) : mj_Ok (D + 4) 159 [.ref p0, .ref p1, .long (jl p2), .int (jn p3)] h (jQ K L R g n tm [] (jVi (-2147483648) 2147483647)) := by
  refine mj_Ok.of (M := mj_m159) (loc := [some (.ref p0), some (.ref p1), some (.long (jl p2)), none, some (.int (jn p3)), none, none, none]) rfl rfl rfl ?_
  refine mj_T.pl rfl rfl rfl rfl ?_
  refine jT.getR 19 118 18 ty o rfl kp0 (by decide) rfl rfl rfl (fun k1 => ?_)
  refine mj_T.pl rfl rfl rfl rfl ?_
  refine jT.call rfl rfl (Nat.le_of_ble_eq_true rfl) (Nat.le_of_ble_eq_true rfl) (jrv_of o k1 (by decide) rfl (by decide) rfl _) rfl (mj_Ok.up (Nat.add_le_add_left (by decide) D) (jc_87 (D := D) ty hg o k1 kp1)) rfl rfl (fun v2 h3 qv2 oh3 => ?_)
  obtain rfl : v2 = none := qv2
  refine mj_T.eq (pc2 := 8) (st2 := []) ?_ rfl rfl rfl rfl
  refine mj_T.pl rfl rfl rfl rfl ?_
  refine jT.getR 19 118 18 ty oh3 rfl kp0 (by decide) rfl rfl rfl (fun k4 => ?_)
  refine jT.lc 1 rfl rfl ?_
  refine jT.call rfl rfl (Nat.le_of_ble_eq_true rfl) (Nat.le_of_ble_eq_true rfl) (jrv_of oh3 k4 (by decide) rfl (by decide) rfl _) rfl (mj_Ok.up (Nat.add_le_add_left (by decide) D) (jc_86 (D := D) ty hg oh3 k4 ⟨by decide, by decide⟩)) rfl rfl (fun v5 h6 qv5 oh6 => ?_)
  obtain rfl : v5 = none := qv5
  refine mj_T.eq (pc2 := 16) (st2 := []) ?_ rfl rfl rfl rfl
  refine mj_T.pl rfl rfl rfl rfl ?_
  refine mj_T.pl (loc' := [some (.ref p0), some (.ref p1), some (.long (jl p2)), none, some (.int (jn p3)), some (.int (jn 0)), none, none]) rfl rfl rfl rfl ?_
  have t19_10 : ∀ (k11 : Nat) (x7 : Int) (w8 : Option Value) (h9 : mj_H), (-2147483648 ≤ x7 ∧ x7 ≤ 2147483647) → (jO K L R g n tm h9) → (0 ≤ x7) → (2147483647 - x7 : Int).toNat = k11 → mj_T (D + 3) mj_m159 19 [some (.ref p0), some (.ref p1), some (.long (jl p2)), none, some (.int (jn p3)), some (.int (jn x7)), w8, none] [] h9 (jQ K L R g n tm [] (jVi (-2147483648) 2147483647)) := by
    refine jInd (fun k11 ih12 => ?_)
    intro x7 w8 h9 rx7 oh9 ix7 hm13
    refine mj_T.pl rfl rfl rfl rfl ?_
    refine mj_T.pl rfl rfl rfl rfl ?_
    refine jT.icmp rfl rx7 rp3 (fun c23 => ?_) (fun c23 => ?_)
    · have c23 := of_decide_eq_true c23
      refine mj_T.pl rfl rfl rfl rfl ?_
      refine jT.getR 19 118 18 ty oh9 rfl kp0 (by decide) rfl rfl rfl (fun k14 => ?_)
      refine jT.getI 18 0 oh9 rfl k14 (by decide) rfl rfl rfl (fun z15 (az15 : (-2147483648) ≤ z15) (bz15 : z15 ≤ 2147483647) fz15 => ?_)
      have rz15 : -2147483648 ≤ z15 ∧ z15 ≤ 2147483647 := ⟨by omega, by omega⟩
      exact jT.ret oh9 rfl rfl rfl ⟨z15, by omega, by omega, rfl⟩
    · have c23 := of_decide_eq_false c23
      refine mj_T.pl rfl rfl rfl rfl ?_
      refine jT.getR 19 111 11 ty oh9 rfl kp0 (by decide) rfl rfl rfl (fun k16 => ?_)
      refine mj_T.pl rfl rfl rfl rfl ?_
      refine jT.getR 19 118 18 ty oh9 rfl kp0 (by decide) rfl rfl rfl (fun k17 => ?_)
      refine mj_T.pl rfl rfl rfl rfl ?_
      refine jT.call rfl rfl (Nat.le_of_ble_eq_true rfl) (Nat.le_of_ble_eq_true rfl) (jrv_of oh9 k16 (by decide) rfl (by decide) rfl _) rfl (mj_Ok.up (Nat.add_le_add_left (by decide) D) (jc_23 (D := D) ty hg oh9 k16 k17 jp2)) rfl rfl (fun v18 h19 qv18 oh19 => ?_)
      obtain ⟨z20, jz20, rfl⟩ := qv18
      refine mj_T.eq (pc2 := 38) (st2 := [.long (jl z20)]) ?_ rfl rfl rfl rfl
      refine mj_T.pl (loc' := [some (.ref p0), some (.ref p1), some (.long (jl p2)), none, some (.int (jn p3)), some (.int (jn x7)), some (.long (jl z20)), none]) rfl rfl rfl rfl ?_
      refine mj_T.pl rfl rfl rfl rfl ?_
      refine jT.getR 19 111 11 ty oh19 rfl kp0 (by decide) rfl rfl rfl (fun k21 => ?_)
      refine mj_T.pl rfl rfl rfl rfl ?_
      refine jT.getR 19 118 18 ty oh19 rfl kp0 (by decide) rfl rfl rfl (fun k22 => ?_)
      refine mj_T.pl rfl rfl rfl rfl ?_
      refine jT.call rfl rfl (Nat.le_of_ble_eq_true rfl) (Nat.le_of_ble_eq_true rfl) (jrv_of oh19 k21 (by decide) rfl (by decide) rfl _) rfl (mj_Ok.up (Nat.add_le_add_left (by decide) D) (jc_25 (D := D) ty hg oh19 k21 k22 jz20)) rfl rfl (fun v23 h24 qv23 oh24 => ?_)
      obtain rfl : v23 = none := qv23
      refine mj_T.eq (pc2 := 53) (st2 := []) ?_ rfl rfl rfl rfl
      refine mj_T.pl rfl rfl rfl rfl ?_
      refine jT.getR 19 111 11 ty oh24 rfl kp0 (by decide) rfl rfl rfl (fun k25 => ?_)
      refine mj_T.pl rfl rfl rfl rfl ?_
      refine jT.getR 19 118 18 ty oh24 rfl kp0 (by decide) rfl rfl rfl (fun k26 => ?_)
      refine mj_T.pl rfl rfl rfl rfl ?_
      refine jT.lc 0 rfl rfl ?_
      refine mj_T.lif rfl rfl jz20 ⟨by decide, by decide⟩ (fun c64 => ?_) (fun c64 => ?_)
      · have c64 := jne1 c64
        iterate 2 refine mj_T.pl rfl rfl rfl rfl ?_
        refine jT.ldiv rfl jz20 (by omega) (fun z27 jz27 => ?_)
        refine jT.call rfl rfl (Nat.le_of_ble_eq_true rfl) (Nat.le_of_ble_eq_true rfl) (jrv_of oh24 k25 (by decide) rfl (by decide) rfl _) rfl (mj_Ok.up (Nat.add_le_add_left (by decide) D) (jc_24 (D := D) ty hg oh24 k25 k26 jz27)) rfl rfl (fun v28 h29 qv28 oh29 => ?_)
        obtain rfl : v28 = none := qv28
        refine mj_T.eq (pc2 := 79) (st2 := []) ?_ rfl rfl rfl rfl
        refine jT.iinc rfl rfl (fun z30 rz30 ez30 => ?_)
        replace ez30 := ez30 ⟨by omega, by omega⟩
        refine mj_T.eq (loc2 := [some (.ref p0), some (.ref p1), some (.long (jl p2)), none, some (.int (jn p3)), some (.int (jn z30)), some (.long (jl z20)), none]) ?_ rfl rfl rfl rfl
        refine mj_T.pl rfl rfl rfl rfl ?_
        exact ih12 ((2147483647 - z30 : Int).toNat) (by omega) z30 (some (.long (jl z20))) h29 rz30 oh29 (by omega) rfl
      · have c64 := jne2 c64
        iterate 2 refine mj_T.pl rfl rfl rfl rfl ?_
        refine jT.call rfl rfl (Nat.le_of_ble_eq_true rfl) (Nat.le_of_ble_eq_true rfl) (jrv_of oh24 k25 (by decide) rfl (by decide) rfl _) rfl (mj_Ok.up (Nat.add_le_add_left (by decide) D) (jc_24 (D := D) ty hg oh24 k25 k26 jp2)) rfl rfl (fun v31 h32 qv31 oh32 => ?_)
        obtain rfl : v31 = none := qv31
        refine mj_T.eq (pc2 := 79) (st2 := []) ?_ rfl rfl rfl rfl
        refine jT.iinc rfl rfl (fun z33 rz33 ez33 => ?_)
        replace ez33 := ez33 ⟨by omega, by omega⟩
        refine mj_T.eq (loc2 := [some (.ref p0), some (.ref p1), some (.long (jl p2)), none, some (.int (jn p3)), some (.int (jn z33)), some (.long (jl z20)), none]) ?_ rfl rfl rfl rfl
        refine mj_T.pl rfl rfl rfl rfl ?_
        exact ih12 ((2147483647 - z33 : Int).toNat) (by omega) z33 (some (.long (jl z20))) h32 rz33 oh32 (by omega) rfl
  exact t19_10 _ 0 none h6 ⟨by decide, by decide⟩ oh6 (by omega) rfl
-- PolyRegisters.bytesIn(I)I
theorem jc_160 {D n : Nat} {tm : Int} {h g : mj_H} {K L : Nat → Nat} {R : Nat → Nat → Nat} {p0 : Int} (ty : jTY K L R) (hg : g.length ≤ n) (o : jO K L R g n tm h) (rp0 : -2147483648 ≤ p0 ∧ p0 ≤ 2147483647) : mj_Ok (D + 1) 160 [.int (jn p0)] h (jQp K L R g n tm h [] (jVi (-2147483648) 2147483647)) := by
  refine mj_Ok.of (M := mj_m160) (loc := [some (.int (jn p0)), none, none]) rfl rfl rfl ?_
  refine mj_T.pl rfl rfl rfl rfl ?_
  refine mj_T.pl (loc' := [some (.int (jn p0)), some (.int (jn 0)), none]) rfl rfl rfl rfl ?_
  refine mj_T.pl rfl rfl rfl rfl ?_
  refine mj_T.pl (loc' := [some (.int (jn p0)), some (.int (jn 0)), some (.int (jn 24))]) rfl rfl rfl rfl ?_
  have t5_3 : ∀ (k4 : Nat) (x1 : Int) (x2 : Int), (-2147483648 ≤ x1 ∧ x1 ≤ 2147483647) → (-2147483648 ≤ x2 ∧ x2 ≤ 2147483647) → (x2 ≤ 24) → (x2 + 1 : Int).toNat = k4 → mj_T (D + 0) mj_m160 5 [some (.int (jn p0)), some (.int (jn x1)), some (.int (jn x2))] [] h (jQp K L R g n tm h [] (jVi (-2147483648) 2147483647)) := by
    refine jInd (fun k4 ih5 => ?_)
    intro x1 x2 rx1 rx2 ix2 hm6
    refine mj_T.pl rfl rfl rfl rfl ?_
    refine jT.if0 rfl rx2 (fun c6 => ?_) (fun c6 => ?_)
    · have c6 := of_decide_eq_true c6
      refine mj_T.pl rfl rfl rfl rfl ?_
      exact jT.retp rfl rfl rfl ⟨x1, by omega, by omega, rfl⟩
    · have c6 := of_decide_eq_false c6
      iterate 2 refine mj_T.pl rfl rfl rfl rfl ?_
      refine mj_T.pl rfl rfl rfl rfl ?_
      refine jT.anyI (fun z7 rz7 => ?_)
      refine mj_T.pl rfl rfl rfl rfl ?_
      refine mj_T.pl rfl rfl rfl rfl ?_
      refine jT.anyI (fun z8 rz8 => ?_)
      refine jT.if0 rfl rz8 (fun c16 => ?_) (fun c16 => ?_)
      · have c16 := of_decide_eq_true c16
        refine jT.iinc rfl rfl (fun z9 rz9 ez9 => ?_)
        replace ez9 := ez9 ⟨by omega, by omega⟩
        refine mj_T.eq (loc2 := [some (.int (jn p0)), some (.int (jn x1)), some (.int (jn z9))]) ?_ rfl rfl rfl rfl
        refine mj_T.pl rfl rfl rfl rfl ?_
        exact ih5 ((z9 + 1 : Int).toNat) (by omega) x1 z9 rx1 rz9 (by omega) rfl
      · have c16 := of_decide_eq_false c16
        refine jT.iinc rfl rfl (fun z10 rz10 ez10 => ?_)
        clear ez10
        refine mj_T.eq (loc2 := [some (.int (jn p0)), some (.int (jn z10)), some (.int (jn x2))]) ?_ rfl rfl rfl rfl
        refine jT.iinc rfl rfl (fun z11 rz11 ez11 => ?_)
        replace ez11 := ez11 ⟨by omega, by omega⟩
        refine mj_T.eq (loc2 := [some (.int (jn p0)), some (.int (jn z10)), some (.int (jn z11))]) ?_ rfl rfl rfl rfl
        refine mj_T.pl rfl rfl rfl rfl ?_
        exact ih5 ((z11 + 1 : Int).toNat) (by omega) z10 z11 rz10 rz11 (by omega) rfl
  exact t5_3 _ 0 24 ⟨by decide, by decide⟩ ⟨by decide, by decide⟩ (by omega) rfl
/-! The class by kinds: what others call. -/
-- PolyRegisters.add(III)I
theorem jc_102 {D n : Nat} {tm : Int} {h g : mj_H} {K L : Nat → Nat} {R : Nat → Nat → Nat} {p0 : Nat} {p1 : Int} {p2 : Int} {p3 : Int} (ty : jTY K L R) (hg : g.length ≤ n) (o : jO K L R g n tm h) (kp0 : K p0 = 19) (rp1 : -2147483648 ≤ p1 ∧ p1 ≤ 2147483647) (rp2 : -2147483648 ≤ p2 ∧ p2 ≤ 2147483647) (rp3 : -2147483648 ≤ p3 ∧ p3 ≤ 2147483647) : mj_Ok (D + 5) 102 [.ref p0, .int (jn p1), .int (jn p2), .int (jn p3)] h (jQ K L R g n tm [0, 1] (jVi (-2147483648) 2147483647)) := by
  refine mj_Ok.of (M := mj_m102) (loc := [some (.ref p0), some (.int (jn p1)), some (.int (jn p2)), some (.int (jn p3))]) rfl rfl rfl ?_
  iterate 2 refine mj_T.pl rfl rfl rfl rfl ?_
  refine jT.callp rfl rfl (Nat.le_of_ble_eq_true rfl) (Nat.le_of_ble_eq_true rfl) (jrv_of o kp0 (by decide) rfl (by decide) rfl _) rfl (mj_Ok.up (Nat.add_le_add_left (by decide) D) (jc_149 (D := D) ty hg o kp0 rp1)) rfl rfl (fun v1 qv1 => ?_)
  obtain ⟨a2, ka2, rfl⟩ := qv1
  refine mj_T.eq (pc2 := 5) (st2 := [.ref a2]) ?_ rfl rfl rfl rfl
  iterate 3 refine mj_T.pl rfl rfl rfl rfl ?_
  refine jT.callp rfl rfl (Nat.le_of_ble_eq_true rfl) (Nat.le_of_ble_eq_true rfl) (jrv_of o kp0 (by decide) rfl (by decide) rfl _) rfl (mj_Ok.up (Nat.add_le_add_left (by decide) D) (jc_149 (D := D) ty hg o kp0 rp2)) rfl rfl (fun v3 qv3 => ?_)
  obtain ⟨a4, ka4, rfl⟩ := qv3
  refine mj_T.eq (pc2 := 11) (st2 := [.ref a4]) ?_ rfl rfl rfl rfl
  iterate 2 refine mj_T.pl rfl rfl rfl rfl ?_
  refine jT.callp rfl rfl (Nat.le_of_ble_eq_true rfl) (Nat.le_of_ble_eq_true rfl) (jrv_of o kp0 (by decide) rfl (by decide) rfl _) rfl (mj_Ok.up (Nat.add_le_add_left (by decide) D) (jc_149 (D := D) ty hg o kp0 rp3)) rfl rfl (fun v5 qv5 => ?_)
  obtain ⟨a6, ka6, rfl⟩ := qv5
  refine mj_T.eq (pc2 := 16) (st2 := [.ref a6, .ref a4]) ?_ rfl rfl rfl rfl
  iterate 2 refine mj_T.pl rfl rfl rfl rfl ?_
  refine jT.getR 19 102 2 ty o rfl kp0 (by decide) rfl rfl rfl (fun k7 => ?_)
  refine jT.call rfl rfl (Nat.le_of_ble_eq_true rfl) (Nat.le_of_ble_eq_true rfl) rfl rfl (mj_Ok.up (Nat.add_le_add_left (by decide) D) (jc_167 (D := D) ty hg o ka4 ka6 ⟨by decide, by decide⟩ k7)) rfl rfl (fun v8 h9 qv8 oh9 => ?_)
  obtain ⟨z10, az10, bz10, rfl⟩ := qv8
  have rz10 : -2147483648 ≤ z10 ∧ z10 ≤ 2147483647 := ⟨by omega, by omega⟩
  refine mj_T.eq (pc2 := 24) (st2 := [.int (jn z10)]) ?_ rfl rfl rfl rfl
  refine jT.if0 rfl rz10 (fun c24 => ?_) (fun c24 => ?_)
  · have c24 := jne1 c24
    iterate 2 refine mj_T.pl rfl rfl rfl rfl ?_
    refine jT.call rfl rfl (Nat.le_of_ble_eq_true rfl) (Nat.le_of_ble_eq_true rfl) (jrv_of oh9 kp0 (by decide) rfl (by decide) rfl _) rfl (mj_Ok.up (Nat.add_le_add_left (by decide) D) (jc_154 (D := D) ty hg oh9 kp0 rp1)) rfl rfl (fun v11 h12 qv11 oh12 => ?_)
    obtain ⟨z13, az13, bz13, rfl⟩ := qv11
    have rz13 : -2147483648 ≤ z13 ∧ z13 ≤ 2147483647 := ⟨by omega, by omega⟩
    refine mj_T.eq (pc2 := 40) (st2 := [.int (jn z13)]) ?_ rfl rfl rfl rfl
    exact jT.ret oh12 rfl rfl rfl ⟨z13, by omega, by omega, rfl⟩
  · have c24 := jne2 c24
    exact jT.thr oh9 hg rfl rfl rfl (Nat.le_of_ble_eq_true rfl) rfl
-- PolyRegisters.subtract(III)I
theorem jc_103 {D n : Nat} {tm : Int} {h g : mj_H} {K L : Nat → Nat} {R : Nat → Nat → Nat} {p0 : Nat} {p1 : Int} {p2 : Int} {p3 : Int} (ty : jTY K L R) (hg : g.length ≤ n) (o : jO K L R g n tm h) (kp0 : K p0 = 19) (rp1 : -2147483648 ≤ p1 ∧ p1 ≤ 2147483647) (rp2 : -2147483648 ≤ p2 ∧ p2 ≤ 2147483647) (rp3 : -2147483648 ≤ p3 ∧ p3 ≤ 2147483647) : mj_Ok (D + 5) 103 [.ref p0, .int (jn p1), .int (jn p2), .int (jn p3)] h (jQ K L R g n tm [0, 1] (jVi (-2147483648) 2147483647)) := by
  refine mj_Ok.of (M := mj_m103) (loc := [some (.ref p0), some (.int (jn p1)), some (.int (jn p2)), some (.int (jn p3))]) rfl rfl rfl ?_
  iterate 2 refine mj_T.pl rfl rfl rfl rfl ?_
  refine jT.callp rfl rfl (Nat.le_of_ble_eq_true rfl) (Nat.le_of_ble_eq_true rfl) (jrv_of o kp0 (by decide) rfl (by decide) rfl _) rfl (mj_Ok.up (Nat.add_le_add_left (by decide) D) (jc_149 (D := D) ty hg o kp0 rp1)) rfl rfl (fun v1 qv1 => ?_)
  obtain ⟨a2, ka2, rfl⟩ := qv1
  refine mj_T.eq (pc2 := 5) (st2 := [.ref a2]) ?_ rfl rfl rfl rfl
  iterate 3 refine mj_T.pl rfl rfl rfl rfl ?_
  refine jT.callp rfl rfl (Nat.le_of_ble_eq_true rfl) (Nat.le_of_ble_eq_true rfl) (jrv_of o kp0 (by decide) rfl (by decide) rfl _) rfl (mj_Ok.up (Nat.add_le_add_left (by decide) D) (jc_149 (D := D) ty hg o kp0 rp2)) rfl rfl (fun v3 qv3 => ?_)
  obtain ⟨a4, ka4, rfl⟩ := qv3
  refine mj_T.eq (pc2 := 11) (st2 := [.ref a4]) ?_ rfl rfl rfl rfl
  iterate 2 refine mj_T.pl rfl rfl rfl rfl ?_
  refine jT.callp rfl rfl (Nat.le_of_ble_eq_true rfl) (Nat.le_of_ble_eq_true rfl) (jrv_of o kp0 (by decide) rfl (by decide) rfl _) rfl (mj_Ok.up (Nat.add_le_add_left (by decide) D) (jc_149 (D := D) ty hg o kp0 rp3)) rfl rfl (fun v5 qv5 => ?_)
  obtain ⟨a6, ka6, rfl⟩ := qv5
  refine mj_T.eq (pc2 := 16) (st2 := [.ref a6, .ref a4]) ?_ rfl rfl rfl rfl
  iterate 2 refine mj_T.pl rfl rfl rfl rfl ?_
  refine jT.getR 19 102 2 ty o rfl kp0 (by decide) rfl rfl rfl (fun k7 => ?_)
  refine jT.call rfl rfl (Nat.le_of_ble_eq_true rfl) (Nat.le_of_ble_eq_true rfl) rfl rfl (mj_Ok.up (Nat.add_le_add_left (by decide) D) (jc_167 (D := D) ty hg o ka4 ka6 ⟨by decide, by decide⟩ k7)) rfl rfl (fun v8 h9 qv8 oh9 => ?_)
  obtain ⟨z10, az10, bz10, rfl⟩ := qv8
  have rz10 : -2147483648 ≤ z10 ∧ z10 ≤ 2147483647 := ⟨by omega, by omega⟩
  refine mj_T.eq (pc2 := 24) (st2 := [.int (jn z10)]) ?_ rfl rfl rfl rfl
  refine jT.if0 rfl rz10 (fun c24 => ?_) (fun c24 => ?_)
  · have c24 := jne1 c24
    iterate 2 refine mj_T.pl rfl rfl rfl rfl ?_
    refine jT.call rfl rfl (Nat.le_of_ble_eq_true rfl) (Nat.le_of_ble_eq_true rfl) (jrv_of oh9 kp0 (by decide) rfl (by decide) rfl _) rfl (mj_Ok.up (Nat.add_le_add_left (by decide) D) (jc_154 (D := D) ty hg oh9 kp0 rp1)) rfl rfl (fun v11 h12 qv11 oh12 => ?_)
    obtain ⟨z13, az13, bz13, rfl⟩ := qv11
    have rz13 : -2147483648 ≤ z13 ∧ z13 ≤ 2147483647 := ⟨by omega, by omega⟩
    refine mj_T.eq (pc2 := 40) (st2 := [.int (jn z13)]) ?_ rfl rfl rfl rfl
    exact jT.ret oh12 rfl rfl rfl ⟨z13, by omega, by omega, rfl⟩
  · have c24 := jne2 c24
    exact jT.thr oh9 hg rfl rfl rfl (Nat.le_of_ble_eq_true rfl) rfl
-- PolyRegisters.multiply(III)I
theorem jc_104 {D n : Nat} {tm : Int} {h g : mj_H} {K L : Nat → Nat} {R : Nat → Nat → Nat} {p0 : Nat} {p1 : Int} {p2 : Int} {p3 : Int} (ty : jTY K L R) (hg : g.length ≤ n) (o : jO K L R g n tm h) (kp0 : K p0 = 19) (rp1 : -2147483648 ≤ p1 ∧ p1 ≤ 2147483647) (rp2 : -2147483648 ≤ p2 ∧ p2 ≤ 2147483647) (rp3 : -2147483648 ≤ p3 ∧ p3 ≤ 2147483647) : mj_Ok (D + 5) 104 [.ref p0, .int (jn p1), .int (jn p2), .int (jn p3)] h (jQ K L R g n tm [0, 1] (jVi (-2147483648) 2147483647)) := by
  refine mj_Ok.of (M := mj_m104) (loc := [some (.ref p0), some (.int (jn p1)), some (.int (jn p2)), some (.int (jn p3))]) rfl rfl rfl ?_
  iterate 2 refine mj_T.pl rfl rfl rfl rfl ?_
  refine jT.callp rfl rfl (Nat.le_of_ble_eq_true rfl) (Nat.le_of_ble_eq_true rfl) (jrv_of o kp0 (by decide) rfl (by decide) rfl _) rfl (mj_Ok.up (Nat.add_le_add_left (by decide) D) (jc_149 (D := D) ty hg o kp0 rp1)) rfl rfl (fun v1 qv1 => ?_)
  obtain ⟨a2, ka2, rfl⟩ := qv1
  refine mj_T.eq (pc2 := 5) (st2 := [.ref a2]) ?_ rfl rfl rfl rfl
  iterate 2 refine mj_T.pl rfl rfl rfl rfl ?_
  refine jT.getR 19 111 11 ty o rfl kp0 (by decide) rfl rfl rfl (fun k3 => ?_)
  iterate 2 refine mj_T.pl rfl rfl rfl rfl ?_
  refine jT.callp rfl rfl (Nat.le_of_ble_eq_true rfl) (Nat.le_of_ble_eq_true rfl) (jrv_of o kp0 (by decide) rfl (by decide) rfl _) rfl (mj_Ok.up (Nat.add_le_add_left (by decide) D) (jc_149 (D := D) ty hg o kp0 rp2)) rfl rfl (fun v4 qv4 => ?_)
  obtain ⟨a5, ka5, rfl⟩ := qv4
  refine mj_T.eq (pc2 := 15) (st2 := [.ref a5, .ref (R p0 7)]) ?_ rfl rfl rfl rfl
  iterate 2 refine mj_T.pl rfl rfl rfl rfl ?_
  refine jT.callp rfl rfl (Nat.le_of_ble_eq_true rfl) (Nat.le_of_ble_eq_true rfl) (jrv_of o kp0 (by decide) rfl (by decide) rfl _) rfl (mj_Ok.up (Nat.add_le_add_left (by decide) D) (jc_149 (D := D) ty hg o kp0 rp3)) rfl rfl (fun v6 qv6 => ?_)
  obtain ⟨a7, ka7, rfl⟩ := qv6
  refine mj_T.eq (pc2 := 20) (st2 := [.ref a7, .ref a5, .ref (R p0 7)]) ?_ rfl rfl rfl rfl
  refine mj_T.pl rfl rfl rfl rfl ?_
  refine jT.getR 19 102 2 ty o rfl kp0 (by decide) rfl rfl rfl (fun k8 => ?_)
  refine jT.call rfl rfl (Nat.le_of_ble_eq_true rfl) (Nat.le_of_ble_eq_true rfl) (jrv_of o k3 (by decide) rfl (by decide) rfl _) rfl (mj_Ok.up (Nat.add_le_add_left (by decide) D) (jc_11 (D := D) ty hg o k3 ka5 ka7 k8)) rfl rfl (fun v9 h10 qv9 oh10 => ?_)
  obtain ⟨z11, az11, bz11, rfl⟩ := qv9
  have rz11 : -2147483648 ≤ z11 ∧ z11 ≤ 2147483647 := ⟨by omega, by omega⟩
  refine mj_T.eq (pc2 := 27) (st2 := [.int (jn z11)]) ?_ rfl rfl rfl rfl
  refine jT.if0 rfl rz11 (fun c27 => ?_) (fun c27 => ?_)
  · have c27 := jne1 c27
    iterate 2 refine mj_T.pl rfl rfl rfl rfl ?_
    refine jT.call rfl rfl (Nat.le_of_ble_eq_true rfl) (Nat.le_of_ble_eq_true rfl) (jrv_of oh10 kp0 (by decide) rfl (by decide) rfl _) rfl (mj_Ok.up (Nat.add_le_add_left (by decide) D) (jc_154 (D := D) ty hg oh10 kp0 rp1)) rfl rfl (fun v12 h13 qv12 oh13 => ?_)
    obtain ⟨z14, az14, bz14, rfl⟩ := qv12
    have rz14 : -2147483648 ≤ z14 ∧ z14 ≤ 2147483647 := ⟨by omega, by omega⟩
    refine mj_T.eq (pc2 := 43) (st2 := [.int (jn z14)]) ?_ rfl rfl rfl rfl
    exact jT.ret oh13 rfl rfl rfl ⟨z14, by omega, by omega, rfl⟩
  · have c27 := jne2 c27
    exact jT.thr oh10 hg rfl rfl rfl (Nat.le_of_ble_eq_true rfl) rfl
-- PolyRegisters.power(III)I
theorem jc_105 {D n : Nat} {tm : Int} {h g : mj_H} {K L : Nat → Nat} {R : Nat → Nat → Nat} {p0 : Nat} {p1 : Int} {p2 : Int} {p3 : Int} (ty : jTY K L R) (hg : g.length ≤ n) (o : jO K L R g n tm h) (kp0 : K p0 = 19) (rp1 : -2147483648 ≤ p1 ∧ p1 ≤ 2147483647) (rp2 : -2147483648 ≤ p2 ∧ p2 ≤ 2147483647) (rp3 : -2147483648 ≤ p3 ∧ p3 ≤ 2147483647) : mj_Ok (D + 5) 105 [.ref p0, .int (jn p1), .int (jn p2), .int (jn p3)] h (jQ K L R g n tm [0, 2, 1] (jVi (-2147483648) 2147483647)) := by
  refine mj_Ok.of (M := mj_m105) (loc := [some (.ref p0), some (.int (jn p1)), some (.int (jn p2)), some (.int (jn p3)), none]) rfl rfl rfl ?_
  iterate 2 refine mj_T.pl rfl rfl rfl rfl ?_
  refine jT.callp rfl rfl (Nat.le_of_ble_eq_true rfl) (Nat.le_of_ble_eq_true rfl) (jrv_of o kp0 (by decide) rfl (by decide) rfl _) rfl (mj_Ok.up (Nat.add_le_add_left (by decide) D) (jc_149 (D := D) ty hg o kp0 rp1)) rfl rfl (fun v1 qv1 => ?_)
  obtain ⟨a2, ka2, rfl⟩ := qv1
  refine mj_T.eq (pc2 := 5) (st2 := [.ref a2]) ?_ rfl rfl rfl rfl
  iterate 3 refine mj_T.pl rfl rfl rfl rfl ?_
  refine jT.callp rfl rfl (Nat.le_of_ble_eq_true rfl) (Nat.le_of_ble_eq_true rfl) (jrv_of o kp0 (by decide) rfl (by decide) rfl _) rfl (mj_Ok.up (Nat.add_le_add_left (by decide) D) (jc_149 (D := D) ty hg o kp0 rp2)) rfl rfl (fun v3 qv3 => ?_)
  obtain ⟨a4, ka4, rfl⟩ := qv3
  refine mj_T.eq (pc2 := 11) (st2 := [.ref a4]) ?_ rfl rfl rfl rfl
  refine mj_T.pl (loc' := [some (.ref p0), some (.int (jn p1)), some (.int (jn p2)), some (.int (jn p3)), some (.ref a4)]) rfl rfl rfl rfl ?_
  refine mj_T.pl rfl rfl rfl rfl ?_
  refine jT.callp rfl rfl (Nat.le_of_ble_eq_true rfl) (Nat.le_of_ble_eq_true rfl) rfl rfl (mj_Ok.up (Nat.add_le_add_left (by decide) D) (jc_150 (D := D) ty hg o rp3)) rfl rfl (fun v5 qv5 => ?_)
  obtain ⟨rfl, fv5⟩ := qv5
  refine mj_T.eq (pc2 := 17) (st2 := []) ?_ rfl rfl rfl rfl
  refine mj_T.pl rfl rfl rfl rfl ?_
  refine jT.getR 19 111 11 ty o rfl kp0 (by decide) rfl rfl rfl (fun k6 => ?_)
  iterate 3 refine mj_T.pl rfl rfl rfl rfl ?_
  refine jT.getR 19 102 2 ty o rfl kp0 (by decide) rfl rfl rfl (fun k7 => ?_)
  refine jT.call rfl rfl (Nat.le_of_ble_eq_true rfl) (Nat.le_of_ble_eq_true rfl) (jrv_of o k6 (by decide) rfl (by decide) rfl _) rfl (mj_Ok.up (Nat.add_le_add_left (by decide) D) (jc_12 (D := D) ty hg o k6 ka4 rp3 k7)) rfl rfl (fun v8 h9 qv8 oh9 => ?_)
  obtain ⟨z10, az10, bz10, rfl⟩ := qv8
  have rz10 : -2147483648 ≤ z10 ∧ z10 ≤ 2147483647 := ⟨by omega, by omega⟩
  refine mj_T.eq (pc2 := 31) (st2 := [.int (jn z10)]) ?_ rfl rfl rfl rfl
  refine jT.if0 rfl rz10 (fun c31 => ?_) (fun c31 => ?_)
  · have c31 := jne1 c31
    iterate 2 refine mj_T.pl rfl rfl rfl rfl ?_
    refine jT.call rfl rfl (Nat.le_of_ble_eq_true rfl) (Nat.le_of_ble_eq_true rfl) (jrv_of oh9 kp0 (by decide) rfl (by decide) rfl _) rfl (mj_Ok.up (Nat.add_le_add_left (by decide) D) (jc_154 (D := D) ty hg oh9 kp0 rp1)) rfl rfl (fun v11 h12 qv11 oh12 => ?_)
    obtain ⟨z13, az13, bz13, rfl⟩ := qv11
    have rz13 : -2147483648 ≤ z13 ∧ z13 ≤ 2147483647 := ⟨by omega, by omega⟩
    refine mj_T.eq (pc2 := 47) (st2 := [.int (jn z13)]) ?_ rfl rfl rfl rfl
    exact jT.ret oh12 rfl rfl rfl ⟨z13, by omega, by omega, rfl⟩
  · have c31 := jne2 c31
    exact jT.thr oh9 hg rfl rfl rfl (Nat.le_of_ble_eq_true rfl) rfl
-- PolyRegisters.derive(II)I
theorem jc_106 {D n : Nat} {tm : Int} {h g : mj_H} {K L : Nat → Nat} {R : Nat → Nat → Nat} {p0 : Nat} {p1 : Int} {p2 : Int} (ty : jTY K L R) (hg : g.length ≤ n) (o : jO K L R g n tm h) (kp0 : K p0 = 19) (rp1 : -2147483648 ≤ p1 ∧ p1 ≤ 2147483647) (rp2 : -2147483648 ≤ p2 ∧ p2 ≤ 2147483647) : mj_Ok (D + 5) 106 [.ref p0, .int (jn p1), .int (jn p2)] h (jQ K L R g n tm [0, 1] (jVi (-2147483648) 2147483647)) := by
  refine mj_Ok.of (M := mj_m106) (loc := [some (.ref p0), some (.int (jn p1)), some (.int (jn p2))]) rfl rfl rfl ?_
  iterate 2 refine mj_T.pl rfl rfl rfl rfl ?_
  refine jT.callp rfl rfl (Nat.le_of_ble_eq_true rfl) (Nat.le_of_ble_eq_true rfl) (jrv_of o kp0 (by decide) rfl (by decide) rfl _) rfl (mj_Ok.up (Nat.add_le_add_left (by decide) D) (jc_149 (D := D) ty hg o kp0 rp1)) rfl rfl (fun v1 qv1 => ?_)
  obtain ⟨a2, ka2, rfl⟩ := qv1
  refine mj_T.eq (pc2 := 5) (st2 := [.ref a2]) ?_ rfl rfl rfl rfl
  iterate 3 refine mj_T.pl rfl rfl rfl rfl ?_
  refine jT.callp rfl rfl (Nat.le_of_ble_eq_true rfl) (Nat.le_of_ble_eq_true rfl) (jrv_of o kp0 (by decide) rfl (by decide) rfl _) rfl (mj_Ok.up (Nat.add_le_add_left (by decide) D) (jc_149 (D := D) ty hg o kp0 rp2)) rfl rfl (fun v3 qv3 => ?_)
  obtain ⟨a4, ka4, rfl⟩ := qv3
  refine mj_T.eq (pc2 := 11) (st2 := [.ref a4]) ?_ rfl rfl rfl rfl
  refine mj_T.pl rfl rfl rfl rfl ?_
  refine jT.getR 19 102 2 ty o rfl kp0 (by decide) rfl rfl rfl (fun k5 => ?_)
  refine jT.call rfl rfl (Nat.le_of_ble_eq_true rfl) (Nat.le_of_ble_eq_true rfl) rfl rfl (mj_Ok.up (Nat.add_le_add_left (by decide) D) (jc_168 (D := D) ty hg o ka4 k5)) rfl rfl (fun v6 h7 qv6 oh7 => ?_)
  obtain ⟨z8, az8, bz8, rfl⟩ := qv6
  have rz8 : -2147483648 ≤ z8 ∧ z8 ≤ 2147483647 := ⟨by omega, by omega⟩
  refine mj_T.eq (pc2 := 18) (st2 := [.int (jn z8)]) ?_ rfl rfl rfl rfl
  refine jT.if0 rfl rz8 (fun c18 => ?_) (fun c18 => ?_)
  · have c18 := jne1 c18
    iterate 2 refine mj_T.pl rfl rfl rfl rfl ?_
    refine jT.call rfl rfl (Nat.le_of_ble_eq_true rfl) (Nat.le_of_ble_eq_true rfl) (jrv_of oh7 kp0 (by decide) rfl (by decide) rfl _) rfl (mj_Ok.up (Nat.add_le_add_left (by decide) D) (jc_154 (D := D) ty hg oh7 kp0 rp1)) rfl rfl (fun v9 h10 qv9 oh10 => ?_)
    obtain ⟨z11, az11, bz11, rfl⟩ := qv9
    have rz11 : -2147483648 ≤ z11 ∧ z11 ≤ 2147483647 := ⟨by omega, by omega⟩
    refine mj_T.eq (pc2 := 34) (st2 := [.int (jn z11)]) ?_ rfl rfl rfl rfl
    exact jT.ret oh10 rfl rfl rfl ⟨z11, by omega, by omega, rfl⟩
  · have c18 := jne2 c18
    exact jT.thr oh7 hg rfl rfl rfl (Nat.le_of_ble_eq_true rfl) rfl
-- PolyRegisters.substitute(III)I
theorem jc_107 {D n : Nat} {tm : Int} {h g : mj_H} {K L : Nat → Nat} {R : Nat → Nat → Nat} {p0 : Nat} {p1 : Int} {p2 : Int} {p3 : Int} (ty : jTY K L R) (hg : g.length ≤ n) (o : jO K L R g n tm h) (kp0 : K p0 = 19) (rp1 : -2147483648 ≤ p1 ∧ p1 ≤ 2147483647) (rp2 : -2147483648 ≤ p2 ∧ p2 ≤ 2147483647) (rp3 : -2147483648 ≤ p3 ∧ p3 ≤ 2147483647) : mj_Ok (D + 5) 107 [.ref p0, .int (jn p1), .int (jn p2), .int (jn p3)] h (jQ K L R g n tm [0, 1] (jVi (-2147483648) 2147483647)) := by
  refine mj_Ok.of (M := mj_m107) (loc := [some (.ref p0), some (.int (jn p1)), some (.int (jn p2)), some (.int (jn p3))]) rfl rfl rfl ?_
  iterate 2 refine mj_T.pl rfl rfl rfl rfl ?_
  refine jT.callp rfl rfl (Nat.le_of_ble_eq_true rfl) (Nat.le_of_ble_eq_true rfl) (jrv_of o kp0 (by decide) rfl (by decide) rfl _) rfl (mj_Ok.up (Nat.add_le_add_left (by decide) D) (jc_149 (D := D) ty hg o kp0 rp1)) rfl rfl (fun v1 qv1 => ?_)
  obtain ⟨a2, ka2, rfl⟩ := qv1
  refine mj_T.eq (pc2 := 5) (st2 := [.ref a2]) ?_ rfl rfl rfl rfl
  iterate 2 refine mj_T.pl rfl rfl rfl rfl ?_
  refine jT.getR 19 111 11 ty o rfl kp0 (by decide) rfl rfl rfl (fun k3 => ?_)
  iterate 2 refine mj_T.pl rfl rfl rfl rfl ?_
  refine jT.callp rfl rfl (Nat.le_of_ble_eq_true rfl) (Nat.le_of_ble_eq_true rfl) (jrv_of o kp0 (by decide) rfl (by decide) rfl _) rfl (mj_Ok.up (Nat.add_le_add_left (by decide) D) (jc_149 (D := D) ty hg o kp0 rp2)) rfl rfl (fun v4 qv4 => ?_)
  obtain ⟨a5, ka5, rfl⟩ := qv4
  refine mj_T.eq (pc2 := 15) (st2 := [.ref a5, .ref (R p0 7)]) ?_ rfl rfl rfl rfl
  iterate 2 refine mj_T.pl rfl rfl rfl rfl ?_
  refine jT.callp rfl rfl (Nat.le_of_ble_eq_true rfl) (Nat.le_of_ble_eq_true rfl) (jrv_of o kp0 (by decide) rfl (by decide) rfl _) rfl (mj_Ok.up (Nat.add_le_add_left (by decide) D) (jc_149 (D := D) ty hg o kp0 rp3)) rfl rfl (fun v6 qv6 => ?_)
  obtain ⟨a7, ka7, rfl⟩ := qv6
  refine mj_T.eq (pc2 := 20) (st2 := [.ref a7, .ref a5, .ref (R p0 7)]) ?_ rfl rfl rfl rfl
  refine mj_T.pl rfl rfl rfl rfl ?_
  refine jT.getR 19 102 2 ty o rfl kp0 (by decide) rfl rfl rfl (fun k8 => ?_)
  refine jT.call rfl rfl (Nat.le_of_ble_eq_true rfl) (Nat.le_of_ble_eq_true rfl) (jrv_of o k3 (by decide) rfl (by decide) rfl _) rfl (mj_Ok.up (Nat.add_le_add_left (by decide) D) (jc_13 (D := D) ty hg o k3 ka5 ka7 k8)) rfl rfl (fun v9 h10 qv9 oh10 => ?_)
  obtain ⟨z11, az11, bz11, rfl⟩ := qv9
  have rz11 : -2147483648 ≤ z11 ∧ z11 ≤ 2147483647 := ⟨by omega, by omega⟩
  refine mj_T.eq (pc2 := 27) (st2 := [.int (jn z11)]) ?_ rfl rfl rfl rfl
  refine jT.if0 rfl rz11 (fun c27 => ?_) (fun c27 => ?_)
  · have c27 := jne1 c27
    iterate 2 refine mj_T.pl rfl rfl rfl rfl ?_
    refine jT.call rfl rfl (Nat.le_of_ble_eq_true rfl) (Nat.le_of_ble_eq_true rfl) (jrv_of oh10 kp0 (by decide) rfl (by decide) rfl _) rfl (mj_Ok.up (Nat.add_le_add_left (by decide) D) (jc_154 (D := D) ty hg oh10 kp0 rp1)) rfl rfl (fun v12 h13 qv12 oh13 => ?_)
    obtain ⟨z14, az14, bz14, rfl⟩ := qv12
    have rz14 : -2147483648 ≤ z14 ∧ z14 ≤ 2147483647 := ⟨by omega, by omega⟩
    refine mj_T.eq (pc2 := 43) (st2 := [.int (jn z14)]) ?_ rfl rfl rfl rfl
    exact jT.ret oh13 rfl rfl rfl ⟨z14, by omega, by omega, rfl⟩
  · have c27 := jne2 c27
    exact jT.thr oh10 hg rfl rfl rfl (Nat.le_of_ble_eq_true rfl) rfl
-- PolyRegisters.divide(IIII)I
theorem jc_108 {D n : Nat} {tm : Int} {h g : mj_H} {K L : Nat → Nat} {R : Nat → Nat → Nat} {p0 : Nat} {p1 : Int} {p2 : Int} {p3 : Int} {p4 : Int} (ty : jTY K L R) (hg : g.length ≤ n) (o : jO K L R g n tm h) (kp0 : K p0 = 19) (rp1 : -2147483648 ≤ p1 ∧ p1 ≤ 2147483647) (rp2 : -2147483648 ≤ p2 ∧ p2 ≤ 2147483647) (rp3 : -2147483648 ≤ p3 ∧ p3 ≤ 2147483647) (rp4 : -2147483648 ≤ p4 ∧ p4 ≤ 2147483647) : mj_Ok (D + 5) 108 [.ref p0, .int (jn p1), .int (jn p2), .int (jn p3), .int (jn p4)] h (jQ K L R g n tm [0, 2, 3, 1] (jVi (-2147483648) 2147483647)) := by
  refine mj_Ok.of (M := mj_m108) (loc := [some (.ref p0), some (.int (jn p1)), some (.int (jn p2)), some (.int (jn p3)), some (.int (jn p4)), none, none, none]) rfl rfl rfl ?_
  iterate 2 refine mj_T.pl rfl rfl rfl rfl ?_
  refine jT.callp rfl rfl (Nat.le_of_ble_eq_true rfl) (Nat.le_of_ble_eq_true rfl) (jrv_of o kp0 (by decide) rfl (by decide) rfl _) rfl (mj_Ok.up (Nat.add_le_add_left (by decide) D) (jc_149 (D := D) ty hg o kp0 rp1)) rfl rfl (fun v1 qv1 => ?_)
  obtain ⟨a2, ka2, rfl⟩ := qv1
  refine mj_T.eq (pc2 := 5) (st2 := [.ref a2]) ?_ rfl rfl rfl rfl
  iterate 3 refine mj_T.pl rfl rfl rfl rfl ?_
  refine jT.callp rfl rfl (Nat.le_of_ble_eq_true rfl) (Nat.le_of_ble_eq_true rfl) (jrv_of o kp0 (by decide) rfl (by decide) rfl _) rfl (mj_Ok.up (Nat.add_le_add_left (by decide) D) (jc_149 (D := D) ty hg o kp0 rp2)) rfl rfl (fun v3 qv3 => ?_)
  obtain ⟨a4, ka4, rfl⟩ := qv3
  refine mj_T.eq (pc2 := 11) (st2 := [.ref a4]) ?_ rfl rfl rfl rfl
  iterate 3 refine mj_T.pl rfl rfl rfl rfl ?_
  refine jT.callp rfl rfl (Nat.le_of_ble_eq_true rfl) (Nat.le_of_ble_eq_true rfl) (jrv_of o kp0 (by decide) rfl (by decide) rfl _) rfl (mj_Ok.up (Nat.add_le_add_left (by decide) D) (jc_149 (D := D) ty hg o kp0 rp3)) rfl rfl (fun v5 qv5 => ?_)
  obtain ⟨a6, ka6, rfl⟩ := qv5
  refine mj_T.eq (pc2 := 17) (st2 := [.ref a6]) ?_ rfl rfl rfl rfl
  refine mj_T.pl (loc' := [some (.ref p0), some (.int (jn p1)), some (.int (jn p2)), some (.int (jn p3)), some (.int (jn p4)), some (.ref a6), none, none]) rfl rfl rfl rfl ?_
  iterate 2 refine mj_T.pl rfl rfl rfl rfl ?_
  refine jT.callp rfl rfl (Nat.le_of_ble_eq_true rfl) (Nat.le_of_ble_eq_true rfl) (jrv_of o kp0 (by decide) rfl (by decide) rfl _) rfl (mj_Ok.up (Nat.add_le_add_left (by decide) D) (jc_149 (D := D) ty hg o kp0 rp4)) rfl rfl (fun v7 qv7 => ?_)
  obtain ⟨a8, ka8, rfl⟩ := qv7
  refine mj_T.eq (pc2 := 25) (st2 := [.ref a8]) ?_ rfl rfl rfl rfl
  refine mj_T.pl (loc' := [some (.ref p0), some (.int (jn p1)), some (.int (jn p2)), some (.int (jn p3)), some (.int (jn p4)), some (.ref a6), some (.ref a8), none]) rfl rfl rfl rfl ?_
  iterate 2 refine mj_T.pl rfl rfl rfl rfl ?_
  refine jT.icmp rfl rp1 rp2 (fun c29 => ?_) (fun c29 => ?_)
  · have c29 := jne1 c29
    refine mj_T.pl rfl rfl rfl rfl ?_
    refine jT.callp rfl rfl (Nat.le_of_ble_eq_true rfl) (Nat.le_of_ble_eq_true rfl) rfl rfl (mj_Ok.up (Nat.add_le_add_left (by decide) D) (jc_153 (D := D) ty hg o ka8)) rfl rfl (fun v9 qv9 => ?_)
    obtain rfl : v9 = none := qv9
    refine mj_T.eq (pc2 := 45) (st2 := []) ?_ rfl rfl rfl rfl
    refine mj_T.pl rfl rfl rfl rfl ?_
    refine jT.callp rfl rfl (Nat.le_of_ble_eq_true rfl) (Nat.le_of_ble_eq_true rfl) rfl rfl (mj_Ok.up (Nat.add_le_add_left (by decide) D) (jc_162 (D := D) ty hg o ka6)) rfl rfl (fun v10 qv10 => ?_)
    obtain ⟨z11, az11, bz11, rfl⟩ := qv10
    have rz11 : -2147483648 ≤ z11 ∧ z11 ≤ 2147483647 := ⟨by omega, by omega⟩
    refine mj_T.eq (pc2 := 50) (st2 := [.int (jn z11)]) ?_ rfl rfl rfl rfl
    refine mj_T.pl rfl rfl rfl rfl ?_
    refine jT.callp rfl rfl (Nat.le_of_ble_eq_true rfl) (Nat.le_of_ble_eq_true rfl) rfl rfl (mj_Ok.up (Nat.add_le_add_left (by decide) D) (jc_162 (D := D) ty hg o ka8)) rfl rfl (fun v12 qv12 => ?_)
    obtain ⟨z13, az13, bz13, rfl⟩ := qv12
    have rz13 : -2147483648 ≤ z13 ∧ z13 ≤ 2147483647 := ⟨by omega, by omega⟩
    refine mj_T.eq (pc2 := 55) (st2 := [.int (jn z13), .int (jn z11)]) ?_ rfl rfl rfl rfl
    refine jT.isub rfl (fun z14 rz14 ez14 => ?_)
    replace ez14 := ez14 ⟨by omega, by omega⟩
    refine mj_T.pl rfl rfl rfl rfl ?_
    refine jT.iadd rfl (fun z15 rz15 ez15 => ?_)
    replace ez15 := ez15 ⟨by omega, by omega⟩
    refine mj_T.pl rfl rfl rfl rfl ?_
    refine jT.imax rfl rfl (Nat.le_of_ble_eq_true rfl) rz15 ⟨by decide, by decide⟩ (fun z16 ez16 => ?_)
    have rz16 : -2147483648 ≤ z16 ∧ z16 ≤ 2147483647 := ⟨by omega, by omega⟩
    refine mj_T.pl (loc' := [some (.ref p0), some (.int (jn p1)), some (.int (jn p2)), some (.int (jn p3)), some (.int (jn p4)), some (.ref a6), some (.ref a8), some (.int (jn z16))]) rfl rfl rfl rfl ?_
    refine mj_T.pl rfl rfl rfl rfl ?_
    refine jT.getR 19 111 11 ty o rfl kp0 (by decide) rfl rfl rfl (fun k17 => ?_)
    iterate 3 refine mj_T.pl rfl rfl rfl rfl ?_
    refine jT.getR 19 102 2 ty o rfl kp0 (by decide) rfl rfl rfl (fun k18 => ?_)
    refine mj_T.pl rfl rfl rfl rfl ?_
    refine jT.getR 19 102 2 ty o rfl kp0 (by decide) rfl rfl rfl (fun k19 => ?_)
    refine jT.call rfl rfl (Nat.le_of_ble_eq_true rfl) (Nat.le_of_ble_eq_true rfl) (jrv_of o k17 (by decide) rfl (by decide) rfl _) rfl (mj_Ok.up (Nat.add_le_add_left (by decide) D) (jc_16 (D := D) ty hg o k17 ka6 ka8 k18 k19)) rfl rfl (fun v20 h21 qv20 oh21 => ?_)
    obtain ⟨z22, az22, bz22, rfl⟩ := qv20
    have rz22 : -2147483648 ≤ z22 ∧ z22 ≤ 2147483647 := ⟨by omega, by omega⟩
    refine mj_T.eq (pc2 := 83) (st2 := [.int (jn z22)]) ?_ rfl rfl rfl rfl
    refine jT.if0 rfl rz22 (fun c83 => ?_) (fun c83 => ?_)
    · have c83 := jne1 c83
      iterate 2 refine mj_T.pl rfl rfl rfl rfl ?_
      refine jT.call rfl rfl (Nat.le_of_ble_eq_true rfl) (Nat.le_of_ble_eq_true rfl) (jrv_of oh21 kp0 (by decide) rfl (by decide) rfl _) rfl (mj_Ok.up (Nat.add_le_add_left (by decide) D) (jc_154 (D := D) ty hg oh21 kp0 rp1)) rfl rfl (fun v23 h24 qv23 oh24 => ?_)
      obtain ⟨z25, az25, bz25, rfl⟩ := qv23
      have rz25 : -2147483648 ≤ z25 ∧ z25 ≤ 2147483647 := ⟨by omega, by omega⟩
      refine mj_T.eq (pc2 := 99) (st2 := [.int (jn z25)]) ?_ rfl rfl rfl rfl
      iterate 2 refine mj_T.pl rfl rfl rfl rfl ?_
      refine jT.getR 19 102 2 ty oh24 rfl kp0 (by decide) rfl rfl rfl (fun k26 => ?_)
      iterate 2 refine mj_T.pl rfl rfl rfl rfl ?_
      refine jT.callp rfl rfl (Nat.le_of_ble_eq_true rfl) (Nat.le_of_ble_eq_true rfl) (jrv_of oh24 kp0 (by decide) rfl (by decide) rfl _) rfl (mj_Ok.up (Nat.add_le_add_left (by decide) D) (jc_149 (D := D) ty hg oh24 kp0 rp2)) rfl rfl (fun v27 qv27 => ?_)
      obtain ⟨a28, ka28, rfl⟩ := qv27
      refine mj_T.eq (pc2 := 109) (st2 := [.ref a28, .ref (R p0 14)]) ?_ rfl rfl rfl rfl
      refine jT.call rfl rfl (Nat.le_of_ble_eq_true rfl) (Nat.le_of_ble_eq_true rfl) rfl rfl (mj_Ok.up (Nat.add_le_add_left (by decide) D) (jc_164 (D := D) ty hg oh24 k26 ka28)) rfl rfl (fun v29 h30 qv29 oh30 => ?_)
      obtain rfl : v29 = none := qv29
      refine mj_T.eq (pc2 := 112) (st2 := []) ?_ rfl rfl rfl rfl
      refine mj_T.pl rfl rfl rfl rfl ?_
      exact jT.ret oh30 rfl rfl rfl ⟨z16, by omega, by omega, rfl⟩
    · have c83 := jne2 c83
      exact jT.thr oh21 hg rfl rfl rfl (Nat.le_of_ble_eq_true rfl) rfl
  · have c29 := jne2 c29
    exact jT.thr o hg rfl rfl rfl (Nat.le_of_ble_eq_true rfl) rfl
-- PolyRegisters.gcd(III)I
theorem jc_109 {D n : Nat} {tm : Int} {h g : mj_H} {K L : Nat → Nat} {R : Nat → Nat → Nat} {p0 : Nat} {p1 : Int} {p2 : Int} {p3 : Int} (ty : jTY K L R) (hg : g.length ≤ n) (o : jO K L R g n tm h) (kp0 : K p0 = 19) (rp1 : -2147483648 ≤ p1 ∧ p1 ≤ 2147483647) (rp2 : -2147483648 ≤ p2 ∧ p2 ≤ 2147483647) (rp3 : -2147483648 ≤ p3 ∧ p3 ≤ 2147483647) : mj_Ok (D + 7) 109 [.ref p0, .int (jn p1), .int (jn p2), .int (jn p3)] h (jQ K L R g n tm [0, 1] (jVi (-2147483648) 2147483647)) := by
  refine mj_Ok.of (M := mj_m109) (loc := [some (.ref p0), some (.int (jn p1)), some (.int (jn p2)), some (.int (jn p3))]) rfl rfl rfl ?_
  iterate 2 refine mj_T.pl rfl rfl rfl rfl ?_
  refine jT.callp rfl rfl (Nat.le_of_ble_eq_true rfl) (Nat.le_of_ble_eq_true rfl) (jrv_of o kp0 (by decide) rfl (by decide) rfl _) rfl (mj_Ok.up (Nat.add_le_add_left (by decide) D) (jc_149 (D := D) ty hg o kp0 rp1)) rfl rfl (fun v1 qv1 => ?_)
  obtain ⟨a2, ka2, rfl⟩ := qv1
  refine mj_T.eq (pc2 := 5) (st2 := [.ref a2]) ?_ rfl rfl rfl rfl
  iterate 2 refine mj_T.pl rfl rfl rfl rfl ?_
  refine jT.getR 19 115 15 ty o rfl kp0 (by decide) rfl rfl rfl (fun k3 => ?_)
  iterate 2 refine mj_T.pl rfl rfl rfl rfl ?_
  refine jT.callp rfl rfl (Nat.le_of_ble_eq_true rfl) (Nat.le_of_ble_eq_true rfl) (jrv_of o kp0 (by decide) rfl (by decide) rfl _) rfl (mj_Ok.up (Nat.add_le_add_left (by decide) D) (jc_149 (D := D) ty hg o kp0 rp2)) rfl rfl (fun v4 qv4 => ?_)
  obtain ⟨a5, ka5, rfl⟩ := qv4
  refine mj_T.eq (pc2 := 15) (st2 := [.ref a5, .ref (R p0 9)]) ?_ rfl rfl rfl rfl
  iterate 2 refine mj_T.pl rfl rfl rfl rfl ?_
  refine jT.callp rfl rfl (Nat.le_of_ble_eq_true rfl) (Nat.le_of_ble_eq_true rfl) (jrv_of o kp0 (by decide) rfl (by decide) rfl _) rfl (mj_Ok.up (Nat.add_le_add_left (by decide) D) (jc_149 (D := D) ty hg o kp0 rp3)) rfl rfl (fun v6 qv6 => ?_)
  obtain ⟨a7, ka7, rfl⟩ := qv6
  refine mj_T.eq (pc2 := 20) (st2 := [.ref a7, .ref a5, .ref (R p0 9)]) ?_ rfl rfl rfl rfl
  refine mj_T.pl rfl rfl rfl rfl ?_
  refine jT.getR 19 102 2 ty o rfl kp0 (by decide) rfl rfl rfl (fun k8 => ?_)
  refine jT.call rfl rfl (Nat.le_of_ble_eq_true rfl) (Nat.le_of_ble_eq_true rfl) (jrv_of o k3 (by decide) rfl (by decide) rfl _) rfl (mj_Ok.up (Nat.add_le_add_left (by decide) D) (jc_59 (D := D) ty hg o k3 ka5 ka7 k8)) rfl rfl (fun v9 h10 qv9 oh10 => ?_)
  obtain ⟨z11, az11, bz11, rfl⟩ := qv9
  have rz11 : -2147483648 ≤ z11 ∧ z11 ≤ 2147483647 := ⟨by omega, by omega⟩
  refine mj_T.eq (pc2 := 27) (st2 := [.int (jn z11)]) ?_ rfl rfl rfl rfl
  refine jT.if0 rfl rz11 (fun c27 => ?_) (fun c27 => ?_)
  · have c27 := jne1 c27
    iterate 2 refine mj_T.pl rfl rfl rfl rfl ?_
    refine jT.call rfl rfl (Nat.le_of_ble_eq_true rfl) (Nat.le_of_ble_eq_true rfl) (jrv_of oh10 kp0 (by decide) rfl (by decide) rfl _) rfl (mj_Ok.up (Nat.add_le_add_left (by decide) D) (jc_154 (D := D) ty hg oh10 kp0 rp1)) rfl rfl (fun v12 h13 qv12 oh13 => ?_)
    obtain ⟨z14, az14, bz14, rfl⟩ := qv12
    have rz14 : -2147483648 ≤ z14 ∧ z14 ≤ 2147483647 := ⟨by omega, by omega⟩
    refine mj_T.eq (pc2 := 43) (st2 := [.int (jn z14)]) ?_ rfl rfl rfl rfl
    exact jT.ret oh13 rfl rfl rfl ⟨z14, by omega, by omega, rfl⟩
  · have c27 := jne2 c27
    exact jT.thr oh10 hg rfl rfl rfl (Nat.le_of_ble_eq_true rfl) rfl
-- PolyRegisters.primitive(II)I
theorem jc_110 {D n : Nat} {tm : Int} {h g : mj_H} {K L : Nat → Nat} {R : Nat → Nat → Nat} {p0 : Nat} {p1 : Int} {p2 : Int} (ty : jTY K L R) (hg : g.length ≤ n) (o : jO K L R g n tm h) (kp0 : K p0 = 19) (rp1 : -2147483648 ≤ p1 ∧ p1 ≤ 2147483647) (rp2 : -2147483648 ≤ p2 ∧ p2 ≤ 2147483647) : mj_Ok (D + 5) 110 [.ref p0, .int (jn p1), .int (jn p2)] h (jQ K L R g n tm [0] (jVi (-2147483648) 2147483647)) := by
  refine mj_Ok.of (M := mj_m110) (loc := [some (.ref p0), some (.int (jn p1)), some (.int (jn p2)), none, none, none, none]) rfl rfl rfl ?_
  iterate 2 refine mj_T.pl rfl rfl rfl rfl ?_
  refine jT.callp rfl rfl (Nat.le_of_ble_eq_true rfl) (Nat.le_of_ble_eq_true rfl) (jrv_of o kp0 (by decide) rfl (by decide) rfl _) rfl (mj_Ok.up (Nat.add_le_add_left (by decide) D) (jc_149 (D := D) ty hg o kp0 rp1)) rfl rfl (fun v1 qv1 => ?_)
  obtain ⟨a2, ka2, rfl⟩ := qv1
  refine mj_T.eq (pc2 := 5) (st2 := [.ref a2]) ?_ rfl rfl rfl rfl
  iterate 3 refine mj_T.pl rfl rfl rfl rfl ?_
  refine jT.callp rfl rfl (Nat.le_of_ble_eq_true rfl) (Nat.le_of_ble_eq_true rfl) (jrv_of o kp0 (by decide) rfl (by decide) rfl _) rfl (mj_Ok.up (Nat.add_le_add_left (by decide) D) (jc_149 (D := D) ty hg o kp0 rp2)) rfl rfl (fun v3 qv3 => ?_)
  obtain ⟨a4, ka4, rfl⟩ := qv3
  refine mj_T.eq (pc2 := 11) (st2 := [.ref a4]) ?_ rfl rfl rfl rfl
  refine mj_T.pl (loc' := [some (.ref p0), some (.int (jn p1)), some (.int (jn p2)), some (.ref a4), none, none, none]) rfl rfl rfl rfl ?_
  refine mj_T.pl rfl rfl rfl rfl ?_
  refine jT.callp rfl rfl (Nat.le_of_ble_eq_true rfl) (Nat.le_of_ble_eq_true rfl) rfl rfl (mj_Ok.up (Nat.add_le_add_left (by decide) D) (jc_170 (D := D) ty hg o ka4)) rfl rfl (fun v5 qv5 => ?_)
  obtain ⟨z6, jz6, rfl⟩ := qv5
  refine mj_T.eq (pc2 := 16) (st2 := [.long (jl z6)]) ?_ rfl rfl rfl rfl
  refine mj_T.pl (loc' := [some (.ref p0), some (.int (jn p1)), some (.int (jn p2)), some (.ref a4), some (.long (jl z6)), none, none]) rfl rfl rfl rfl ?_
  refine mj_T.pl rfl rfl rfl rfl ?_
  refine mj_T.pl (loc' := [some (.ref p0), some (.int (jn p1)), some (.int (jn p2)), some (.ref a4), some (.long (jl z6)), none, some (.int (jn 0))]) rfl rfl rfl rfl ?_
  have t21_9 : ∀ (k10 : Nat) (x7 : Int) (h8 : mj_H), (-2147483648 ≤ x7 ∧ x7 ≤ 2147483647) → (jO K L R g n tm h8) → (0 ≤ x7) → (2147483647 - x7 : Int).toNat = k10 → mj_T (D + 4) mj_m110 21 [some (.ref p0), some (.int (jn p1)), some (.int (jn p2)), some (.ref a4), some (.long (jl z6)), none, some (.int (jn x7))] [] h8 (jQ K L R g n tm [0] (jVi (-2147483648) 2147483647)) := by
    refine jInd (fun k10 ih11 => ?_)
    intro x7 h8 rx7 oh8 ix7 hm12
    refine mj_T.pl rfl rfl rfl rfl ?_
    refine mj_T.pl rfl rfl rfl rfl ?_
    refine jT.icmp rfl rx7 ⟨by decide, by decide⟩ (fun c25 => ?_) (fun c25 => ?_)
    · have c25 := of_decide_eq_true c25
      iterate 2 refine mj_T.pl rfl rfl rfl rfl ?_
      refine jT.call rfl rfl (Nat.le_of_ble_eq_true rfl) (Nat.le_of_ble_eq_true rfl) (jrv_of oh8 kp0 (by decide) rfl (by decide) rfl _) rfl (mj_Ok.up (Nat.add_le_add_left (by decide) D) (jc_154 (D := D) ty hg oh8 kp0 rp1)) rfl rfl (fun v13 h14 qv13 oh14 => ?_)
      obtain ⟨z15, az15, bz15, rfl⟩ := qv13
      have rz15 : -2147483648 ≤ z15 ∧ z15 ≤ 2147483647 := ⟨by omega, by omega⟩
      refine mj_T.eq (pc2 := 71) (st2 := [.int (jn z15)]) ?_ rfl rfl rfl rfl
      exact jT.ret oh14 rfl rfl rfl ⟨z15, by omega, by omega, rfl⟩
    · have c25 := of_decide_eq_false c25
      iterate 2 refine mj_T.pl rfl rfl rfl rfl ?_
      refine jT.alen 2 ty oh8 rfl ka4 (by decide) (by decide) (fun z16 ez16 (az16 : 13 ≤ z16) (bz16 : z16 ≤ 13) => ?_)
      have rz16 : -2147483648 ≤ z16 ∧ z16 ≤ 2147483647 := ⟨by omega, by omega⟩
      refine jT.icmp rfl rx7 rz16 (fun c32 => ?_) (fun c32 => ?_)
      · have c32 := of_decide_eq_true c32
        iterate 2 refine mj_T.pl rfl rfl rfl rfl ?_
        refine jT.call rfl rfl (Nat.le_of_ble_eq_true rfl) (Nat.le_of_ble_eq_true rfl) (jrv_of oh8 kp0 (by decide) rfl (by decide) rfl _) rfl (mj_Ok.up (Nat.add_le_add_left (by decide) D) (jc_154 (D := D) ty hg oh8 kp0 rp1)) rfl rfl (fun v17 h18 qv17 oh18 => ?_)
        obtain ⟨z19, az19, bz19, rfl⟩ := qv17
        have rz19 : -2147483648 ≤ z19 ∧ z19 ≤ 2147483647 := ⟨by omega, by omega⟩
        refine mj_T.eq (pc2 := 71) (st2 := [.int (jn z19)]) ?_ rfl rfl rfl rfl
        exact jT.ret oh18 rfl rfl rfl ⟨z19, by omega, by omega, rfl⟩
      · have c32 := of_decide_eq_false c32
        refine mj_T.pl rfl rfl rfl rfl ?_
        refine jT.getR 19 102 2 ty oh8 rfl kp0 (by decide) rfl rfl rfl (fun k20 => ?_)
        iterate 2 refine mj_T.pl rfl rfl rfl rfl ?_
        refine jT.lc 0 rfl rfl ?_
        refine mj_T.lif rfl rfl jz6 ⟨by decide, by decide⟩ (fun c44 => ?_) (fun c44 => ?_)
        · have c44 := jne1 c44
          iterate 2 refine mj_T.pl rfl rfl rfl rfl ?_
          refine jT.lald oh8 rfl ka4 rx7 ⟨by omega, by omega⟩ (fun z21 jz21 => ?_)
          refine mj_T.pl rfl rfl rfl rfl ?_
          refine jT.ldiv rfl jz6 (by omega) (fun z22 jz22 => ?_)
          have l23 : 13 ≤ (L (R p0 13) : Int) ∧ (L (R p0 13) : Int) ≤ 13 := jlen 2 ty k20 (by decide) (by decide)
          refine jT.last oh8 rfl k20 rx7 ⟨by omega, by omega⟩ jz22 (fun h24 oh24 uh24 => ?_)
          refine jT.iinc rfl rfl (fun z25 rz25 ez25 => ?_)
          replace ez25 := ez25 ⟨by omega, by omega⟩
          refine mj_T.eq (loc2 := [some (.ref p0), some (.int (jn p1)), some (.int (jn p2)), some (.ref a4), some (.long (jl z6)), none, some (.int (jn z25))]) ?_ rfl rfl rfl rfl
          refine mj_T.pl rfl rfl rfl rfl ?_
          exact ih11 ((2147483647 - z25 : Int).toNat) (by omega) z25 h24 rz25 oh24 (by omega) rfl
        · have c44 := jne2 c44
          refine jT.lc 0 rfl rfl ?_
          refine mj_T.pl rfl rfl rfl rfl ?_
          have l26 : 13 ≤ (L (R p0 13) : Int) ∧ (L (R p0 13) : Int) ≤ 13 := jlen 2 ty k20 (by decide) (by decide)
          refine jT.last oh8 rfl k20 rx7 ⟨by omega, by omega⟩ ⟨by decide, by decide⟩ (fun h27 oh27 uh27 => ?_)
          refine jT.iinc rfl rfl (fun z28 rz28 ez28 => ?_)
          replace ez28 := ez28 ⟨by omega, by omega⟩
          refine mj_T.eq (loc2 := [some (.ref p0), some (.int (jn p1)), some (.int (jn p2)), some (.ref a4), some (.long (jl z6)), none, some (.int (jn z28))]) ?_ rfl rfl rfl rfl
          refine mj_T.pl rfl rfl rfl rfl ?_
          exact ih11 ((2147483647 - z28 : Int).toNat) (by omega) z28 h27 rz28 oh27 (by omega) rfl
  exact t21_9 _ 0 h ⟨by decide, by decide⟩ o (by omega) rfl
-- PolyRegisters.simple(II)I
theorem jc_111 {D n : Nat} {tm : Int} {h g : mj_H} {K L : Nat → Nat} {R : Nat → Nat → Nat} {p0 : Nat} {p1 : Int} {p2 : Int} (ty : jTY K L R) (hg : g.length ≤ n) (o : jO K L R g n tm h) (kp0 : K p0 = 19) (rp1 : -2147483648 ≤ p1 ∧ p1 ≤ 2147483647) (rp2 : -2147483648 ≤ p2 ∧ p2 ≤ 2147483647) : mj_Ok (D + 7) 111 [.ref p0, .int (jn p1), .int (jn p2)] h (jQ K L R g n tm [0, 3, 1] (jVi (-2147483648) 2147483647)) := by
  refine mj_Ok.of (M := mj_m111) (loc := [some (.ref p0), some (.int (jn p1)), some (.int (jn p2)), none]) rfl rfl rfl ?_
  iterate 2 refine mj_T.pl rfl rfl rfl rfl ?_
  refine jT.callp rfl rfl (Nat.le_of_ble_eq_true rfl) (Nat.le_of_ble_eq_true rfl) (jrv_of o kp0 (by decide) rfl (by decide) rfl _) rfl (mj_Ok.up (Nat.add_le_add_left (by decide) D) (jc_149 (D := D) ty hg o kp0 rp1)) rfl rfl (fun v1 qv1 => ?_)
  obtain ⟨a2, ka2, rfl⟩ := qv1
  refine mj_T.eq (pc2 := 5) (st2 := [.ref a2]) ?_ rfl rfl rfl rfl
  iterate 3 refine mj_T.pl rfl rfl rfl rfl ?_
  refine jT.callp rfl rfl (Nat.le_of_ble_eq_true rfl) (Nat.le_of_ble_eq_true rfl) (jrv_of o kp0 (by decide) rfl (by decide) rfl _) rfl (mj_Ok.up (Nat.add_le_add_left (by decide) D) (jc_149 (D := D) ty hg o kp0 rp2)) rfl rfl (fun v3 qv3 => ?_)
  obtain ⟨a4, ka4, rfl⟩ := qv3
  refine mj_T.eq (pc2 := 11) (st2 := [.ref a4]) ?_ rfl rfl rfl rfl
  refine mj_T.pl (loc' := [some (.ref p0), some (.int (jn p1)), some (.int (jn p2)), some (.ref a4)]) rfl rfl rfl rfl ?_
  refine mj_T.pl rfl rfl rfl rfl ?_
  refine jT.callp rfl rfl (Nat.le_of_ble_eq_true rfl) (Nat.le_of_ble_eq_true rfl) rfl rfl (mj_Ok.up (Nat.add_le_add_left (by decide) D) (jc_153 (D := D) ty hg o ka4)) rfl rfl (fun v5 qv5 => ?_)
  obtain rfl : v5 = none := qv5
  refine mj_T.eq (pc2 := 16) (st2 := []) ?_ rfl rfl rfl rfl
  refine mj_T.pl rfl rfl rfl rfl ?_
  refine jT.getR 19 115 15 ty o rfl kp0 (by decide) rfl rfl rfl (fun k6 => ?_)
  refine mj_T.pl rfl rfl rfl rfl ?_
  refine jT.call rfl rfl (Nat.le_of_ble_eq_true rfl) (Nat.le_of_ble_eq_true rfl) (jrv_of o k6 (by decide) rfl (by decide) rfl _) rfl (mj_Ok.up (Nat.add_le_add_left (by decide) D) (jc_61 (D := D) ty hg o k6 ka4)) rfl rfl (fun v7 h8 qv7 oh8 => ?_)
  obtain rfl : v7 = none := qv7
  refine mj_T.eq (pc2 := 24) (st2 := []) ?_ rfl rfl rfl rfl
  refine mj_T.pl rfl rfl rfl rfl ?_
  refine jT.getR 19 115 15 ty oh8 rfl kp0 (by decide) rfl rfl rfl (fun k9 => ?_)
  refine mj_T.pl rfl rfl rfl rfl ?_
  refine jT.getR 19 102 2 ty oh8 rfl kp0 (by decide) rfl rfl rfl (fun k10 => ?_)
  refine jT.call rfl rfl (Nat.le_of_ble_eq_true rfl) (Nat.le_of_ble_eq_true rfl) (jrv_of oh8 k9 (by decide) rfl (by decide) rfl _) rfl (mj_Ok.up (Nat.add_le_add_left (by decide) D) (jc_62 (D := D) ty hg oh8 k9 k10)) rfl rfl (fun v11 h12 qv11 oh12 => ?_)
  obtain ⟨z13, az13, bz13, rfl⟩ := qv11
  have rz13 : -2147483648 ≤ z13 ∧ z13 ≤ 2147483647 := ⟨by omega, by omega⟩
  refine mj_T.eq (pc2 := 35) (st2 := [.int (jn z13)]) ?_ rfl rfl rfl rfl
  refine jT.if0 rfl rz13 (fun c35 => ?_) (fun c35 => ?_)
  · have c35 := jne1 c35
    iterate 2 refine mj_T.pl rfl rfl rfl rfl ?_
    refine jT.call rfl rfl (Nat.le_of_ble_eq_true rfl) (Nat.le_of_ble_eq_true rfl) (jrv_of oh12 kp0 (by decide) rfl (by decide) rfl _) rfl (mj_Ok.up (Nat.add_le_add_left (by decide) D) (jc_154 (D := D) ty hg oh12 kp0 rp1)) rfl rfl (fun v14 h15 qv14 oh15 => ?_)
    obtain ⟨z16, az16, bz16, rfl⟩ := qv14
    have rz16 : -2147483648 ≤ z16 ∧ z16 ≤ 2147483647 := ⟨by omega, by omega⟩
    refine mj_T.eq (pc2 := 51) (st2 := [.int (jn z16)]) ?_ rfl rfl rfl rfl
    exact jT.ret oh15 rfl rfl rfl ⟨z16, by omega, by omega, rfl⟩
  · have c35 := jne2 c35
    exact jT.thr oh12 hg rfl rfl rfl (Nat.le_of_ble_eq_true rfl) rfl
-- PolyRegisters.residue(III)I
theorem jc_112 {D n : Nat} {tm : Int} {h g : mj_H} {K L : Nat → Nat} {R : Nat → Nat → Nat} {p0 : Nat} {p1 : Int} {p2 : Int} {p3 : Int} (ty : jTY K L R) (hg : g.length ≤ n) (o : jO K L R g n tm h) (kp0 : K p0 = 19) (rp1 : -2147483648 ≤ p1 ∧ p1 ≤ 2147483647) (rp2 : -2147483648 ≤ p2 ∧ p2 ≤ 2147483647) (rp3 : -2147483648 ≤ p3 ∧ p3 ≤ 2147483647) : mj_Ok (D + 5) 112 [.ref p0, .int (jn p1), .int (jn p2), .int (jn p3)] h (jQ K L R g n tm [0, 2] (jVi (-2147483648) 2147483647)) := by
  refine mj_Ok.of (M := mj_m112) (loc := [some (.ref p0), some (.int (jn p1)), some (.int (jn p2)), some (.int (jn p3)), none, none]) rfl rfl rfl ?_
  iterate 2 refine mj_T.pl rfl rfl rfl rfl ?_
  refine jT.callp rfl rfl (Nat.le_of_ble_eq_true rfl) (Nat.le_of_ble_eq_true rfl) (jrv_of o kp0 (by decide) rfl (by decide) rfl _) rfl (mj_Ok.up (Nat.add_le_add_left (by decide) D) (jc_149 (D := D) ty hg o kp0 rp1)) rfl rfl (fun v1 qv1 => ?_)
  obtain ⟨a2, ka2, rfl⟩ := qv1
  refine mj_T.eq (pc2 := 5) (st2 := [.ref a2]) ?_ rfl rfl rfl rfl
  iterate 3 refine mj_T.pl rfl rfl rfl rfl ?_
  refine jT.callp rfl rfl (Nat.le_of_ble_eq_true rfl) (Nat.le_of_ble_eq_true rfl) (jrv_of o kp0 (by decide) rfl (by decide) rfl _) rfl (mj_Ok.up (Nat.add_le_add_left (by decide) D) (jc_149 (D := D) ty hg o kp0 rp2)) rfl rfl (fun v3 qv3 => ?_)
  obtain ⟨a4, ka4, rfl⟩ := qv3
  refine mj_T.eq (pc2 := 11) (st2 := [.ref a4]) ?_ rfl rfl rfl rfl
  refine mj_T.pl (loc' := [some (.ref p0), some (.int (jn p1)), some (.int (jn p2)), some (.int (jn p3)), some (.ref a4), none]) rfl rfl rfl rfl ?_
  refine mj_T.pl rfl rfl rfl rfl ?_
  refine jT.callp rfl rfl (Nat.le_of_ble_eq_true rfl) (Nat.le_of_ble_eq_true rfl) rfl rfl (mj_Ok.up (Nat.add_le_add_left (by decide) D) (jc_152 (D := D) ty hg o rp3)) rfl rfl (fun v5 qv5 => ?_)
  obtain rfl : v5 = none := qv5
  refine mj_T.eq (pc2 := 17) (st2 := []) ?_ rfl rfl rfl rfl
  refine mj_T.pl rfl rfl rfl rfl ?_
  refine mj_T.pl (loc' := [some (.ref p0), some (.int (jn p1)), some (.int (jn p2)), some (.int (jn p3)), some (.ref a4), some (.int (jn 0))]) rfl rfl rfl rfl ?_
  have t20_8 : ∀ (k9 : Nat) (x6 : Int) (h7 : mj_H), (-2147483648 ≤ x6 ∧ x6 ≤ 2147483647) → (jO K L R g n tm h7) → (0 ≤ x6) → (2147483647 - x6 : Int).toNat = k9 → mj_T (D + 4) mj_m112 20 [some (.ref p0), some (.int (jn p1)), some (.int (jn p2)), some (.int (jn p3)), some (.ref a4), some (.int (jn x6))] [] h7 (jQ K L R g n tm [0, 2] (jVi (-2147483648) 2147483647)) := by
    refine jInd (fun k9 ih10 => ?_)
    intro x6 h7 rx6 oh7 ix6 hm11
    refine mj_T.pl rfl rfl rfl rfl ?_
    refine mj_T.pl rfl rfl rfl rfl ?_
    refine jT.icmp rfl rx6 ⟨by decide, by decide⟩ (fun c24 => ?_) (fun c24 => ?_)
    · have c24 := of_decide_eq_true c24
      iterate 2 refine mj_T.pl rfl rfl rfl rfl ?_
      refine jT.call rfl rfl (Nat.le_of_ble_eq_true rfl) (Nat.le_of_ble_eq_true rfl) (jrv_of oh7 kp0 (by decide) rfl (by decide) rfl _) rfl (mj_Ok.up (Nat.add_le_add_left (by decide) D) (jc_154 (D := D) ty hg oh7 kp0 rp1)) rfl rfl (fun v12 h13 qv12 oh13 => ?_)
      obtain ⟨z14, az14, bz14, rfl⟩ := qv12
      have rz14 : -2147483648 ≤ z14 ∧ z14 ≤ 2147483647 := ⟨by omega, by omega⟩
      refine mj_T.eq (pc2 := 63) (st2 := [.int (jn z14)]) ?_ rfl rfl rfl rfl
      exact jT.ret oh13 rfl rfl rfl ⟨z14, by omega, by omega, rfl⟩
    · have c24 := of_decide_eq_false c24
      iterate 2 refine mj_T.pl rfl rfl rfl rfl ?_
      refine jT.alen 2 ty oh7 rfl ka4 (by decide) (by decide) (fun z15 ez15 (az15 : 13 ≤ z15) (bz15 : z15 ≤ 13) => ?_)
      have rz15 : -2147483648 ≤ z15 ∧ z15 ≤ 2147483647 := ⟨by omega, by omega⟩
      refine jT.icmp rfl rx6 rz15 (fun c32 => ?_) (fun c32 => ?_)
      · have c32 := of_decide_eq_true c32
        iterate 2 refine mj_T.pl rfl rfl rfl rfl ?_
        refine jT.call rfl rfl (Nat.le_of_ble_eq_true rfl) (Nat.le_of_ble_eq_true rfl) (jrv_of oh7 kp0 (by decide) rfl (by decide) rfl _) rfl (mj_Ok.up (Nat.add_le_add_left (by decide) D) (jc_154 (D := D) ty hg oh7 kp0 rp1)) rfl rfl (fun v16 h17 qv16 oh17 => ?_)
        obtain ⟨z18, az18, bz18, rfl⟩ := qv16
        have rz18 : -2147483648 ≤ z18 ∧ z18 ≤ 2147483647 := ⟨by omega, by omega⟩
        refine mj_T.eq (pc2 := 63) (st2 := [.int (jn z18)]) ?_ rfl rfl rfl rfl
        exact jT.ret oh17 rfl rfl rfl ⟨z18, by omega, by omega, rfl⟩
      · have c32 := of_decide_eq_false c32
        refine mj_T.pl rfl rfl rfl rfl ?_
        refine jT.getR 19 102 2 ty oh7 rfl kp0 (by decide) rfl rfl rfl (fun k19 => ?_)
        iterate 3 refine mj_T.pl rfl rfl rfl rfl ?_
        refine jT.lald oh7 rfl ka4 rx6 ⟨by omega, by omega⟩ (fun z20 jz20 => ?_)
        refine mj_T.pl rfl rfl rfl rfl ?_
        refine jT.callp rfl rfl (Nat.le_of_ble_eq_true rfl) (Nat.le_of_ble_eq_true rfl) rfl rfl (mj_Ok.up (Nat.add_le_add_left (by decide) D) (jc_172 (D := D) ty hg oh7 jz20 rp3)) rfl rfl (fun v21 qv21 => ?_)
        obtain ⟨z22, az22, bz22, rfl⟩ := qv21
        have rz22 : -2147483648 ≤ z22 ∧ z22 ≤ 2147483647 := ⟨by omega, by omega⟩
        refine mj_T.eq (pc2 := 50) (st2 := [.int (jn z22), .int (jn x6), .ref (R p0 13)]) ?_ rfl rfl rfl rfl
        refine jT.i2l rfl rz22 ?_
        have j23 : jR z22 := ⟨by omega, by omega⟩
        have l24 : 13 ≤ (L (R p0 13) : Int) ∧ (L (R p0 13) : Int) ≤ 13 := jlen 2 ty k19 (by decide) (by decide)
        refine jT.last oh7 rfl k19 rx6 ⟨by omega, by omega⟩ j23 (fun h25 oh25 uh25 => ?_)
        refine jT.iinc rfl rfl (fun z26 rz26 ez26 => ?_)
        replace ez26 := ez26 ⟨by omega, by omega⟩
        refine mj_T.eq (loc2 := [some (.ref p0), some (.int (jn p1)), some (.int (jn p2)), some (.int (jn p3)), some (.ref a4), some (.int (jn z26))]) ?_ rfl rfl rfl rfl
        refine mj_T.pl rfl rfl rfl rfl ?_
        exact ih10 ((2147483647 - z26 : Int).toNat) (by omega) z26 h25 rz26 oh25 (by omega) rfl
  exact t20_8 _ 0 h ⟨by decide, by decide⟩ o (by omega) rfl
-- PolyRegisters.setTerm(IIJ)I
theorem jc_113 {D n : Nat} {tm : Int} {h g : mj_H} {K L : Nat → Nat} {R : Nat → Nat → Nat} {p0 : Nat} {p1 : Int} {p2 : Int} {p3 : Int} (ty : jTY K L R) (hg : g.length ≤ n) (o : jO K L R g n tm h) (kp0 : K p0 = 19) (rp1 : -2147483648 ≤ p1 ∧ p1 ≤ 2147483647) (rp2 : -2147483648 ≤ p2 ∧ p2 ≤ 2147483647) (jp3 : jR p3) : mj_Ok (D + 5) 113 [.ref p0, .int (jn p1), .int (jn p2), .long (jl p3)] h (jQ K L R g n tm [0, 2, 1] (jVi (-2147483648) 2147483647)) := by
  refine mj_Ok.of (M := mj_m113) (loc := [some (.ref p0), some (.int (jn p1)), some (.int (jn p2)), some (.long (jl p3)), none, none]) rfl rfl rfl ?_
  iterate 2 refine mj_T.pl rfl rfl rfl rfl ?_
  refine jT.callp rfl rfl (Nat.le_of_ble_eq_true rfl) (Nat.le_of_ble_eq_true rfl) (jrv_of o kp0 (by decide) rfl (by decide) rfl _) rfl (mj_Ok.up (Nat.add_le_add_left (by decide) D) (jc_149 (D := D) ty hg o kp0 rp1)) rfl rfl (fun v1 qv1 => ?_)
  obtain ⟨a2, ka2, rfl⟩ := qv1
  refine mj_T.eq (pc2 := 5) (st2 := [.ref a2]) ?_ rfl rfl rfl rfl
  refine mj_T.pl (loc' := [some (.ref p0), some (.int (jn p1)), some (.int (jn p2)), some (.long (jl p3)), none, some (.ref a2)]) rfl rfl rfl rfl ?_
  refine mj_T.pl rfl rfl rfl rfl ?_
  refine jT.callp rfl rfl (Nat.le_of_ble_eq_true rfl) (Nat.le_of_ble_eq_true rfl) rfl rfl (mj_Ok.up (Nat.add_le_add_left (by decide) D) (jc_150 (D := D) ty hg o rp2)) rfl rfl (fun v3 qv3 => ?_)
  obtain ⟨rfl, fv3⟩ := qv3
  refine mj_T.eq (pc2 := 11) (st2 := []) ?_ rfl rfl rfl rfl
  refine mj_T.pl rfl rfl rfl rfl ?_
  refine jT.callp rfl rfl (Nat.le_of_ble_eq_true rfl) (Nat.le_of_ble_eq_true rfl) rfl rfl (mj_Ok.up (Nat.add_le_add_left (by decide) D) (jc_161 (D := D) ty hg o jp3)) rfl rfl (fun v4 qv4 => ?_)
  obtain ⟨z5, az5, bz5, rfl⟩ := qv4
  have rz5 : -2147483648 ≤ z5 ∧ z5 ≤ 2147483647 := ⟨by omega, by omega⟩
  refine mj_T.eq (pc2 := 15) (st2 := [.int (jn z5)]) ?_ rfl rfl rfl rfl
  refine jT.if0 rfl rz5 (fun c15 => ?_) (fun c15 => ?_)
  · have c15 := jne1 c15
    iterate 2 refine mj_T.pl rfl rfl rfl rfl ?_
    refine jT.getR 19 102 2 ty o rfl kp0 (by decide) rfl rfl rfl (fun k6 => ?_)
    refine jT.call rfl rfl (Nat.le_of_ble_eq_true rfl) (Nat.le_of_ble_eq_true rfl) rfl rfl (mj_Ok.up (Nat.add_le_add_left (by decide) D) (jc_164 (D := D) ty hg o ka2 k6)) rfl rfl (fun v7 h8 qv7 oh8 => ?_)
    obtain rfl : v7 = none := qv7
    refine mj_T.eq (pc2 := 35) (st2 := []) ?_ rfl rfl rfl rfl
    refine mj_T.pl rfl rfl rfl rfl ?_
    refine jT.getR 19 102 2 ty oh8 rfl kp0 (by decide) rfl rfl rfl (fun k9 => ?_)
    iterate 2 refine mj_T.pl rfl rfl rfl rfl ?_
    have l10 : 13 ≤ (L (R p0 13) : Int) ∧ (L (R p0 13) : Int) ≤ 13 := jlen 2 ty k9 (by decide) (by decide)
    refine jT.last oh8 rfl k9 rp2 ⟨by omega, by omega⟩ jp3 (fun h11 oh11 uh11 => ?_)
    iterate 2 refine mj_T.pl rfl rfl rfl rfl ?_
    refine jT.call rfl rfl (Nat.le_of_ble_eq_true rfl) (Nat.le_of_ble_eq_true rfl) (jrv_of oh11 kp0 (by decide) rfl (by decide) rfl _) rfl (mj_Ok.up (Nat.add_le_add_left (by decide) D) (jc_154 (D := D) ty hg oh11 kp0 rp1)) rfl rfl (fun v12 h13 qv12 oh13 => ?_)
    obtain ⟨z14, az14, bz14, rfl⟩ := qv12
    have rz14 : -2147483648 ≤ z14 ∧ z14 ≤ 2147483647 := ⟨by omega, by omega⟩
    refine mj_T.eq (pc2 := 47) (st2 := [.int (jn z14)]) ?_ rfl rfl rfl rfl
    exact jT.ret oh13 rfl rfl rfl ⟨z14, by omega, by omega, rfl⟩
  · have c15 := jne2 c15
    exact jT.thr o hg rfl rfl rfl (Nat.le_of_ble_eq_true rfl) rfl
-- PolyRegisters.addPoint(II)I
theorem jc_115 {D n : Nat} {tm : Int} {h g : mj_H} {K L : Nat → Nat} {R : Nat → Nat → Nat} {p0 : Nat} {p1 : Int} {p2 : Int} (ty : jTY K L R) (hg : g.length ≤ n) (o : jO K L R g n tm h) (kp0 : K p0 = 19) (rp1 : -2147483648 ≤ p1 ∧ p1 ≤ 2147483647) (rp2 : -2147483648 ≤ p2 ∧ p2 ≤ 2147483647) : mj_Ok (D + 4) 115 [.ref p0, .int (jn p1), .int (jn p2)] h (jQ K L R g n tm [2, 1] (jVi (-2147483648) 2147483647)) := by
  refine mj_Ok.of (M := mj_m115) (loc := [some (.ref p0), some (.int (jn p1)), some (.int (jn p2))]) rfl rfl rfl ?_
  iterate 2 refine mj_T.pl rfl rfl rfl rfl ?_
  refine jT.icmp rfl rp1 ⟨by decide, by decide⟩ (fun c3 => ?_) (fun c3 => ?_)
  · have c3 := of_decide_eq_true c3
    exact jT.thr o hg rfl rfl rfl (Nat.le_of_ble_eq_true rfl) rfl
  · have c3 := of_decide_eq_false c3
    iterate 2 refine mj_T.pl rfl rfl rfl rfl ?_
    refine jT.icmp rfl rp1 ⟨by decide, by decide⟩ (fun c9 => ?_) (fun c9 => ?_)
    · have c9 := of_decide_eq_true c9
      exact jT.thr o hg rfl rfl rfl (Nat.le_of_ble_eq_true rfl) rfl
    · have c9 := of_decide_eq_false c9
      iterate 2 refine mj_T.pl rfl rfl rfl rfl ?_
      refine jT.icmp rfl rp2 ⟨by decide, by decide⟩ (fun c16 => ?_) (fun c16 => ?_)
      · have c16 := of_decide_eq_true c16
        exact jT.thr o hg rfl rfl rfl (Nat.le_of_ble_eq_true rfl) rfl
      · have c16 := of_decide_eq_false c16
        iterate 2 refine mj_T.pl rfl rfl rfl rfl ?_
        refine jT.icmp rfl rp2 ⟨by decide, by decide⟩ (fun c23 => ?_) (fun c23 => ?_)
        · have c23 := of_decide_eq_true c23
          refine mj_T.pl rfl rfl rfl rfl ?_
          refine jT.getR 19 110 10 ty o rfl kp0 (by decide) rfl rfl rfl (fun k1 => ?_)
          refine jT.getI 10 9 o rfl k1 (by decide) rfl rfl rfl (fun z2 (az2 : 0 ≤ z2) (bz2 : z2 ≤ 2147483647) fz2 => ?_)
          have rz2 : -2147483648 ≤ z2 ∧ z2 ≤ 2147483647 := ⟨by omega, by omega⟩
          refine mj_T.pl rfl rfl rfl rfl ?_
          refine jT.icmp rfl rz2 ⟨by decide, by decide⟩ (fun c43 => ?_) (fun c43 => ?_)
          · have c43 := of_decide_eq_true c43
            exact jT.thr o hg rfl rfl rfl (Nat.le_of_ble_eq_true rfl) rfl
          · have c43 := of_decide_eq_false c43
            refine mj_T.pl rfl rfl rfl rfl ?_
            refine jT.getR 19 110 10 ty o rfl kp0 (by decide) rfl rfl rfl (fun k3 => ?_)
            refine mj_T.pl rfl rfl rfl rfl ?_
            refine jT.callp rfl rfl (Nat.le_of_ble_eq_true rfl) (Nat.le_of_ble_eq_true rfl) (jrv_of o k3 (by decide) rfl (by decide) rfl _) rfl (mj_Ok.up (Nat.add_le_add_left (by decide) D) (jc_4 (D := D) ty hg o k3 rp1)) rfl rfl (fun v4 qv4 => ?_)
            obtain ⟨z5, az5, bz5, rfl⟩ := qv4
            have rz5 : -2147483648 ≤ z5 ∧ z5 ≤ 2147483647 := ⟨by omega, by omega⟩
            refine mj_T.eq (pc2 := 54) (st2 := [.int (jn z5)]) ?_ rfl rfl rfl rfl
            refine jT.if0 rfl rz5 (fun c54 => ?_) (fun c54 => ?_)
            · have c54 := of_decide_eq_true c54
              refine mj_T.pl rfl rfl rfl rfl ?_
              refine jT.call rfl rfl (Nat.le_of_ble_eq_true rfl) (Nat.le_of_ble_eq_true rfl) (jrv_of o kp0 (by decide) rfl (by decide) rfl _) rfl (mj_Ok.up (Nat.add_le_add_left (by decide) D) (jc_156 (D := D) ty hg o kp0)) rfl rfl (fun v6 h7 qv6 oh7 => ?_)
              obtain rfl : v6 = none := qv6
              refine mj_T.eq (pc2 := 69) (st2 := []) ?_ rfl rfl rfl rfl
              refine mj_T.pl rfl rfl rfl rfl ?_
              refine jT.getR 19 110 10 ty oh7 rfl kp0 (by decide) rfl rfl rfl (fun k8 => ?_)
              iterate 2 refine mj_T.pl rfl rfl rfl rfl ?_
              refine jT.call rfl rfl (Nat.le_of_ble_eq_true rfl) (Nat.le_of_ble_eq_true rfl) (jrv_of oh7 k8 (by decide) rfl (by decide) rfl _) rfl (mj_Ok.up (Nat.add_le_add_left (by decide) D) (jc_3 (D := D) ty hg oh7 k8 rp1 rp2)) rfl rfl (fun v9 h10 qv9 oh10 => ?_)
              obtain rfl : v9 = none := qv9
              refine mj_T.eq (pc2 := 78) (st2 := []) ?_ rfl rfl rfl rfl
              refine mj_T.pl rfl rfl rfl rfl ?_
              refine jT.getR 19 110 10 ty oh10 rfl kp0 (by decide) rfl rfl rfl (fun k11 => ?_)
              refine jT.getI 10 9 oh10 rfl k11 (by decide) rfl rfl rfl (fun z12 (az12 : 0 ≤ z12) (bz12 : z12 ≤ 2147483647) fz12 => ?_)
              have rz12 : -2147483648 ≤ z12 ∧ z12 ≤ 2147483647 := ⟨by omega, by omega⟩
              exact jT.ret oh10 rfl rfl rfl ⟨z12, by omega, by omega, rfl⟩
            · have c54 := of_decide_eq_false c54
              exact jT.thr o hg rfl rfl rfl (Nat.le_of_ble_eq_true rfl) rfl
        · have c23 := of_decide_eq_false c23
          exact jT.thr o hg rfl rfl rfl (Nat.le_of_ble_eq_true rfl) rfl
-- PolyRegisters.clearPoints()I
theorem jc_116 {D n : Nat} {tm : Int} {h g : mj_H} {K L : Nat → Nat} {R : Nat → Nat → Nat} {p0 : Nat} (ty : jTY K L R) (hg : g.length ≤ n) (o : jO K L R g n tm h) (kp0 : K p0 = 19) : mj_Ok (D + 4) 116 [.ref p0] h (jQ K L R g n tm [] (jVi (-2147483648) 2147483647)) := by
  refine mj_Ok.of (M := mj_m116) (loc := [some (.ref p0), none]) rfl rfl rfl ?_
  refine mj_T.pl rfl rfl rfl rfl ?_
  refine jT.call rfl rfl (Nat.le_of_ble_eq_true rfl) (Nat.le_of_ble_eq_true rfl) (jrv_of o kp0 (by decide) rfl (by decide) rfl _) rfl (mj_Ok.up (Nat.add_le_add_left (by decide) D) (jc_156 (D := D) ty hg o kp0)) rfl rfl (fun v1 h2 qv1 oh2 => ?_)
  obtain rfl : v1 = none := qv1
  refine mj_T.eq (pc2 := 4) (st2 := []) ?_ rfl rfl rfl rfl
  refine mj_T.pl rfl rfl rfl rfl ?_
  refine jT.getR 19 110 10 ty oh2 rfl kp0 (by decide) rfl rfl rfl (fun k3 => ?_)
  refine jT.getI 10 9 oh2 rfl k3 (by decide) rfl rfl rfl (fun z4 (az4 : 0 ≤ z4) (bz4 : z4 ≤ 2147483647) fz4 => ?_)
  have rz4 : -2147483648 ≤ z4 ∧ z4 ≤ 2147483647 := ⟨by omega, by omega⟩
  refine mj_T.pl (loc' := [some (.ref p0), some (.int (jn z4))]) rfl rfl rfl rfl ?_
  refine mj_T.pl rfl rfl rfl rfl ?_
  refine jT.getR 19 110 10 ty oh2 rfl kp0 (by decide) rfl rfl rfl (fun k5 => ?_)
  refine mj_T.pl rfl rfl rfl rfl ?_
  refine jT.putI 10 9 oh2 rfl k5 (by decide) rfl rfl rfl (Or.inl rfl) (by show 0 ≤ 0; omega) (by show 0 ≤ 2147483647; omega) (fun h6 oh6 wh6 uh6 => ?_)
  refine mj_T.pl rfl rfl rfl rfl ?_
  exact jT.ret oh6 rfl rfl rfl ⟨z4, by omega, by omega, rfl⟩
/-! The class by kinds: what others call. -/
-- PolyRegisters.interpolate(I)J
theorem jc_117 {D n : Nat} {tm : Int} {h g : mj_H} {K L : Nat → Nat} {R : Nat → Nat → Nat} {p0 : Nat} {p1 : Int} (ty : jTY K L R) (hg : g.length ≤ n) (o : jO K L R g n tm h) (kp0 : K p0 = 19) (rp1 : -2147483648 ≤ p1 ∧ p1 ≤ 2147483647) : mj_Ok (D + 5) 117 [.ref p0, .int (jn p1)] h (jQ K L R g n tm [0, 1] jVl) := by
  refine mj_Ok.of (M := mj_m117) (loc := [some (.ref p0), some (.int (jn p1)), none, none, none, none, none]) rfl rfl rfl ?_
  iterate 2 refine mj_T.pl rfl rfl rfl rfl ?_
  refine jT.callp rfl rfl (Nat.le_of_ble_eq_true rfl) (Nat.le_of_ble_eq_true rfl) (jrv_of o kp0 (by decide) rfl (by decide) rfl _) rfl (mj_Ok.up (Nat.add_le_add_left (by decide) D) (jc_149 (D := D) ty hg o kp0 rp1)) rfl rfl (fun v1 qv1 => ?_)
  obtain ⟨a2, ka2, rfl⟩ := qv1
  refine mj_T.eq (pc2 := 5) (st2 := [.ref a2]) ?_ rfl rfl rfl rfl
  iterate 2 refine mj_T.pl rfl rfl rfl rfl ?_
  refine jT.getR 19 110 10 ty o rfl kp0 (by decide) rfl rfl rfl (fun k3 => ?_)
  refine jT.callp rfl rfl (Nat.le_of_ble_eq_true rfl) (Nat.le_of_ble_eq_true rfl) (jrv_of o k3 (by decide) rfl (by decide) rfl _) rfl (mj_Ok.up (Nat.add_le_add_left (by decide) D) (jc_8 (D := D) ty hg o k3)) rfl rfl (fun v4 qv4 => ?_)
  obtain ⟨z5, jz5, rfl⟩ := qv4
  refine mj_T.eq (pc2 := 13) (st2 := [.long (jl z5)]) ?_ rfl rfl rfl rfl
  refine mj_T.pl (loc' := [some (.ref p0), some (.int (jn p1)), some (.long (jl z5)), none, none, none, none]) rfl rfl rfl rfl ?_
  refine mj_T.pl rfl rfl rfl rfl ?_
  refine jT.getR 19 111 11 ty o rfl kp0 (by decide) rfl rfl rfl (fun k6 => ?_)
  refine jT.getR 11 113 13 ty o rfl k6 (by decide) rfl rfl rfl (fun k7 => ?_)
  refine jT.call rfl rfl (Nat.le_of_ble_eq_true rfl) (Nat.le_of_ble_eq_true rfl) (jrv_of o k7 (by decide) rfl (by decide) rfl _) rfl (mj_Ok.up (Nat.add_le_add_left (by decide) D) (jc_39 (D := D) ty hg o k7)) rfl rfl (fun v8 h9 qv8 oh9 => ?_)
  obtain rfl : v8 = none := qv8
  refine mj_T.eq (pc2 := 24) (st2 := []) ?_ rfl rfl rfl rfl
  refine mj_T.pl rfl rfl rfl rfl ?_
  refine mj_T.pl (loc' := [some (.ref p0), some (.int (jn p1)), some (.long (jl z5)), none, some (.int (jn 0)), none, none]) rfl rfl rfl rfl ?_
  have t27_13 : ∀ (k14 : Nat) (x10 : Int) (w11 : Option Value) (h12 : mj_H), (-2147483648 ≤ x10 ∧ x10 ≤ 2147483647) → (jO K L R g n tm h12) → (0 ≤ x10) → (2147483647 - x10 : Int).toNat = k14 → mj_T (D + 4) mj_m117 27 [some (.ref p0), some (.int (jn p1)), some (.long (jl z5)), none, some (.int (jn x10)), w11, none] [] h12 (jQ K L R g n tm [0, 1] jVl) := by
    refine jInd (fun k14 ih15 => ?_)
    intro x10 w11 h12 rx10 oh12 ix10 hm16
    refine mj_T.pl rfl rfl rfl rfl ?_
    refine mj_T.pl rfl rfl rfl rfl ?_
    refine jT.getR 19 110 10 ty oh12 rfl kp0 (by decide) rfl rfl rfl (fun k17 => ?_)
    refine jT.getI 10 9 oh12 rfl k17 (by decide) rfl rfl rfl (fun z18 (az18 : 0 ≤ z18) (bz18 : z18 ≤ 2147483647) fz18 => ?_)
    have rz18 : -2147483648 ≤ z18 ∧ z18 ≤ 2147483647 := ⟨by omega, by omega⟩
    refine jT.icmp rfl rx10 rz18 (fun c36 => ?_) (fun c36 => ?_)
    · have c36 := of_decide_eq_true c36
      refine mj_T.pl rfl rfl rfl rfl ?_
      refine jT.getR 19 111 11 ty oh12 rfl kp0 (by decide) rfl rfl rfl (fun k19 => ?_)
      refine mj_T.pl rfl rfl rfl rfl ?_
      refine jT.call rfl rfl (Nat.le_of_ble_eq_true rfl) (Nat.le_of_ble_eq_true rfl) (jrv_of oh12 k19 (by decide) rfl (by decide) rfl _) rfl (mj_Ok.up (Nat.add_le_add_left (by decide) D) (jc_22 (D := D) ty hg oh12 k19 jz5)) rfl rfl (fun v20 h21 qv20 oh21 => ?_)
      obtain ⟨z22, jz22, rfl⟩ := qv20
      refine mj_T.eq (pc2 := 114) (st2 := [.long (jl z22)]) ?_ rfl rfl rfl rfl
      refine mj_T.pl (loc' := [some (.ref p0), some (.int (jn p1)), some (.long (jl z5)), none, some (.long (jl z22)), none, none]) rfl rfl rfl rfl ?_
      refine mj_T.pl rfl rfl rfl rfl ?_
      refine jT.getR 19 111 11 ty oh21 rfl kp0 (by decide) rfl rfl rfl (fun k23 => ?_)
      refine jT.getR 11 113 13 ty oh21 rfl k23 (by decide) rfl rfl rfl (fun k24 => ?_)
      refine mj_T.pl rfl rfl rfl rfl ?_
      refine jT.getR 19 102 2 ty oh21 rfl kp0 (by decide) rfl rfl rfl (fun k25 => ?_)
      refine jT.call rfl rfl (Nat.le_of_ble_eq_true rfl) (Nat.le_of_ble_eq_true rfl) (jrv_of oh21 k24 (by decide) rfl (by decide) rfl _) rfl (mj_Ok.up (Nat.add_le_add_left (by decide) D) (jc_44 (D := D) ty hg oh21 k24 k25)) rfl rfl (fun v26 h27 qv26 oh27 => ?_)
      obtain ⟨z28, az28, bz28, rfl⟩ := qv26
      have rz28 : -2147483648 ≤ z28 ∧ z28 ≤ 2147483647 := ⟨by omega, by omega⟩
      refine mj_T.eq (pc2 := 130) (st2 := [.int (jn z28)]) ?_ rfl rfl rfl rfl
      refine jT.if0 rfl rz28 (fun c130 => ?_) (fun c130 => ?_)
      · have c130 := jne1 c130
        iterate 2 refine mj_T.pl rfl rfl rfl rfl ?_
        refine jT.call rfl rfl (Nat.le_of_ble_eq_true rfl) (Nat.le_of_ble_eq_true rfl) (jrv_of oh27 kp0 (by decide) rfl (by decide) rfl _) rfl (mj_Ok.up (Nat.add_le_add_left (by decide) D) (jc_154 (D := D) ty hg oh27 kp0 rp1)) rfl rfl (fun v29 h30 qv29 oh30 => ?_)
        obtain ⟨z31, az31, bz31, rfl⟩ := qv29
        have rz31 : -2147483648 ≤ z31 ∧ z31 ≤ 2147483647 := ⟨by omega, by omega⟩
        refine mj_T.eq (pc2 := 146) (st2 := [.int (jn z31)]) ?_ rfl rfl rfl rfl
        iterate 2 refine mj_T.pl rfl rfl rfl rfl ?_
        refine jT.lc 0 rfl rfl ?_
        refine mj_T.lif rfl rfl jz22 ⟨by decide, by decide⟩ (fun c150 => ?_) (fun c150 => ?_)
        · have c150 := jne1 c150
          iterate 2 refine mj_T.pl rfl rfl rfl rfl ?_
          refine jT.ldiv rfl jz22 (by omega) (fun z32 jz32 => ?_)
          exact jT.ret oh30 rfl rfl rfl ⟨z32, jz32, rfl⟩
        · have c150 := jne2 c150
          iterate 2 refine mj_T.pl rfl rfl rfl rfl ?_
          exact jT.ret oh30 rfl rfl rfl ⟨z5, jz5, rfl⟩
      · have c130 := jne2 c130
        exact jT.thr oh27 hg rfl rfl rfl (Nat.le_of_ble_eq_true rfl) rfl
    · have c36 := of_decide_eq_false c36
      refine mj_T.pl rfl rfl rfl rfl ?_
      refine jT.getR 19 110 10 ty oh12 rfl kp0 (by decide) rfl rfl rfl (fun k33 => ?_)
      refine mj_T.pl rfl rfl rfl rfl ?_
      refine jT.callp rfl rfl (Nat.le_of_ble_eq_true rfl) (Nat.le_of_ble_eq_true rfl) (jrv_of oh12 k33 (by decide) rfl (by decide) rfl _) rfl (mj_Ok.up (Nat.add_le_add_left (by decide) D) (jc_7 (D := D) ty hg oh12 k33 rx10)) rfl rfl (fun v34 qv34 => ?_)
      obtain ⟨z35, jz35, rfl⟩ := qv34
      refine mj_T.eq (pc2 := 48) (st2 := [.long (jl z35)]) ?_ rfl rfl rfl rfl
      refine mj_T.pl (loc' := [some (.ref p0), some (.int (jn p1)), some (.long (jl z5)), none, some (.int (jn x10)), some (.long (jl z35)), none]) rfl rfl rfl rfl ?_
      refine mj_T.pl rfl rfl rfl rfl ?_
      refine jT.getR 19 110 10 ty oh12 rfl kp0 (by decide) rfl rfl rfl (fun k36 => ?_)
      iterate 2 refine mj_T.pl rfl rfl rfl rfl ?_
      refine jT.getR 19 102 2 ty oh12 rfl kp0 (by decide) rfl rfl rfl (fun k37 => ?_)
      refine jT.call rfl rfl (Nat.le_of_ble_eq_true rfl) (Nat.le_of_ble_eq_true rfl) (jrv_of oh12 k36 (by decide) rfl (by decide) rfl _) rfl (mj_Ok.up (Nat.add_le_add_left (by decide) D) (jc_9 (D := D) ty hg oh12 k36 rx10 k37)) rfl rfl (fun v38 h39 qv38 oh39 => ?_)
      obtain rfl : v38 = none := qv38
      refine mj_T.eq (pc2 := 63) (st2 := []) ?_ rfl rfl rfl rfl
      refine mj_T.pl rfl rfl rfl rfl ?_
      refine jT.getR 19 111 11 ty oh39 rfl kp0 (by decide) rfl rfl rfl (fun k40 => ?_)
      refine mj_T.pl rfl rfl rfl rfl ?_
      refine jT.lc 0 rfl rfl ?_
      refine mj_T.lif rfl rfl jz35 ⟨by decide, by decide⟩ (fun c70 => ?_) (fun c70 => ?_)
      · have c70 := jne1 c70
        refine mj_T.pl rfl rfl rfl rfl ?_
        refine jT.getR 19 110 10 ty oh39 rfl kp0 (by decide) rfl rfl rfl (fun k41 => ?_)
        refine mj_T.pl rfl rfl rfl rfl ?_
        refine jT.callp rfl rfl (Nat.le_of_ble_eq_true rfl) (Nat.le_of_ble_eq_true rfl) (jrv_of oh39 k41 (by decide) rfl (by decide) rfl _) rfl (mj_Ok.up (Nat.add_le_add_left (by decide) D) (jc_6 (D := D) ty hg oh39 k41 rx10)) rfl rfl (fun v42 qv42 => ?_)
        obtain ⟨z43, az43, bz43, rfl⟩ := qv42
        have rz43 : -2147483648 ≤ z43 ∧ z43 ≤ 2147483647 := ⟨by omega, by omega⟩
        refine mj_T.eq (pc2 := 87) (st2 := [.int (jn z43), .ref (R p0 7)]) ?_ rfl rfl rfl rfl
        refine jT.i2l rfl rz43 ?_
        have j44 : jR z43 := ⟨by omega, by omega⟩
        iterate 2 refine mj_T.pl rfl rfl rfl rfl ?_
        refine jT.ldiv rfl jz35 (by omega) (fun z45 jz45 => ?_)
        refine jT.lmul rfl (fun z46 jz46 _ => ?_)
        refine mj_T.pl rfl rfl rfl rfl ?_
        refine jT.getR 19 102 2 ty oh39 rfl kp0 (by decide) rfl rfl rfl (fun k47 => ?_)
        refine jT.call rfl rfl (Nat.le_of_ble_eq_true rfl) (Nat.le_of_ble_eq_true rfl) (jrv_of oh39 k40 (by decide) rfl (by decide) rfl _) rfl (mj_Ok.up (Nat.add_le_add_left (by decide) D) (jc_21 (D := D) ty hg oh39 k40 jz46 k47)) rfl rfl (fun v48 h49 qv48 oh49 => ?_)
        obtain rfl : v48 = none := qv48
        refine mj_T.eq (pc2 := 100) (st2 := []) ?_ rfl rfl rfl rfl
        refine jT.iinc rfl rfl (fun z50 rz50 ez50 => ?_)
        replace ez50 := ez50 ⟨by omega, by omega⟩
        refine mj_T.eq (loc2 := [some (.ref p0), some (.int (jn p1)), some (.long (jl z5)), none, some (.int (jn z50)), some (.long (jl z35)), none]) ?_ rfl rfl rfl rfl
        refine mj_T.pl rfl rfl rfl rfl ?_
        exact ih15 ((2147483647 - z50 : Int).toNat) (by omega) z50 (some (.long (jl z35))) h49 rz50 oh49 (by omega) rfl
      · have c70 := jne2 c70
        refine jT.lc 0 rfl rfl ?_
        iterate 2 refine mj_T.pl rfl rfl rfl rfl ?_
        refine jT.getR 19 102 2 ty oh39 rfl kp0 (by decide) rfl rfl rfl (fun k51 => ?_)
        refine jT.call rfl rfl (Nat.le_of_ble_eq_true rfl) (Nat.le_of_ble_eq_true rfl) (jrv_of oh39 k40 (by decide) rfl (by decide) rfl _) rfl (mj_Ok.up (Nat.add_le_add_left (by decide) D) (jc_21 (D := D) ty hg oh39 k40 ⟨by decide, by decide⟩ k51)) rfl rfl (fun v52 h53 qv52 oh53 => ?_)
        obtain rfl : v52 = none := qv52
        refine mj_T.eq (pc2 := 100) (st2 := []) ?_ rfl rfl rfl rfl
        refine jT.iinc rfl rfl (fun z54 rz54 ez54 => ?_)
        replace ez54 := ez54 ⟨by omega, by omega⟩
        refine mj_T.eq (loc2 := [some (.ref p0), some (.int (jn p1)), some (.long (jl z5)), none, some (.int (jn z54)), some (.long (jl z35)), none]) ?_ rfl rfl rfl rfl
        refine mj_T.pl rfl rfl rfl rfl ?_
        exact ih15 ((2147483647 - z54 : Int).toNat) (by omega) z54 (some (.long (jl z35))) h53 rz54 oh53 (by omega) rfl
  exact t27_13 _ 0 none h9 ⟨by decide, by decide⟩ oh9 (by omega) rfl
-- PolyRegisters.undo()I
theorem jc_118 {D n : Nat} {tm : Int} {h g : mj_H} {K L : Nat → Nat} {R : Nat → Nat → Nat} {p0 : Nat} (ty : jTY K L R) (hg : g.length ≤ n) (o : jO K L R g n tm h) (kp0 : K p0 = 19) : mj_Ok (D + 3) 118 [.ref p0] h (jQ K L R g n tm [] (jVi (-2147483648) 2147483647)) := by
  refine mj_Ok.of (M := mj_m118) (loc := [some (.ref p0)]) rfl rfl rfl ?_
  refine mj_T.pl rfl rfl rfl rfl ?_
  refine jT.getI 19 0 o rfl kp0 (by decide) rfl rfl rfl (fun z1 (az1 : (-2147483648) ≤ z1) (bz1 : z1 ≤ 2147483647) fz1 => ?_)
  have rz1 : -2147483648 ≤ z1 ∧ z1 ≤ 2147483647 := ⟨by omega, by omega⟩
  refine jT.if0 rfl rz1 (fun c4 => ?_) (fun c4 => ?_)
  · have c4 := jne1 c4
    iterate 2 refine mj_T.pl rfl rfl rfl rfl ?_
    refine jT.getI 19 0 o rfl kp0 (by decide) rfl rfl rfl (fun z2 (az2 : (-2147483648) ≤ z2) (bz2 : z2 ≤ 2147483647) fz2 => ?_)
    have rz2 : -2147483648 ≤ z2 ∧ z2 ≤ 2147483647 := ⟨by omega, by omega⟩
    refine mj_T.pl rfl rfl rfl rfl ?_
    refine jT.iadd rfl (fun z3 rz3 ez3 => ?_)
    clear ez3
    refine mj_T.pl rfl rfl rfl rfl ?_
    refine jT.isub rfl (fun z4 rz4 ez4 => ?_)
    clear ez4
    refine mj_T.pl rfl rfl rfl rfl ?_
    refine jT.irem rfl ⟨by decide, by decide⟩ (by decide) (fun z5 rz5 => ?_)
    refine jT.putI 19 0 o rfl kp0 (by decide) rfl rfl rfl (Or.inl rfl) (by show (-2147483648) ≤ z5; omega) (by show z5 ≤ 2147483647; omega) (fun h6 oh6 wh6 uh6 => ?_)
    iterate 2 refine mj_T.pl rfl rfl rfl rfl ?_
    refine jT.getK 19 0 oh6 rfl kp0 (by decide) rfl rfl rfl ((uh6 p0 2 (Or.inr (by decide))).trans fz1.symm) ?_
    refine mj_T.pl rfl rfl rfl rfl ?_
    refine jT.isub rfl (fun z7 rz7 ez7 => ?_)
    clear ez7
    refine jT.putI 19 0 oh6 rfl kp0 (by decide) rfl rfl rfl (Or.inl rfl) (by show (-2147483648) ≤ z7; omega) (by show z7 ≤ 2147483647; omega) (fun h8 oh8 wh8 uh8 => ?_)
    refine mj_T.pl rfl rfl rfl rfl ?_
    refine jT.getR 19 110 10 ty oh8 rfl kp0 (by decide) rfl rfl rfl (fun k9 => ?_)
    refine mj_T.pl rfl rfl rfl rfl ?_
    refine jT.callp rfl rfl (Nat.le_of_ble_eq_true rfl) (Nat.le_of_ble_eq_true rfl) (jrv_of oh8 kp0 (by decide) rfl (by decide) rfl _) rfl (mj_Ok.up (Nat.add_le_add_left (by decide) D) (jc_155 (D := D) ty hg oh8 kp0)) rfl rfl (fun v10 qv10 => ?_)
    obtain ⟨a11, ka11, rfl⟩ := qv10
    refine mj_T.eq (pc2 := 43) (st2 := [.ref a11, .ref (R p0 0)]) ?_ rfl rfl rfl rfl
    refine jT.call rfl rfl (Nat.le_of_ble_eq_true rfl) (Nat.le_of_ble_eq_true rfl) (jrv_of oh8 k9 (by decide) rfl (by decide) rfl _) rfl (mj_Ok.up (Nat.add_le_add_left (by decide) D) (jc_2 (D := D) ty hg oh8 k9 ka11)) rfl rfl (fun v12 h13 qv12 oh13 => ?_)
    obtain rfl : v12 = none := qv12
    refine mj_T.eq (pc2 := 46) (st2 := []) ?_ rfl rfl rfl rfl
    refine mj_T.pl rfl rfl rfl rfl ?_
    refine jT.getI 19 0 oh13 rfl kp0 (by decide) rfl rfl rfl (fun z14 (az14 : (-2147483648) ≤ z14) (bz14 : z14 ≤ 2147483647) fz14 => ?_)
    have rz14 : -2147483648 ≤ z14 ∧ z14 ≤ 2147483647 := ⟨by omega, by omega⟩
    exact jT.ret oh13 rfl rfl rfl ⟨z14, by omega, by omega, rfl⟩
  · have c4 := jne2 c4
    refine mj_T.pl rfl rfl rfl rfl ?_
    exact jT.ret o rfl rfl rfl ⟨(-1), by omega, by omega, rfl⟩
-- PolyRegisters.degree(I)I
theorem jc_119 {D n : Nat} {tm : Int} {h g : mj_H} {K L : Nat → Nat} {R : Nat → Nat → Nat} {p0 : Nat} {p1 : Int} (ty : jTY K L R) (hg : g.length ≤ n) (o : jO K L R g n tm h) (kp0 : K p0 = 19) (rp1 : -2147483648 ≤ p1 ∧ p1 ≤ 2147483647) : mj_Ok (D + 2) 119 [.ref p0, .int (jn p1)] h (jQp K L R g n tm h [0] (jVi (-2147483648) 2147483647)) := by
  refine mj_Ok.of (M := mj_m119) (loc := [some (.ref p0), some (.int (jn p1))]) rfl rfl rfl ?_
  iterate 2 refine mj_T.pl rfl rfl rfl rfl ?_
  refine jT.callpp rfl rfl (Nat.le_of_ble_eq_true rfl) (Nat.le_of_ble_eq_true rfl) (jrv_of o kp0 (by decide) rfl (by decide) rfl _) rfl (mj_Ok.up (Nat.add_le_add_left (by decide) D) (jc_149 (D := D) ty hg o kp0 rp1)) rfl rfl (fun v1 qv1 => ?_)
  obtain ⟨a2, ka2, rfl⟩ := qv1
  refine mj_T.eq (pc2 := 5) (st2 := [.ref a2]) ?_ rfl rfl rfl rfl
  refine jT.callpp rfl rfl (Nat.le_of_ble_eq_true rfl) (Nat.le_of_ble_eq_true rfl) rfl rfl (mj_Ok.up (Nat.add_le_add_left (by decide) D) (jc_162 (D := D) ty hg o ka2)) rfl rfl (fun v3 qv3 => ?_)
  obtain ⟨z4, az4, bz4, rfl⟩ := qv3
  have rz4 : -2147483648 ≤ z4 ∧ z4 ≤ 2147483647 := ⟨by omega, by omega⟩
  refine mj_T.eq (pc2 := 8) (st2 := [.int (jn z4)]) ?_ rfl rfl rfl rfl
  exact jT.retp rfl rfl rfl ⟨z4, by omega, by omega, rfl⟩
-- PolyRegisters.terms(I)I
theorem jc_120 {D n : Nat} {tm : Int} {h g : mj_H} {K L : Nat → Nat} {R : Nat → Nat → Nat} {p0 : Nat} {p1 : Int} (ty : jTY K L R) (hg : g.length ≤ n) (o : jO K L R g n tm h) (kp0 : K p0 = 19) (rp1 : -2147483648 ≤ p1 ∧ p1 ≤ 2147483647) : mj_Ok (D + 2) 120 [.ref p0, .int (jn p1)] h (jQp K L R g n tm h [0] (jVi (-2147483648) 2147483647)) := by
  refine mj_Ok.of (M := mj_m120) (loc := [some (.ref p0), some (.int (jn p1))]) rfl rfl rfl ?_
  iterate 2 refine mj_T.pl rfl rfl rfl rfl ?_
  refine jT.callpp rfl rfl (Nat.le_of_ble_eq_true rfl) (Nat.le_of_ble_eq_true rfl) (jrv_of o kp0 (by decide) rfl (by decide) rfl _) rfl (mj_Ok.up (Nat.add_le_add_left (by decide) D) (jc_149 (D := D) ty hg o kp0 rp1)) rfl rfl (fun v1 qv1 => ?_)
  obtain ⟨a2, ka2, rfl⟩ := qv1
  refine mj_T.eq (pc2 := 5) (st2 := [.ref a2]) ?_ rfl rfl rfl rfl
  refine jT.callpp rfl rfl (Nat.le_of_ble_eq_true rfl) (Nat.le_of_ble_eq_true rfl) rfl rfl (mj_Ok.up (Nat.add_le_add_left (by decide) D) (jc_163 (D := D) ty hg o ka2)) rfl rfl (fun v3 qv3 => ?_)
  obtain ⟨z4, az4, bz4, rfl⟩ := qv3
  have rz4 : -2147483648 ≤ z4 ∧ z4 ≤ 2147483647 := ⟨by omega, by omega⟩
  refine mj_T.eq (pc2 := 8) (st2 := [.int (jn z4)]) ?_ rfl rfl rfl rfl
  exact jT.retp rfl rfl rfl ⟨z4, by omega, by omega, rfl⟩
-- PolyRegisters.exponent(II)I
theorem jc_121 {D n : Nat} {tm : Int} {h g : mj_H} {K L : Nat → Nat} {R : Nat → Nat → Nat} {p0 : Nat} {p1 : Int} {p2 : Int} (ty : jTY K L R) (hg : g.length ≤ n) (o : jO K L R g n tm h) (kp0 : K p0 = 19) (rp1 : -2147483648 ≤ p1 ∧ p1 ≤ 2147483647) (rp2 : -2147483648 ≤ p2 ∧ p2 ≤ 2147483647) : mj_Ok (D + 2) 121 [.ref p0, .int (jn p1), .int (jn p2)] h (jQp K L R g n tm h [0] (jVi (-2147483648) 2147483647)) := by
  refine mj_Ok.of (M := mj_m121) (loc := [some (.ref p0), some (.int (jn p1)), some (.int (jn p2)), none, none, none]) rfl rfl rfl ?_
  iterate 2 refine mj_T.pl rfl rfl rfl rfl ?_
  refine jT.callpp rfl rfl (Nat.le_of_ble_eq_true rfl) (Nat.le_of_ble_eq_true rfl) (jrv_of o kp0 (by decide) rfl (by decide) rfl _) rfl (mj_Ok.up (Nat.add_le_add_left (by decide) D) (jc_149 (D := D) ty hg o kp0 rp1)) rfl rfl (fun v1 qv1 => ?_)
  obtain ⟨a2, ka2, rfl⟩ := qv1
  refine mj_T.eq (pc2 := 5) (st2 := [.ref a2]) ?_ rfl rfl rfl rfl
  refine mj_T.pl (loc' := [some (.ref p0), some (.int (jn p1)), some (.int (jn p2)), some (.ref a2), none, none]) rfl rfl rfl rfl ?_
  refine mj_T.pl rfl rfl rfl rfl ?_
  refine mj_T.pl (loc' := [some (.ref p0), some (.int (jn p1)), some (.int (jn p2)), some (.ref a2), some (.int (jn p2)), none]) rfl rfl rfl rfl ?_
  refine mj_T.pl rfl rfl rfl rfl ?_
  refine jT.alen 2 ty o rfl ka2 (by decide) (by decide) (fun z3 ez3 (az3 : 13 ≤ z3) (bz3 : z3 ≤ 13) => ?_)
  have rz3 : -2147483648 ≤ z3 ∧ z3 ≤ 2147483647 := ⟨by omega, by omega⟩
  refine mj_T.pl rfl rfl rfl rfl ?_
  refine jT.isub rfl (fun z4 rz4 ez4 => ?_)
  replace ez4 := ez4 ⟨by omega, by omega⟩
  refine mj_T.pl (loc' := [some (.ref p0), some (.int (jn p1)), some (.int (jn p2)), some (.ref a2), some (.int (jn p2)), some (.int (jn z4))]) rfl rfl rfl rfl ?_
  have t15_7 : ∀ (k8 : Nat) (x5 : Int) (x6 : Int), (-2147483648 ≤ x5 ∧ x5 ≤ 2147483647) → (-2147483648 ≤ x6 ∧ x6 ≤ 2147483647) → (x6 ≤ z4) → (x6 + 1 : Int).toNat = k8 → mj_T (D + 1) mj_m121 15 [some (.ref p0), some (.int (jn p1)), some (.int (jn p2)), some (.ref a2), some (.int (jn x5)), some (.int (jn x6))] [] h (jQp K L R g n tm h [0] (jVi (-2147483648) 2147483647)) := by
    refine jInd (fun k8 ih9 => ?_)
    intro x5 x6 rx5 rx6 ix6 hm10
    refine mj_T.pl rfl rfl rfl rfl ?_
    refine jT.if0 rfl rx6 (fun c17 => ?_) (fun c17 => ?_)
    · have c17 := of_decide_eq_true c17
      exact jT.thrp o hg rfl rfl rfl (Nat.le_of_ble_eq_true rfl) rfl
    · have c17 := of_decide_eq_false c17
      refine mj_T.pl rfl rfl rfl rfl ?_
      refine jT.if0 rfl rx5 (fun c22 => ?_) (fun c22 => ?_)
      · have c22 := of_decide_eq_true c22
        exact jT.thrp o hg rfl rfl rfl (Nat.le_of_ble_eq_true rfl) rfl
      · have c22 := of_decide_eq_false c22
        iterate 2 refine mj_T.pl rfl rfl rfl rfl ?_
        refine jT.lald o rfl ka2 rx6 ⟨by omega, by omega⟩ (fun z11 jz11 => ?_)
        refine jT.lc 0 rfl rfl ?_
        refine mj_T.lif rfl rfl jz11 ⟨by decide, by decide⟩ (fun c30 => ?_) (fun c30 => ?_)
        · have c30 := of_decide_eq_true c30
          refine jT.iinc rfl rfl (fun z12 rz12 ez12 => ?_)
          replace ez12 := ez12 ⟨by omega, by omega⟩
          refine mj_T.eq (loc2 := [some (.ref p0), some (.int (jn p1)), some (.int (jn p2)), some (.ref a2), some (.int (jn x5)), some (.int (jn z12))]) ?_ rfl rfl rfl rfl
          refine mj_T.pl rfl rfl rfl rfl ?_
          exact ih9 ((z12 + 1 : Int).toNat) (by omega) x5 z12 rx5 rz12 (by omega) rfl
        · have c30 := of_decide_eq_false c30
          refine mj_T.pl rfl rfl rfl rfl ?_
          refine jT.if0 rfl rx5 (fun c36 => ?_) (fun c36 => ?_)
          · have c36 := jne1 c36
            refine jT.iinc rfl rfl (fun z13 rz13 ez13 => ?_)
            replace ez13 := ez13 ⟨by omega, by omega⟩
            refine mj_T.eq (loc2 := [some (.ref p0), some (.int (jn p1)), some (.int (jn p2)), some (.ref a2), some (.int (jn z13)), some (.int (jn x6))]) ?_ rfl rfl rfl rfl
            refine jT.iinc rfl rfl (fun z14 rz14 ez14 => ?_)
            replace ez14 := ez14 ⟨by omega, by omega⟩
            refine mj_T.eq (loc2 := [some (.ref p0), some (.int (jn p1)), some (.int (jn p2)), some (.ref a2), some (.int (jn z13)), some (.int (jn z14))]) ?_ rfl rfl rfl rfl
            refine mj_T.pl rfl rfl rfl rfl ?_
            exact ih9 ((z14 + 1 : Int).toNat) (by omega) z13 z14 rz13 rz14 (by omega) rfl
          · have c36 := jne2 c36
            refine mj_T.pl rfl rfl rfl rfl ?_
            exact jT.retp rfl rfl rfl ⟨x6, by omega, by omega, rfl⟩
  exact t15_7 _ p2 z4 rp2 rz4 (by omega) rfl
-- PolyRegisters.coefficient(II)I
theorem jc_122 {D n : Nat} {tm : Int} {h g : mj_H} {K L : Nat → Nat} {R : Nat → Nat → Nat} {p0 : Nat} {p1 : Int} {p2 : Int} (ty : jTY K L R) (hg : g.length ≤ n) (o : jO K L R g n tm h) (kp0 : K p0 = 19) (rp1 : -2147483648 ≤ p1 ∧ p1 ≤ 2147483647) (rp2 : -2147483648 ≤ p2 ∧ p2 ≤ 2147483647) : mj_Ok (D + 3) 122 [.ref p0, .int (jn p1), .int (jn p2)] h (jQ K L R g n tm [0, 2] (jVi (-2147483648) 2147483647)) := by
  refine mj_Ok.of (M := mj_m122) (loc := [some (.ref p0), some (.int (jn p1)), some (.int (jn p2)), none]) rfl rfl rfl ?_
  iterate 2 refine mj_T.pl rfl rfl rfl rfl ?_
  refine jT.callp rfl rfl (Nat.le_of_ble_eq_true rfl) (Nat.le_of_ble_eq_true rfl) (jrv_of o kp0 (by decide) rfl (by decide) rfl _) rfl (mj_Ok.up (Nat.add_le_add_left (by decide) D) (jc_149 (D := D) ty hg o kp0 rp1)) rfl rfl (fun v1 qv1 => ?_)
  obtain ⟨a2, ka2, rfl⟩ := qv1
  refine mj_T.eq (pc2 := 5) (st2 := [.ref a2]) ?_ rfl rfl rfl rfl
  refine mj_T.pl (loc' := [some (.ref p0), some (.int (jn p1)), some (.int (jn p2)), some (.ref a2)]) rfl rfl rfl rfl ?_
  refine mj_T.pl rfl rfl rfl rfl ?_
  refine jT.callp rfl rfl (Nat.le_of_ble_eq_true rfl) (Nat.le_of_ble_eq_true rfl) rfl rfl (mj_Ok.up (Nat.add_le_add_left (by decide) D) (jc_150 (D := D) ty hg o rp2)) rfl rfl (fun v3 qv3 => ?_)
  obtain ⟨rfl, fv3⟩ := qv3
  refine mj_T.eq (pc2 := 10) (st2 := []) ?_ rfl rfl rfl rfl
  iterate 3 refine mj_T.pl rfl rfl rfl rfl ?_
  have l4 : 13 ≤ (L a2 : Int) ∧ (L a2 : Int) ≤ 13 := jlen 2 ty ka2 (by decide) (by decide)
  refine jT.lald o rfl ka2 rp2 ⟨by omega, by omega⟩ (fun z5 jz5 => ?_)
  refine jT.call rfl rfl (Nat.le_of_ble_eq_true rfl) (Nat.le_of_ble_eq_true rfl) (jrv_of o kp0 (by decide) rfl (by decide) rfl _) rfl (mj_Ok.up (Nat.add_le_add_left (by decide) D) (jc_158 (D := D) ty hg o kp0 jz5)) rfl rfl (fun v6 h7 qv6 oh7 => ?_)
  obtain ⟨z8, az8, bz8, rfl⟩ := qv6
  have rz8 : -2147483648 ≤ z8 ∧ z8 ≤ 2147483647 := ⟨by omega, by omega⟩
  refine mj_T.eq (pc2 := 17) (st2 := [.int (jn z8)]) ?_ rfl rfl rfl rfl
  exact jT.ret oh7 rfl rfl rfl ⟨z8, by omega, by omega, rfl⟩
-- PolyRegisters.content(I)I
theorem jc_123 {D n : Nat} {tm : Int} {h g : mj_H} {K L : Nat → Nat} {R : Nat → Nat → Nat} {p0 : Nat} {p1 : Int} (ty : jTY K L R) (hg : g.length ≤ n) (o : jO K L R g n tm h) (kp0 : K p0 = 19) (rp1 : -2147483648 ≤ p1 ∧ p1 ≤ 2147483647) : mj_Ok (D + 3) 123 [.ref p0, .int (jn p1)] h (jQ K L R g n tm [0] (jVi (-2147483648) 2147483647)) := by
  refine mj_Ok.of (M := mj_m123) (loc := [some (.ref p0), some (.int (jn p1))]) rfl rfl rfl ?_
  iterate 3 refine mj_T.pl rfl rfl rfl rfl ?_
  refine jT.callp rfl rfl (Nat.le_of_ble_eq_true rfl) (Nat.le_of_ble_eq_true rfl) (jrv_of o kp0 (by decide) rfl (by decide) rfl _) rfl (mj_Ok.up (Nat.add_le_add_left (by decide) D) (jc_149 (D := D) ty hg o kp0 rp1)) rfl rfl (fun v1 qv1 => ?_)
  obtain ⟨a2, ka2, rfl⟩ := qv1
  refine mj_T.eq (pc2 := 6) (st2 := [.ref a2, .ref p0]) ?_ rfl rfl rfl rfl
  refine jT.callp rfl rfl (Nat.le_of_ble_eq_true rfl) (Nat.le_of_ble_eq_true rfl) rfl rfl (mj_Ok.up (Nat.add_le_add_left (by decide) D) (jc_169 (D := D) ty hg o ka2)) rfl rfl (fun v3 qv3 => ?_)
  obtain ⟨z4, jz4, rfl⟩ := qv3
  refine mj_T.eq (pc2 := 9) (st2 := [.long (jl z4), .ref p0]) ?_ rfl rfl rfl rfl
  refine jT.call rfl rfl (Nat.le_of_ble_eq_true rfl) (Nat.le_of_ble_eq_true rfl) (jrv_of o kp0 (by decide) rfl (by decide) rfl _) rfl (mj_Ok.up (Nat.add_le_add_left (by decide) D) (jc_158 (D := D) ty hg o kp0 jz4)) rfl rfl (fun v5 h6 qv5 oh6 => ?_)
  obtain ⟨z7, az7, bz7, rfl⟩ := qv5
  have rz7 : -2147483648 ≤ z7 ∧ z7 ≤ 2147483647 := ⟨by omega, by omega⟩
  refine mj_T.eq (pc2 := 12) (st2 := [.int (jn z7)]) ?_ rfl rfl rfl rfl
  exact jT.ret oh6 rfl rfl rfl ⟨z7, by omega, by omega, rfl⟩
-- PolyRegisters.value(III)I
theorem jc_124 {D n : Nat} {tm : Int} {h g : mj_H} {K L : Nat → Nat} {R : Nat → Nat → Nat} {p0 : Nat} {p1 : Int} {p2 : Int} {p3 : Int} (ty : jTY K L R) (hg : g.length ≤ n) (o : jO K L R g n tm h) (kp0 : K p0 = 19) (rp1 : -2147483648 ≤ p1 ∧ p1 ≤ 2147483647) (rp2 : -2147483648 ≤ p2 ∧ p2 ≤ 2147483647) (rp3 : -2147483648 ≤ p3 ∧ p3 ≤ 2147483647) : mj_Ok (D + 5) 124 [.ref p0, .int (jn p1), .int (jn p2), .int (jn p3)] h (jQ K L R g n tm [0, 2] (jVi (-2147483648) 2147483647)) := by
  refine mj_Ok.of (M := mj_m124) (loc := [some (.ref p0), some (.int (jn p1)), some (.int (jn p2)), some (.int (jn p3)), none]) rfl rfl rfl ?_
  iterate 2 refine mj_T.pl rfl rfl rfl rfl ?_
  refine jT.callp rfl rfl (Nat.le_of_ble_eq_true rfl) (Nat.le_of_ble_eq_true rfl) (jrv_of o kp0 (by decide) rfl (by decide) rfl _) rfl (mj_Ok.up (Nat.add_le_add_left (by decide) D) (jc_149 (D := D) ty hg o kp0 rp1)) rfl rfl (fun v1 qv1 => ?_)
  obtain ⟨a2, ka2, rfl⟩ := qv1
  refine mj_T.eq (pc2 := 5) (st2 := [.ref a2]) ?_ rfl rfl rfl rfl
  refine mj_T.pl (loc' := [some (.ref p0), some (.int (jn p1)), some (.int (jn p2)), some (.int (jn p3)), some (.ref a2)]) rfl rfl rfl rfl ?_
  iterate 2 refine mj_T.pl rfl rfl rfl rfl ?_
  refine jT.callp rfl rfl (Nat.le_of_ble_eq_true rfl) (Nat.le_of_ble_eq_true rfl) rfl rfl (mj_Ok.up (Nat.add_le_add_left (by decide) D) (jc_151 (D := D) ty hg o rp2 rp3)) rfl rfl (fun v3 qv3 => ?_)
  obtain rfl : v3 = none := qv3
  refine mj_T.eq (pc2 := 12) (st2 := []) ?_ rfl rfl rfl rfl
  refine mj_T.pl rfl rfl rfl rfl ?_
  refine jT.getR 19 111 11 ty o rfl kp0 (by decide) rfl rfl rfl (fun k4 => ?_)
  iterate 3 refine mj_T.pl rfl rfl rfl rfl ?_
  refine jT.call rfl rfl (Nat.le_of_ble_eq_true rfl) (Nat.le_of_ble_eq_true rfl) (jrv_of o k4 (by decide) rfl (by decide) rfl _) rfl (mj_Ok.up (Nat.add_le_add_left (by decide) D) (jc_27 (D := D) ty hg o k4 ka2 rp2 rp3)) rfl rfl (fun v5 h6 qv5 oh6 => ?_)
  obtain ⟨z7, az7, bz7, rfl⟩ := qv5
  have rz7 : -2147483648 ≤ z7 ∧ z7 ≤ 2147483647 := ⟨by omega, by omega⟩
  refine mj_T.eq (pc2 := 23) (st2 := [.int (jn z7)]) ?_ rfl rfl rfl rfl
  iterate 3 refine mj_T.pl rfl rfl rfl rfl ?_
  refine jT.getR 19 111 11 ty oh6 rfl kp0 (by decide) rfl rfl rfl (fun k8 => ?_)
  refine jT.getR 11 118 18 ty oh6 rfl k8 (by decide) rfl rfl rfl (fun k9 => ?_)
  refine mj_T.pl rfl rfl rfl rfl ?_
  refine jT.i2l rfl rp3 ?_
  have j10 : jR p3 := ⟨by omega, by omega⟩
  refine mj_T.pl rfl rfl rfl rfl ?_
  refine jT.callp rfl rfl (Nat.le_of_ble_eq_true rfl) (Nat.le_of_ble_eq_true rfl) rfl rfl (mj_Ok.up (Nat.add_le_add_left (by decide) D) (jc_162 (D := D) ty hg oh6 ka2)) rfl rfl (fun v11 qv11 => ?_)
  obtain ⟨z12, az12, bz12, rfl⟩ := qv11
  have rz12 : -2147483648 ≤ z12 ∧ z12 ≤ 2147483647 := ⟨by omega, by omega⟩
  refine mj_T.eq (pc2 := 39) (st2 := [.int (jn z12), .long (jl p3), .ref (R (R p0 7) 4), .ref p0]) ?_ rfl rfl rfl rfl
  refine jT.call rfl rfl (Nat.le_of_ble_eq_true rfl) (Nat.le_of_ble_eq_true rfl) (jrv_of oh6 kp0 (by decide) rfl (by decide) rfl _) rfl (mj_Ok.up (Nat.add_le_add_left (by decide) D) (jc_159 (D := D) ty hg oh6 kp0 k9 j10 rz12)) rfl rfl (fun v13 h14 qv13 oh14 => ?_)
  obtain ⟨z15, az15, bz15, rfl⟩ := qv13
  have rz15 : -2147483648 ≤ z15 ∧ z15 ≤ 2147483647 := ⟨by omega, by omega⟩
  refine mj_T.eq (pc2 := 42) (st2 := [.int (jn z15)]) ?_ rfl rfl rfl rfl
  exact jT.ret oh14 rfl rfl rfl ⟨z15, by omega, by omega, rfl⟩
-- PolyRegisters.divides(II)Z
theorem jc_125 {D n : Nat} {tm : Int} {h g : mj_H} {K L : Nat → Nat} {R : Nat → Nat → Nat} {p0 : Nat} {p1 : Int} {p2 : Int} (ty : jTY K L R) (hg : g.length ≤ n) (o : jO K L R g n tm h) (kp0 : K p0 = 19) (rp1 : -2147483648 ≤ p1 ∧ p1 ≤ 2147483647) (rp2 : -2147483648 ≤ p2 ∧ p2 ≤ 2147483647) : mj_Ok (D + 5) 125 [.ref p0, .int (jn p1), .int (jn p2)] h (jQ K L R g n tm [0] (jVi 0 1)) := by
  refine mj_Ok.of (M := mj_m125) (loc := [some (.ref p0), some (.int (jn p1)), some (.int (jn p2)), none, none]) rfl rfl rfl ?_
  iterate 2 refine mj_T.pl rfl rfl rfl rfl ?_
  refine jT.callp rfl rfl (Nat.le_of_ble_eq_true rfl) (Nat.le_of_ble_eq_true rfl) (jrv_of o kp0 (by decide) rfl (by decide) rfl _) rfl (mj_Ok.up (Nat.add_le_add_left (by decide) D) (jc_149 (D := D) ty hg o kp0 rp1)) rfl rfl (fun v1 qv1 => ?_)
  obtain ⟨a2, ka2, rfl⟩ := qv1
  refine mj_T.eq (pc2 := 5) (st2 := [.ref a2]) ?_ rfl rfl rfl rfl
  refine mj_T.pl (loc' := [some (.ref p0), some (.int (jn p1)), some (.int (jn p2)), some (.ref a2), none]) rfl rfl rfl rfl ?_
  iterate 2 refine mj_T.pl rfl rfl rfl rfl ?_
  refine jT.callp rfl rfl (Nat.le_of_ble_eq_true rfl) (Nat.le_of_ble_eq_true rfl) (jrv_of o kp0 (by decide) rfl (by decide) rfl _) rfl (mj_Ok.up (Nat.add_le_add_left (by decide) D) (jc_149 (D := D) ty hg o kp0 rp2)) rfl rfl (fun v3 qv3 => ?_)
  obtain ⟨a4, ka4, rfl⟩ := qv3
  refine mj_T.eq (pc2 := 11) (st2 := [.ref a4]) ?_ rfl rfl rfl rfl
  refine mj_T.pl (loc' := [some (.ref p0), some (.int (jn p1)), some (.int (jn p2)), some (.ref a2), some (.ref a4)]) rfl rfl rfl rfl ?_
  refine mj_T.pl rfl rfl rfl rfl ?_
  refine jT.getR 19 111 11 ty o rfl kp0 (by decide) rfl rfl rfl (fun k5 => ?_)
  iterate 2 refine mj_T.pl rfl rfl rfl rfl ?_
  refine jT.call rfl rfl (Nat.le_of_ble_eq_true rfl) (Nat.le_of_ble_eq_true rfl) (jrv_of o k5 (by decide) rfl (by decide) rfl _) rfl (mj_Ok.up (Nat.add_le_add_left (by decide) D) (jc_18 (D := D) ty hg o k5 ka4 ka2)) rfl rfl (fun v6 h7 qv6 oh7 => ?_)
  obtain ⟨z8, az8, bz8, rfl⟩ := qv6
  have rz8 : -2147483648 ≤ z8 ∧ z8 ≤ 2147483647 := ⟨by omega, by omega⟩
  refine mj_T.eq (pc2 := 23) (st2 := [.int (jn z8)]) ?_ rfl rfl rfl rfl
  exact jT.retb oh7 rfl rfl (by omega) (by omega)
-- PolyRegisters.areSame(II)Z
theorem jc_126 {D n : Nat} {tm : Int} {h g : mj_H} {K L : Nat → Nat} {R : Nat → Nat → Nat} {p0 : Nat} {p1 : Int} {p2 : Int} (ty : jTY K L R) (hg : g.length ≤ n) (o : jO K L R g n tm h) (kp0 : K p0 = 19) (rp1 : -2147483648 ≤ p1 ∧ p1 ≤ 2147483647) (rp2 : -2147483648 ≤ p2 ∧ p2 ≤ 2147483647) : mj_Ok (D + 2) 126 [.ref p0, .int (jn p1), .int (jn p2)] h (jQp K L R g n tm h [0] (jVi 0 1)) := by
  refine mj_Ok.of (M := mj_m126) (loc := [some (.ref p0), some (.int (jn p1)), some (.int (jn p2))]) rfl rfl rfl ?_
  iterate 2 refine mj_T.pl rfl rfl rfl rfl ?_
  refine jT.callpp rfl rfl (Nat.le_of_ble_eq_true rfl) (Nat.le_of_ble_eq_true rfl) (jrv_of o kp0 (by decide) rfl (by decide) rfl _) rfl (mj_Ok.up (Nat.add_le_add_left (by decide) D) (jc_149 (D := D) ty hg o kp0 rp1)) rfl rfl (fun v1 qv1 => ?_)
  obtain ⟨a2, ka2, rfl⟩ := qv1
  refine mj_T.eq (pc2 := 5) (st2 := [.ref a2]) ?_ rfl rfl rfl rfl
  iterate 2 refine mj_T.pl rfl rfl rfl rfl ?_
  refine jT.callpp rfl rfl (Nat.le_of_ble_eq_true rfl) (Nat.le_of_ble_eq_true rfl) (jrv_of o kp0 (by decide) rfl (by decide) rfl _) rfl (mj_Ok.up (Nat.add_le_add_left (by decide) D) (jc_149 (D := D) ty hg o kp0 rp2)) rfl rfl (fun v3 qv3 => ?_)
  obtain ⟨a4, ka4, rfl⟩ := qv3
  refine mj_T.eq (pc2 := 10) (st2 := [.ref a4, .ref a2]) ?_ rfl rfl rfl rfl
  refine jT.callpp rfl rfl (Nat.le_of_ble_eq_true rfl) (Nat.le_of_ble_eq_true rfl) rfl rfl (mj_Ok.up (Nat.add_le_add_left (by decide) D) (jc_166 (D := D) ty hg o ka2 ka4)) rfl rfl (fun v5 qv5 => ?_)
  obtain ⟨z6, az6, bz6, rfl⟩ := qv5
  have rz6 : -2147483648 ≤ z6 ∧ z6 ≤ 2147483647 := ⟨by omega, by omega⟩
  refine mj_T.eq (pc2 := 13) (st2 := [.int (jn z6)]) ?_ rfl rfl rfl rfl
  exact jT.retbp rfl rfl (by omega) (by omega)
-- PolyRegisters.agreements(II)I
theorem jc_127 {D n : Nat} {tm : Int} {h g : mj_H} {K L : Nat → Nat} {R : Nat → Nat → Nat} {p0 : Nat} {p1 : Int} {p2 : Int} (ty : jTY K L R) (hg : g.length ≤ n) (o : jO K L R g n tm h) (kp0 : K p0 = 19) (rp1 : -2147483648 ≤ p1 ∧ p1 ≤ 2147483647) (rp2 : -2147483648 ≤ p2 ∧ p2 ≤ 2147483647) : mj_Ok (D + 5) 127 [.ref p0, .int (jn p1), .int (jn p2)] h (jQ K L R g n tm [0] (jVi (-2147483648) 2147483647)) := by
  refine mj_Ok.of (M := mj_m127) (loc := [some (.ref p0), some (.int (jn p1)), some (.int (jn p2)), none, none, none, none, none]) rfl rfl rfl ?_
  iterate 2 refine mj_T.pl rfl rfl rfl rfl ?_
  refine jT.callp rfl rfl (Nat.le_of_ble_eq_true rfl) (Nat.le_of_ble_eq_true rfl) (jrv_of o kp0 (by decide) rfl (by decide) rfl _) rfl (mj_Ok.up (Nat.add_le_add_left (by decide) D) (jc_149 (D := D) ty hg o kp0 rp1)) rfl rfl (fun v1 qv1 => ?_)
  obtain ⟨a2, ka2, rfl⟩ := qv1
  refine mj_T.eq (pc2 := 5) (st2 := [.ref a2]) ?_ rfl rfl rfl rfl
  refine mj_T.pl (loc' := [some (.ref p0), some (.int (jn p1)), some (.int (jn p2)), some (.ref a2), none, none, none, none]) rfl rfl rfl rfl ?_
  iterate 2 refine mj_T.pl rfl rfl rfl rfl ?_
  refine jT.callp rfl rfl (Nat.le_of_ble_eq_true rfl) (Nat.le_of_ble_eq_true rfl) (jrv_of o kp0 (by decide) rfl (by decide) rfl _) rfl (mj_Ok.up (Nat.add_le_add_left (by decide) D) (jc_149 (D := D) ty hg o kp0 rp2)) rfl rfl (fun v3 qv3 => ?_)
  obtain ⟨a4, ka4, rfl⟩ := qv3
  refine mj_T.eq (pc2 := 11) (st2 := [.ref a4]) ?_ rfl rfl rfl rfl
  refine mj_T.pl (loc' := [some (.ref p0), some (.int (jn p1)), some (.int (jn p2)), some (.ref a2), some (.ref a4), none, none, none]) rfl rfl rfl rfl ?_
  iterate 2 refine mj_T.pl rfl rfl rfl rfl ?_
  refine jT.callp rfl rfl (Nat.le_of_ble_eq_true rfl) (Nat.le_of_ble_eq_true rfl) rfl rfl (mj_Ok.up (Nat.add_le_add_left (by decide) D) (jc_162 (D := D) ty hg o ka2)) rfl rfl (fun v5 qv5 => ?_)
  obtain ⟨z6, az6, bz6, rfl⟩ := qv5
  have rz6 : -2147483648 ≤ z6 ∧ z6 ≤ 2147483647 := ⟨by omega, by omega⟩
  refine mj_T.eq (pc2 := 18) (st2 := [.int (jn z6), .int (jn 0)]) ?_ rfl rfl rfl rfl
  refine mj_T.pl rfl rfl rfl rfl ?_
  refine jT.callp rfl rfl (Nat.le_of_ble_eq_true rfl) (Nat.le_of_ble_eq_true rfl) rfl rfl (mj_Ok.up (Nat.add_le_add_left (by decide) D) (jc_162 (D := D) ty hg o ka4)) rfl rfl (fun v7 qv7 => ?_)
  obtain ⟨z8, az8, bz8, rfl⟩ := qv7
  have rz8 : -2147483648 ≤ z8 ∧ z8 ≤ 2147483647 := ⟨by omega, by omega⟩
  refine mj_T.eq (pc2 := 23) (st2 := [.int (jn z8), .int (jn z6), .int (jn 0)]) ?_ rfl rfl rfl rfl
  refine jT.imax rfl rfl (Nat.le_of_ble_eq_true rfl) rz6 rz8 (fun z9 ez9 => ?_)
  have rz9 : -2147483648 ≤ z9 ∧ z9 ≤ 2147483647 := ⟨by omega, by omega⟩
  refine jT.imax rfl rfl (Nat.le_of_ble_eq_true rfl) ⟨by decide, by decide⟩ rz9 (fun z10 ez10 => ?_)
  have rz10 : -2147483648 ≤ z10 ∧ z10 ≤ 2147483647 := ⟨by omega, by omega⟩
  refine mj_T.pl (loc' := [some (.ref p0), some (.int (jn p1)), some (.int (jn p2)), some (.ref a2), some (.ref a4), some (.int (jn z10)), none, none]) rfl rfl rfl rfl ?_
  iterate 4 refine mj_T.pl rfl rfl rfl rfl ?_
  refine jT.getR 19 102 2 ty o rfl kp0 (by decide) rfl rfl rfl (fun k11 => ?_)
  refine jT.call rfl rfl (Nat.le_of_ble_eq_true rfl) (Nat.le_of_ble_eq_true rfl) rfl rfl (mj_Ok.up (Nat.add_le_add_left (by decide) D) (jc_167 (D := D) ty hg o ka2 ka4 ⟨by decide, by decide⟩ k11)) rfl rfl (fun v12 h13 qv12 oh13 => ?_)
  obtain ⟨z14, az14, bz14, rfl⟩ := qv12
  have rz14 : -2147483648 ≤ z14 ∧ z14 ≤ 2147483647 := ⟨by omega, by omega⟩
  refine mj_T.eq (pc2 := 42) (st2 := [.int (jn z14)]) ?_ rfl rfl rfl rfl
  iterate 2 refine mj_T.pl rfl rfl rfl rfl ?_
  refine mj_T.pl (loc' := [some (.ref p0), some (.int (jn p1)), some (.int (jn p2)), some (.ref a2), some (.ref a4), some (.int (jn z10)), some (.int (jn 0)), none]) rfl rfl rfl rfl ?_
  refine mj_T.pl rfl rfl rfl rfl ?_
  refine mj_T.pl (loc' := [some (.ref p0), some (.int (jn p1)), some (.int (jn p2)), some (.ref a2), some (.ref a4), some (.int (jn z10)), some (.int (jn 0)), some (.int (jn 0))]) rfl rfl rfl rfl ?_
  have t49_18 : ∀ (k19 : Nat) (x15 : Int) (x16 : Int) (h17 : mj_H), (-2147483648 ≤ x15 ∧ x15 ≤ 2147483647) → (-2147483648 ≤ x16 ∧ x16 ≤ 2147483647) → (jO K L R g n tm h17) → (0 ≤ x16) → (2147483647 - x16 : Int).toNat = k19 → mj_T (D + 4) mj_m127 49 [some (.ref p0), some (.int (jn p1)), some (.int (jn p2)), some (.ref a2), some (.ref a4), some (.int (jn z10)), some (.int (jn x15)), some (.int (jn x16))] [] h17 (jQ K L R g n tm [0] (jVi (-2147483648) 2147483647)) := by
    refine jInd (fun k19 ih20 => ?_)
    intro x15 x16 h17 rx15 rx16 oh17 ix16 hm21
    refine mj_T.pl rfl rfl rfl rfl ?_
    refine mj_T.pl rfl rfl rfl rfl ?_
    refine jT.icmp rfl rx16 rz10 (fun c53 => ?_) (fun c53 => ?_)
    · have c53 := of_decide_eq_true c53
      refine mj_T.pl rfl rfl rfl rfl ?_
      exact jT.ret oh17 rfl rfl rfl ⟨x15, by omega, by omega, rfl⟩
    · have c53 := of_decide_eq_false c53
      refine mj_T.pl rfl rfl rfl rfl ?_
      refine jT.getR 19 111 11 ty oh17 rfl kp0 (by decide) rfl rfl rfl (fun k22 => ?_)
      refine mj_T.pl rfl rfl rfl rfl ?_
      refine jT.getR 19 102 2 ty oh17 rfl kp0 (by decide) rfl rfl rfl (fun k23 => ?_)
      iterate 2 refine mj_T.pl rfl rfl rfl rfl ?_
      refine jT.call rfl rfl (Nat.le_of_ble_eq_true rfl) (Nat.le_of_ble_eq_true rfl) (jrv_of oh17 k22 (by decide) rfl (by decide) rfl _) rfl (mj_Ok.up (Nat.add_le_add_left (by decide) D) (jc_27 (D := D) ty hg oh17 k22 k23 rx16 ⟨by decide, by decide⟩)) rfl rfl (fun v24 h25 qv24 oh25 => ?_)
      obtain ⟨z26, az26, bz26, rfl⟩ := qv24
      have rz26 : -2147483648 ≤ z26 ∧ z26 ≤ 2147483647 := ⟨by omega, by omega⟩
      refine mj_T.eq (pc2 := 70) (st2 := [.int (jn z26)]) ?_ rfl rfl rfl rfl
      refine jT.if0 rfl rz26 (fun c70 => ?_) (fun c70 => ?_)
      · have c70 := jne1 c70
        refine jT.iinc rfl rfl (fun z27 rz27 ez27 => ?_)
        replace ez27 := ez27 ⟨by omega, by omega⟩
        refine mj_T.eq (loc2 := [some (.ref p0), some (.int (jn p1)), some (.int (jn p2)), some (.ref a2), some (.ref a4), some (.int (jn z10)), some (.int (jn x15)), some (.int (jn z27))]) ?_ rfl rfl rfl rfl
        refine mj_T.pl rfl rfl rfl rfl ?_
        exact ih20 ((2147483647 - z27 : Int).toNat) (by omega) x15 z27 h25 rx15 rz27 oh25 (by omega) rfl
      · have c70 := jne2 c70
        refine jT.iinc rfl rfl (fun z28 rz28 ez28 => ?_)
        clear ez28
        refine mj_T.eq (loc2 := [some (.ref p0), some (.int (jn p1)), some (.int (jn p2)), some (.ref a2), some (.ref a4), some (.int (jn z10)), some (.int (jn z28)), some (.int (jn x16))]) ?_ rfl rfl rfl rfl
        refine jT.iinc rfl rfl (fun z29 rz29 ez29 => ?_)
        replace ez29 := ez29 ⟨by omega, by omega⟩
        refine mj_T.eq (loc2 := [some (.ref p0), some (.int (jn p1)), some (.int (jn p2)), some (.ref a2), some (.ref a4), some (.int (jn z10)), some (.int (jn z28)), some (.int (jn z29))]) ?_ rfl rfl rfl rfl
        refine mj_T.pl rfl rfl rfl rfl ?_
        exact ih20 ((2147483647 - z29 : Int).toNat) (by omega) z28 z29 h25 rz28 rz29 oh25 (by omega) rfl
  exact t49_18 _ 0 0 h13 ⟨by decide, by decide⟩ ⟨by decide, by decide⟩ oh13 (by omega) rfl
-- PolyRegisters.digits(Z)I
theorem jc_128 {D n : Nat} {tm : Int} {h g : mj_H} {K L : Nat → Nat} {R : Nat → Nat → Nat} {p0 : Nat} {p1 : Int} (ty : jTY K L R) (hg : g.length ≤ n) (o : jO K L R g n tm h) (kp0 : K p0 = 19) (ap1 : 0 ≤ p1 ∧ p1 ≤ 1) : mj_Ok (D + 3) 128 [.ref p0, .int (jn p1)] h (jQp K L R g n tm h [] (jVi (-2147483648) 2147483647)) := by
  have rp1 : -2147483648 ≤ p1 ∧ p1 ≤ 2147483647 := ⟨by omega, by omega⟩
  refine mj_Ok.of (M := mj_m128) (loc := [some (.ref p0), some (.int (jn p1))]) rfl rfl rfl ?_
  iterate 2 refine mj_T.pl rfl rfl rfl rfl ?_
  refine jT.callpp rfl rfl (Nat.le_of_ble_eq_true rfl) (Nat.le_of_ble_eq_true rfl) (jrv_of o kp0 (by decide) rfl (by decide) rfl _) rfl (mj_Ok.up (Nat.add_le_add_left (by decide) D) (jc_157 (D := D) ty hg o kp0 ⟨by omega, by omega⟩)) rfl rfl (fun v1 qv1 => ?_)
  obtain ⟨a2, ka2, rfl⟩ := qv1
  refine mj_T.eq (pc2 := 5) (st2 := [.ref a2]) ?_ rfl rfl rfl rfl
  refine jT.callpp rfl rfl (Nat.le_of_ble_eq_true rfl) (Nat.le_of_ble_eq_true rfl) (jrv_of o ka2 (by decide) rfl (by decide) rfl _) rfl (mj_Ok.up (Nat.add_le_add_left (by decide) D) (jc_98 (D := D) ty hg o ka2)) rfl rfl (fun v3 qv3 => ?_)
  obtain ⟨z4, az4, bz4, rfl⟩ := qv3
  have rz4 : -2147483648 ≤ z4 ∧ z4 ≤ 2147483647 := ⟨by omega, by omega⟩
  refine mj_T.eq (pc2 := 8) (st2 := [.int (jn z4)]) ?_ rfl rfl rfl rfl
  exact jT.retp rfl rfl rfl ⟨z4, by omega, by omega, rfl⟩
-- PolyRegisters.digit(ZI)I
theorem jc_129 {D n : Nat} {tm : Int} {h g : mj_H} {K L : Nat → Nat} {R : Nat → Nat → Nat} {p0 : Nat} {p1 : Int} {p2 : Int} (ty : jTY K L R) (hg : g.length ≤ n) (o : jO K L R g n tm h) (kp0 : K p0 = 19) (ap1 : 0 ≤ p1 ∧ p1 ≤ 1) (rp2 : -2147483648 ≤ p2 ∧ p2 ≤ 2147483647) : mj_Ok (D + 3) 129 [.ref p0, .int (jn p1), .int (jn p2)] h (jQp K L R g n tm h [0] (jVi (-2147483648) 2147483647)) := by
  have rp1 : -2147483648 ≤ p1 ∧ p1 ≤ 2147483647 := ⟨by omega, by omega⟩
  refine mj_Ok.of (M := mj_m129) (loc := [some (.ref p0), some (.int (jn p1)), some (.int (jn p2)), none]) rfl rfl rfl ?_
  iterate 2 refine mj_T.pl rfl rfl rfl rfl ?_
  refine jT.callpp rfl rfl (Nat.le_of_ble_eq_true rfl) (Nat.le_of_ble_eq_true rfl) (jrv_of o kp0 (by decide) rfl (by decide) rfl _) rfl (mj_Ok.up (Nat.add_le_add_left (by decide) D) (jc_157 (D := D) ty hg o kp0 ⟨by omega, by omega⟩)) rfl rfl (fun v1 qv1 => ?_)
  obtain ⟨a2, ka2, rfl⟩ := qv1
  refine mj_T.eq (pc2 := 5) (st2 := [.ref a2]) ?_ rfl rfl rfl rfl
  refine mj_T.pl (loc' := [some (.ref p0), some (.int (jn p1)), some (.int (jn p2)), some (.ref a2)]) rfl rfl rfl rfl ?_
  refine mj_T.pl rfl rfl rfl rfl ?_
  refine jT.if0 rfl rp2 (fun c7 => ?_) (fun c7 => ?_)
  · have c7 := of_decide_eq_true c7
    exact jT.thrp o hg rfl rfl rfl (Nat.le_of_ble_eq_true rfl) rfl
  · have c7 := of_decide_eq_false c7
    iterate 2 refine mj_T.pl rfl rfl rfl rfl ?_
    refine jT.callpp rfl rfl (Nat.le_of_ble_eq_true rfl) (Nat.le_of_ble_eq_true rfl) (jrv_of o ka2 (by decide) rfl (by decide) rfl _) rfl (mj_Ok.up (Nat.add_le_add_left (by decide) D) (jc_98 (D := D) ty hg o ka2)) rfl rfl (fun v3 qv3 => ?_)
    obtain ⟨z4, az4, bz4, rfl⟩ := qv3
    have rz4 : -2147483648 ≤ z4 ∧ z4 ≤ 2147483647 := ⟨by omega, by omega⟩
    refine mj_T.eq (pc2 := 15) (st2 := [.int (jn z4), .int (jn p2)]) ?_ rfl rfl rfl rfl
    refine jT.icmp rfl rp2 rz4 (fun c15 => ?_) (fun c15 => ?_)
    · have c15 := of_decide_eq_true c15
      iterate 2 refine mj_T.pl rfl rfl rfl rfl ?_
      refine jT.callpp rfl rfl (Nat.le_of_ble_eq_true rfl) (Nat.le_of_ble_eq_true rfl) (jrv_of o ka2 (by decide) rfl (by decide) rfl _) rfl (mj_Ok.up (Nat.add_le_add_left (by decide) D) (jc_99 (D := D) ty hg o ka2 rp2)) rfl rfl (fun v5 qv5 => ?_)
      obtain ⟨z6, az6, bz6, rfl⟩ := qv5
      have rz6 : -2147483648 ≤ z6 ∧ z6 ≤ 2147483647 := ⟨by omega, by omega⟩
      refine mj_T.eq (pc2 := 31) (st2 := [.int (jn z6)]) ?_ rfl rfl rfl rfl
      exact jT.retp rfl rfl rfl ⟨z6, by omega, by omega, rfl⟩
    · have c15 := of_decide_eq_false c15
      exact jT.thrp o hg rfl rfl rfl (Nat.le_of_ble_eq_true rfl) rfl
-- PolyRegisters.low(Z)J
theorem jc_130 {D n : Nat} {tm : Int} {h g : mj_H} {K L : Nat → Nat} {R : Nat → Nat → Nat} {p0 : Nat} {p1 : Int} (ty : jTY K L R) (hg : g.length ≤ n) (o : jO K L R g n tm h) (kp0 : K p0 = 19) (ap1 : 0 ≤ p1 ∧ p1 ≤ 1) : mj_Ok (D + 2) 130 [.ref p0, .int (jn p1)] h (jQp K L R g n tm h [] jVl) := by
  have rp1 : -2147483648 ≤ p1 ∧ p1 ≤ 2147483647 := ⟨by omega, by omega⟩
  refine mj_Ok.of (M := mj_m130) (loc := [some (.ref p0), some (.int (jn p1))]) rfl rfl rfl ?_
  iterate 2 refine mj_T.pl rfl rfl rfl rfl ?_
  refine jT.callpp rfl rfl (Nat.le_of_ble_eq_true rfl) (Nat.le_of_ble_eq_true rfl) (jrv_of o kp0 (by decide) rfl (by decide) rfl _) rfl (mj_Ok.up (Nat.add_le_add_left (by decide) D) (jc_157 (D := D) ty hg o kp0 ⟨by omega, by omega⟩)) rfl rfl (fun v1 qv1 => ?_)
  obtain ⟨a2, ka2, rfl⟩ := qv1
  refine mj_T.eq (pc2 := 5) (st2 := [.ref a2]) ?_ rfl rfl rfl rfl
  refine jT.callpp rfl rfl (Nat.le_of_ble_eq_true rfl) (Nat.le_of_ble_eq_true rfl) (jrv_of o ka2 (by decide) rfl (by decide) rfl _) rfl (mj_Ok.up (Nat.add_le_add_left (by decide) D) (jc_100 (D := D) ty hg o ka2)) rfl rfl (fun v3 qv3 => ?_)
  obtain ⟨z4, jz4, rfl⟩ := qv3
  refine mj_T.eq (pc2 := 8) (st2 := [.long (jl z4)]) ?_ rfl rfl rfl rfl
  exact jT.retp rfl rfl rfl ⟨z4, jz4, rfl⟩
/-! The class by kinds: what others call. -/
-- PolyRegisters.realRoots(I)I
theorem jc_131 {D n : Nat} {tm : Int} {h g : mj_H} {K L : Nat → Nat} {R : Nat → Nat → Nat} {p0 : Nat} {p1 : Int} (ty : jTY K L R) (hg : g.length ≤ n) (o : jO K L R g n tm h) (kp0 : K p0 = 19) (rp1 : -2147483648 ≤ p1 ∧ p1 ≤ 2147483647) : mj_Ok (D + 7) 131 [.ref p0, .int (jn p1)] h (jQ K L R g n tm [0, 3] (jVi (-2147483648) 2147483647)) := by
  refine mj_Ok.of (M := mj_m131) (loc := [some (.ref p0), some (.int (jn p1)), none]) rfl rfl rfl ?_
  iterate 2 refine mj_T.pl rfl rfl rfl rfl ?_
  refine jT.callp rfl rfl (Nat.le_of_ble_eq_true rfl) (Nat.le_of_ble_eq_true rfl) (jrv_of o kp0 (by decide) rfl (by decide) rfl _) rfl (mj_Ok.up (Nat.add_le_add_left (by decide) D) (jc_149 (D := D) ty hg o kp0 rp1)) rfl rfl (fun v1 qv1 => ?_)
  obtain ⟨a2, ka2, rfl⟩ := qv1
  refine mj_T.eq (pc2 := 5) (st2 := [.ref a2]) ?_ rfl rfl rfl rfl
  refine mj_T.pl (loc' := [some (.ref p0), some (.int (jn p1)), some (.ref a2)]) rfl rfl rfl rfl ?_
  refine mj_T.pl rfl rfl rfl rfl ?_
  refine jT.callp rfl rfl (Nat.le_of_ble_eq_true rfl) (Nat.le_of_ble_eq_true rfl) rfl rfl (mj_Ok.up (Nat.add_le_add_left (by decide) D) (jc_153 (D := D) ty hg o ka2)) rfl rfl (fun v3 qv3 => ?_)
  obtain rfl : v3 = none := qv3
  refine mj_T.eq (pc2 := 10) (st2 := []) ?_ rfl rfl rfl rfl
  refine mj_T.pl rfl rfl rfl rfl ?_
  refine jT.getR 19 116 16 ty o rfl kp0 (by decide) rfl rfl rfl (fun k4 => ?_)
  iterate 2 refine mj_T.pl rfl rfl rfl rfl ?_
  refine jT.callp rfl rfl (Nat.le_of_ble_eq_true rfl) (Nat.le_of_ble_eq_true rfl) rfl rfl (mj_Ok.up (Nat.add_le_add_left (by decide) D) (jc_169 (D := D) ty hg o ka2)) rfl rfl (fun v5 qv5 => ?_)
  obtain ⟨z6, jz6, rfl⟩ := qv5
  refine mj_T.eq (pc2 := 19) (st2 := [.long (jl z6), .ref a2, .ref (R p0 8)]) ?_ rfl rfl rfl rfl
  refine jT.call rfl rfl (Nat.le_of_ble_eq_true rfl) (Nat.le_of_ble_eq_true rfl) (jrv_of o k4 (by decide) rfl (by decide) rfl _) rfl (mj_Ok.up (Nat.add_le_add_left (by decide) D) (jc_68 (D := D) ty hg o k4 ka2 jz6)) rfl rfl (fun v7 h8 qv7 oh8 => ?_)
  obtain rfl : v7 = none := qv7
  refine mj_T.eq (pc2 := 22) (st2 := []) ?_ rfl rfl rfl rfl
  refine mj_T.pl rfl rfl rfl rfl ?_
  refine jT.getR 19 116 16 ty oh8 rfl kp0 (by decide) rfl rfl rfl (fun k9 => ?_)
  refine mj_T.pl rfl rfl rfl rfl ?_
  refine jT.callp rfl rfl (Nat.le_of_ble_eq_true rfl) (Nat.le_of_ble_eq_true rfl) (jrv_of oh8 k9 (by decide) rfl (by decide) rfl _) rfl (mj_Ok.up (Nat.add_le_add_left (by decide) D) (jc_77 (D := D) ty hg oh8 k9 ⟨by decide, by decide⟩)) rfl rfl (fun v10 qv10 => ?_)
  obtain ⟨z11, az11, bz11, rfl⟩ := qv10
  have rz11 : -2147483648 ≤ z11 ∧ z11 ≤ 2147483647 := ⟨by omega, by omega⟩
  refine mj_T.eq (pc2 := 30) (st2 := [.int (jn z11)]) ?_ rfl rfl rfl rfl
  refine mj_T.pl rfl rfl rfl rfl ?_
  refine jT.getR 19 116 16 ty oh8 rfl kp0 (by decide) rfl rfl rfl (fun k12 => ?_)
  refine mj_T.pl rfl rfl rfl rfl ?_
  refine jT.callp rfl rfl (Nat.le_of_ble_eq_true rfl) (Nat.le_of_ble_eq_true rfl) (jrv_of oh8 k12 (by decide) rfl (by decide) rfl _) rfl (mj_Ok.up (Nat.add_le_add_left (by decide) D) (jc_77 (D := D) ty hg oh8 k12 ⟨by decide, by decide⟩)) rfl rfl (fun v13 qv13 => ?_)
  obtain ⟨z14, az14, bz14, rfl⟩ := qv13
  have rz14 : -2147483648 ≤ z14 ∧ z14 ≤ 2147483647 := ⟨by omega, by omega⟩
  refine mj_T.eq (pc2 := 38) (st2 := [.int (jn z14), .int (jn z11)]) ?_ rfl rfl rfl rfl
  refine jT.isub rfl (fun z15 rz15 ez15 => ?_)
  clear ez15
  exact jT.ret oh8 rfl rfl rfl ⟨z15, by omega, by omega, rfl⟩
-- PolyRegisters.rootsBetween(IIIII)I
theorem jc_132 {D n : Nat} {tm : Int} {h g : mj_H} {K L : Nat → Nat} {R : Nat → Nat → Nat} {p0 : Nat} {p1 : Int} {p2 : Int} {p3 : Int} {p4 : Int} {p5 : Int} (ty : jTY K L R) (hg : g.length ≤ n) (o : jO K L R g n tm h) (kp0 : K p0 = 19) (rp1 : -2147483648 ≤ p1 ∧ p1 ≤ 2147483647) (rp2 : -2147483648 ≤ p2 ∧ p2 ≤ 2147483647) (rp3 : -2147483648 ≤ p3 ∧ p3 ≤ 2147483647) (rp4 : -2147483648 ≤ p4 ∧ p4 ≤ 2147483647) (rp5 : -2147483648 ≤ p5 ∧ p5 ≤ 2147483647) : mj_Ok (D + 7) 132 [.ref p0, .int (jn p1), .int (jn p2), .int (jn p3), .int (jn p4), .int (jn p5)] h (jQ K L R g n tm [0, 2, 3, 1] (jVi (-2147483648) 2147483647)) := by
  refine mj_Ok.of (M := mj_m132) (loc := [some (.ref p0), some (.int (jn p1)), some (.int (jn p2)), some (.int (jn p3)), some (.int (jn p4)), some (.int (jn p5)), none]) rfl rfl rfl ?_
  iterate 2 refine mj_T.pl rfl rfl rfl rfl ?_
  refine jT.callp rfl rfl (Nat.le_of_ble_eq_true rfl) (Nat.le_of_ble_eq_true rfl) (jrv_of o kp0 (by decide) rfl (by decide) rfl _) rfl (mj_Ok.up (Nat.add_le_add_left (by decide) D) (jc_149 (D := D) ty hg o kp0 rp1)) rfl rfl (fun v1 qv1 => ?_)
  obtain ⟨a2, ka2, rfl⟩ := qv1
  refine mj_T.eq (pc2 := 5) (st2 := [.ref a2]) ?_ rfl rfl rfl rfl
  refine mj_T.pl (loc' := [some (.ref p0), some (.int (jn p1)), some (.int (jn p2)), some (.int (jn p3)), some (.int (jn p4)), some (.int (jn p5)), some (.ref a2)]) rfl rfl rfl rfl ?_
  iterate 2 refine mj_T.pl rfl rfl rfl rfl ?_
  refine jT.callp rfl rfl (Nat.le_of_ble_eq_true rfl) (Nat.le_of_ble_eq_true rfl) rfl rfl (mj_Ok.up (Nat.add_le_add_left (by decide) D) (jc_151 (D := D) ty hg o rp2 rp3)) rfl rfl (fun v3 qv3 => ?_)
  obtain rfl : v3 = none := qv3
  refine mj_T.eq (pc2 := 12) (st2 := []) ?_ rfl rfl rfl rfl
  iterate 2 refine mj_T.pl rfl rfl rfl rfl ?_
  refine jT.callp rfl rfl (Nat.le_of_ble_eq_true rfl) (Nat.le_of_ble_eq_true rfl) rfl rfl (mj_Ok.up (Nat.add_le_add_left (by decide) D) (jc_151 (D := D) ty hg o rp4 rp5)) rfl rfl (fun v4 qv4 => ?_)
  obtain rfl : v4 = none := qv4
  refine mj_T.eq (pc2 := 19) (st2 := []) ?_ rfl rfl rfl rfl
  iterate 2 refine mj_T.pl rfl rfl rfl rfl ?_
  refine jT.imul rfl (fun z5 rz5 ez5 => ?_)
  clear ez5
  iterate 2 refine mj_T.pl rfl rfl rfl rfl ?_
  refine jT.imul rfl (fun z6 rz6 ez6 => ?_)
  clear ez6
  refine jT.icmp rfl rz5 rz6 (fun c27 => ?_) (fun c27 => ?_)
  · have c27 := of_decide_eq_true c27
    refine mj_T.pl rfl rfl rfl rfl ?_
    refine jT.callp rfl rfl (Nat.le_of_ble_eq_true rfl) (Nat.le_of_ble_eq_true rfl) rfl rfl (mj_Ok.up (Nat.add_le_add_left (by decide) D) (jc_153 (D := D) ty hg o ka2)) rfl rfl (fun v7 qv7 => ?_)
    obtain rfl : v7 = none := qv7
    refine mj_T.eq (pc2 := 43) (st2 := []) ?_ rfl rfl rfl rfl
    refine mj_T.pl rfl rfl rfl rfl ?_
    refine jT.getR 19 111 11 ty o rfl kp0 (by decide) rfl rfl rfl (fun k8 => ?_)
    iterate 3 refine mj_T.pl rfl rfl rfl rfl ?_
    refine jT.call rfl rfl (Nat.le_of_ble_eq_true rfl) (Nat.le_of_ble_eq_true rfl) (jrv_of o k8 (by decide) rfl (by decide) rfl _) rfl (mj_Ok.up (Nat.add_le_add_left (by decide) D) (jc_27 (D := D) ty hg o k8 ka2 rp2 rp3)) rfl rfl (fun v9 h10 qv9 oh10 => ?_)
    obtain ⟨z11, az11, bz11, rfl⟩ := qv9
    have rz11 : -2147483648 ≤ z11 ∧ z11 ≤ 2147483647 := ⟨by omega, by omega⟩
    refine mj_T.eq (pc2 := 54) (st2 := [.int (jn z11)]) ?_ rfl rfl rfl rfl
    refine jT.if0 rfl rz11 (fun c54 => ?_) (fun c54 => ?_)
    · have c54 := of_decide_eq_true c54
      exact jT.thr oh10 hg rfl rfl rfl (Nat.le_of_ble_eq_true rfl) rfl
    · have c54 := of_decide_eq_false c54
      refine mj_T.pl rfl rfl rfl rfl ?_
      refine jT.getR 19 111 11 ty oh10 rfl kp0 (by decide) rfl rfl rfl (fun k12 => ?_)
      iterate 3 refine mj_T.pl rfl rfl rfl rfl ?_
      refine jT.call rfl rfl (Nat.le_of_ble_eq_true rfl) (Nat.le_of_ble_eq_true rfl) (jrv_of oh10 k12 (by decide) rfl (by decide) rfl _) rfl (mj_Ok.up (Nat.add_le_add_left (by decide) D) (jc_27 (D := D) ty hg oh10 k12 ka2 rp4 rp5)) rfl rfl (fun v13 h14 qv13 oh14 => ?_)
      obtain ⟨z15, az15, bz15, rfl⟩ := qv13
      have rz15 : -2147483648 ≤ z15 ∧ z15 ≤ 2147483647 := ⟨by omega, by omega⟩
      refine mj_T.eq (pc2 := 70) (st2 := [.int (jn z15)]) ?_ rfl rfl rfl rfl
      refine jT.if0 rfl rz15 (fun c70 => ?_) (fun c70 => ?_)
      · have c70 := jne1 c70
        refine mj_T.pl rfl rfl rfl rfl ?_
        refine jT.getR 19 116 16 ty oh14 rfl kp0 (by decide) rfl rfl rfl (fun k16 => ?_)
        iterate 2 refine mj_T.pl rfl rfl rfl rfl ?_
        refine jT.callp rfl rfl (Nat.le_of_ble_eq_true rfl) (Nat.le_of_ble_eq_true rfl) rfl rfl (mj_Ok.up (Nat.add_le_add_left (by decide) D) (jc_169 (D := D) ty hg oh14 ka2)) rfl rfl (fun v17 qv17 => ?_)
        obtain ⟨z18, jz18, rfl⟩ := qv17
        refine mj_T.eq (pc2 := 92) (st2 := [.long (jl z18), .ref a2, .ref (R p0 8)]) ?_ rfl rfl rfl rfl
        refine jT.call rfl rfl (Nat.le_of_ble_eq_true rfl) (Nat.le_of_ble_eq_true rfl) (jrv_of oh14 k16 (by decide) rfl (by decide) rfl _) rfl (mj_Ok.up (Nat.add_le_add_left (by decide) D) (jc_68 (D := D) ty hg oh14 k16 ka2 jz18)) rfl rfl (fun v19 h20 qv19 oh20 => ?_)
        obtain rfl : v19 = none := qv19
        refine mj_T.eq (pc2 := 95) (st2 := []) ?_ rfl rfl rfl rfl
        refine mj_T.pl rfl rfl rfl rfl ?_
        refine jT.getR 19 116 16 ty oh20 rfl kp0 (by decide) rfl rfl rfl (fun k21 => ?_)
        iterate 2 refine mj_T.pl rfl rfl rfl rfl ?_
        refine jT.imul rfl (fun z22 rz22 ez22 => ?_)
        clear ez22
        refine jT.i2l rfl rz22 ?_
        have j23 : jR z22 := ⟨by omega, by omega⟩
        refine jT.call rfl rfl (Nat.le_of_ble_eq_true rfl) (Nat.le_of_ble_eq_true rfl) (jrv_of oh20 k21 (by decide) rfl (by decide) rfl _) rfl (mj_Ok.up (Nat.add_le_add_left (by decide) D) (jc_74 (D := D) ty hg oh20 k21 j23)) rfl rfl (fun v24 h25 qv24 oh25 => ?_)
        obtain rfl : v24 = none := qv24
        refine mj_T.eq (pc2 := 107) (st2 := []) ?_ rfl rfl rfl rfl
        refine mj_T.pl rfl rfl rfl rfl ?_
        refine jT.getR 19 116 16 ty oh25 rfl kp0 (by decide) rfl rfl rfl (fun k26 => ?_)
        iterate 2 refine mj_T.pl rfl rfl rfl rfl ?_
        refine jT.imul rfl (fun z27 rz27 ez27 => ?_)
        clear ez27
        refine jT.i2l rfl rz27 ?_
        have j28 : jR z27 := ⟨by omega, by omega⟩
        refine jT.call rfl rfl (Nat.le_of_ble_eq_true rfl) (Nat.le_of_ble_eq_true rfl) (jrv_of oh25 k26 (by decide) rfl (by decide) rfl _) rfl (mj_Ok.up (Nat.add_le_add_left (by decide) D) (jc_75 (D := D) ty hg oh25 k26 j28)) rfl rfl (fun v29 h30 qv29 oh30 => ?_)
        obtain ⟨z31, az31, bz31, rfl⟩ := qv29
        have rz31 : -2147483648 ≤ z31 ∧ z31 ≤ 2147483647 := ⟨by omega, by omega⟩
        refine mj_T.eq (pc2 := 119) (st2 := [.int (jn z31)]) ?_ rfl rfl rfl rfl
        refine mj_T.pl rfl rfl rfl rfl ?_
        refine jT.getR 19 116 16 ty oh30 rfl kp0 (by decide) rfl rfl rfl (fun k32 => ?_)
        iterate 2 refine mj_T.pl rfl rfl rfl rfl ?_
        refine jT.imul rfl (fun z33 rz33 ez33 => ?_)
        clear ez33
        refine jT.i2l rfl rz33 ?_
        have j34 : jR z33 := ⟨by omega, by omega⟩
        refine jT.call rfl rfl (Nat.le_of_ble_eq_true rfl) (Nat.le_of_ble_eq_true rfl) (jrv_of oh30 k32 (by decide) rfl (by decide) rfl _) rfl (mj_Ok.up (Nat.add_le_add_left (by decide) D) (jc_75 (D := D) ty hg oh30 k32 j34)) rfl rfl (fun v35 h36 qv35 oh36 => ?_)
        obtain ⟨z37, az37, bz37, rfl⟩ := qv35
        have rz37 : -2147483648 ≤ z37 ∧ z37 ≤ 2147483647 := ⟨by omega, by omega⟩
        refine mj_T.eq (pc2 := 131) (st2 := [.int (jn z37), .int (jn z31)]) ?_ rfl rfl rfl rfl
        refine jT.isub rfl (fun z38 rz38 ez38 => ?_)
        clear ez38
        exact jT.ret oh36 rfl rfl rfl ⟨z38, by omega, by omega, rfl⟩
      · have c70 := jne2 c70
        exact jT.thr oh14 hg rfl rfl rfl (Nat.le_of_ble_eq_true rfl) rfl
  · have c27 := of_decide_eq_false c27
    exact jT.thr o hg rfl rfl rfl (Nat.le_of_ble_eq_true rfl) rfl
-- PolyRegisters.sturmLength(I)I
theorem jc_133 {D n : Nat} {tm : Int} {h g : mj_H} {K L : Nat → Nat} {R : Nat → Nat → Nat} {p0 : Nat} {p1 : Int} (ty : jTY K L R) (hg : g.length ≤ n) (o : jO K L R g n tm h) (kp0 : K p0 = 19) (rp1 : -2147483648 ≤ p1 ∧ p1 ≤ 2147483647) : mj_Ok (D + 7) 133 [.ref p0, .int (jn p1)] h (jQ K L R g n tm [0, 3] (jVi (-2147483648) 2147483647)) := by
  refine mj_Ok.of (M := mj_m133) (loc := [some (.ref p0), some (.int (jn p1)), none]) rfl rfl rfl ?_
  iterate 2 refine mj_T.pl rfl rfl rfl rfl ?_
  refine jT.callp rfl rfl (Nat.le_of_ble_eq_true rfl) (Nat.le_of_ble_eq_true rfl) (jrv_of o kp0 (by decide) rfl (by decide) rfl _) rfl (mj_Ok.up (Nat.add_le_add_left (by decide) D) (jc_149 (D := D) ty hg o kp0 rp1)) rfl rfl (fun v1 qv1 => ?_)
  obtain ⟨a2, ka2, rfl⟩ := qv1
  refine mj_T.eq (pc2 := 5) (st2 := [.ref a2]) ?_ rfl rfl rfl rfl
  refine mj_T.pl (loc' := [some (.ref p0), some (.int (jn p1)), some (.ref a2)]) rfl rfl rfl rfl ?_
  refine mj_T.pl rfl rfl rfl rfl ?_
  refine jT.callp rfl rfl (Nat.le_of_ble_eq_true rfl) (Nat.le_of_ble_eq_true rfl) rfl rfl (mj_Ok.up (Nat.add_le_add_left (by decide) D) (jc_153 (D := D) ty hg o ka2)) rfl rfl (fun v3 qv3 => ?_)
  obtain rfl : v3 = none := qv3
  refine mj_T.eq (pc2 := 10) (st2 := []) ?_ rfl rfl rfl rfl
  refine mj_T.pl rfl rfl rfl rfl ?_
  refine jT.getR 19 116 16 ty o rfl kp0 (by decide) rfl rfl rfl (fun k4 => ?_)
  iterate 2 refine mj_T.pl rfl rfl rfl rfl ?_
  refine jT.callp rfl rfl (Nat.le_of_ble_eq_true rfl) (Nat.le_of_ble_eq_true rfl) rfl rfl (mj_Ok.up (Nat.add_le_add_left (by decide) D) (jc_169 (D := D) ty hg o ka2)) rfl rfl (fun v5 qv5 => ?_)
  obtain ⟨z6, jz6, rfl⟩ := qv5
  refine mj_T.eq (pc2 := 19) (st2 := [.long (jl z6), .ref a2, .ref (R p0 8)]) ?_ rfl rfl rfl rfl
  refine jT.call rfl rfl (Nat.le_of_ble_eq_true rfl) (Nat.le_of_ble_eq_true rfl) (jrv_of o k4 (by decide) rfl (by decide) rfl _) rfl (mj_Ok.up (Nat.add_le_add_left (by decide) D) (jc_68 (D := D) ty hg o k4 ka2 jz6)) rfl rfl (fun v7 h8 qv7 oh8 => ?_)
  obtain rfl : v7 = none := qv7
  refine mj_T.eq (pc2 := 22) (st2 := []) ?_ rfl rfl rfl rfl
  refine mj_T.pl rfl rfl rfl rfl ?_
  refine jT.getR 19 116 16 ty oh8 rfl kp0 (by decide) rfl rfl rfl (fun k9 => ?_)
  refine jT.getI 16 0 oh8 rfl k9 (by decide) rfl rfl rfl (fun z10 (az10 : (-2147483648) ≤ z10) (bz10 : z10 ≤ 2147483647) fz10 => ?_)
  have rz10 : -2147483648 ≤ z10 ∧ z10 ≤ 2147483647 := ⟨by omega, by omega⟩
  exact jT.ret oh8 rfl rfl rfl ⟨z10, by omega, by omega, rfl⟩
-- PolyRegisters.changes(III)I
theorem jc_134 {D n : Nat} {tm : Int} {h g : mj_H} {K L : Nat → Nat} {R : Nat → Nat → Nat} {p0 : Nat} {p1 : Int} {p2 : Int} {p3 : Int} (ty : jTY K L R) (hg : g.length ≤ n) (o : jO K L R g n tm h) (kp0 : K p0 = 19) (rp1 : -2147483648 ≤ p1 ∧ p1 ≤ 2147483647) (rp2 : -2147483648 ≤ p2 ∧ p2 ≤ 2147483647) (rp3 : -2147483648 ≤ p3 ∧ p3 ≤ 2147483647) : mj_Ok (D + 7) 134 [.ref p0, .int (jn p1), .int (jn p2), .int (jn p3)] h (jQ K L R g n tm [0, 2, 3] (jVi (-2147483648) 2147483647)) := by
  refine mj_Ok.of (M := mj_m134) (loc := [some (.ref p0), some (.int (jn p1)), some (.int (jn p2)), some (.int (jn p3)), none]) rfl rfl rfl ?_
  iterate 2 refine mj_T.pl rfl rfl rfl rfl ?_
  refine jT.callp rfl rfl (Nat.le_of_ble_eq_true rfl) (Nat.le_of_ble_eq_true rfl) (jrv_of o kp0 (by decide) rfl (by decide) rfl _) rfl (mj_Ok.up (Nat.add_le_add_left (by decide) D) (jc_149 (D := D) ty hg o kp0 rp1)) rfl rfl (fun v1 qv1 => ?_)
  obtain ⟨a2, ka2, rfl⟩ := qv1
  refine mj_T.eq (pc2 := 5) (st2 := [.ref a2]) ?_ rfl rfl rfl rfl
  refine mj_T.pl (loc' := [some (.ref p0), some (.int (jn p1)), some (.int (jn p2)), some (.int (jn p3)), some (.ref a2)]) rfl rfl rfl rfl ?_
  iterate 2 refine mj_T.pl rfl rfl rfl rfl ?_
  refine jT.callp rfl rfl (Nat.le_of_ble_eq_true rfl) (Nat.le_of_ble_eq_true rfl) rfl rfl (mj_Ok.up (Nat.add_le_add_left (by decide) D) (jc_151 (D := D) ty hg o rp2 rp3)) rfl rfl (fun v3 qv3 => ?_)
  obtain rfl : v3 = none := qv3
  refine mj_T.eq (pc2 := 12) (st2 := []) ?_ rfl rfl rfl rfl
  refine mj_T.pl rfl rfl rfl rfl ?_
  refine jT.callp rfl rfl (Nat.le_of_ble_eq_true rfl) (Nat.le_of_ble_eq_true rfl) rfl rfl (mj_Ok.up (Nat.add_le_add_left (by decide) D) (jc_153 (D := D) ty hg o ka2)) rfl rfl (fun v4 qv4 => ?_)
  obtain rfl : v4 = none := qv4
  refine mj_T.eq (pc2 := 17) (st2 := []) ?_ rfl rfl rfl rfl
  refine mj_T.pl rfl rfl rfl rfl ?_
  refine jT.getR 19 116 16 ty o rfl kp0 (by decide) rfl rfl rfl (fun k5 => ?_)
  iterate 2 refine mj_T.pl rfl rfl rfl rfl ?_
  refine jT.callp rfl rfl (Nat.le_of_ble_eq_true rfl) (Nat.le_of_ble_eq_true rfl) rfl rfl (mj_Ok.up (Nat.add_le_add_left (by decide) D) (jc_169 (D := D) ty hg o ka2)) rfl rfl (fun v6 qv6 => ?_)
  obtain ⟨z7, jz7, rfl⟩ := qv6
  refine mj_T.eq (pc2 := 28) (st2 := [.long (jl z7), .ref a2, .ref (R p0 8)]) ?_ rfl rfl rfl rfl
  refine jT.call rfl rfl (Nat.le_of_ble_eq_true rfl) (Nat.le_of_ble_eq_true rfl) (jrv_of o k5 (by decide) rfl (by decide) rfl _) rfl (mj_Ok.up (Nat.add_le_add_left (by decide) D) (jc_68 (D := D) ty hg o k5 ka2 jz7)) rfl rfl (fun v8 h9 qv8 oh9 => ?_)
  obtain rfl : v8 = none := qv8
  refine mj_T.eq (pc2 := 31) (st2 := []) ?_ rfl rfl rfl rfl
  refine mj_T.pl rfl rfl rfl rfl ?_
  refine jT.getR 19 116 16 ty oh9 rfl kp0 (by decide) rfl rfl rfl (fun k10 => ?_)
  refine mj_T.pl rfl rfl rfl rfl ?_
  refine jT.i2l rfl rp3 ?_
  have j11 : jR p3 := ⟨by omega, by omega⟩
  refine jT.call rfl rfl (Nat.le_of_ble_eq_true rfl) (Nat.le_of_ble_eq_true rfl) (jrv_of oh9 k10 (by decide) rfl (by decide) rfl _) rfl (mj_Ok.up (Nat.add_le_add_left (by decide) D) (jc_74 (D := D) ty hg oh9 k10 j11)) rfl rfl (fun v12 h13 qv12 oh13 => ?_)
  obtain rfl : v12 = none := qv12
  refine mj_T.eq (pc2 := 40) (st2 := []) ?_ rfl rfl rfl rfl
  refine mj_T.pl rfl rfl rfl rfl ?_
  refine jT.getR 19 116 16 ty oh13 rfl kp0 (by decide) rfl rfl rfl (fun k14 => ?_)
  refine mj_T.pl rfl rfl rfl rfl ?_
  refine jT.i2l rfl rp2 ?_
  have j15 : jR p2 := ⟨by omega, by omega⟩
  refine jT.call rfl rfl (Nat.le_of_ble_eq_true rfl) (Nat.le_of_ble_eq_true rfl) (jrv_of oh13 k14 (by decide) rfl (by decide) rfl _) rfl (mj_Ok.up (Nat.add_le_add_left (by decide) D) (jc_75 (D := D) ty hg oh13 k14 j15)) rfl rfl (fun v16 h17 qv16 oh17 => ?_)
  obtain ⟨z18, az18, bz18, rfl⟩ := qv16
  have rz18 : -2147483648 ≤ z18 ∧ z18 ≤ 2147483647 := ⟨by omega, by omega⟩
  refine mj_T.eq (pc2 := 49) (st2 := [.int (jn z18)]) ?_ rfl rfl rfl rfl
  exact jT.ret oh17 rfl rfl rfl ⟨z18, by omega, by omega, rfl⟩
-- PolyRegisters.closeIn(III)I
theorem jc_135 {D n : Nat} {tm : Int} {h g : mj_H} {K L : Nat → Nat} {R : Nat → Nat → Nat} {p0 : Nat} {p1 : Int} {p2 : Int} {p3 : Int} (ty : jTY K L R) (hg : g.length ≤ n) (o : jO K L R g n tm h) (kp0 : K p0 = 19) (rp1 : -2147483648 ≤ p1 ∧ p1 ≤ 2147483647) (rp2 : -2147483648 ≤ p2 ∧ p2 ≤ 2147483647) (rp3 : -2147483648 ≤ p3 ∧ p3 ≤ 2147483647) : mj_Ok (D + 7) 135 [.ref p0, .int (jn p1), .int (jn p2), .int (jn p3)] h (jQ K L R g n tm [0, 2] (jVi (-2147483648) 2147483647)) := by
  refine mj_Ok.of (M := mj_m135) (loc := [some (.ref p0), some (.int (jn p1)), some (.int (jn p2)), some (.int (jn p3)), none]) rfl rfl rfl ?_
  iterate 2 refine mj_T.pl rfl rfl rfl rfl ?_
  refine jT.callp rfl rfl (Nat.le_of_ble_eq_true rfl) (Nat.le_of_ble_eq_true rfl) (jrv_of o kp0 (by decide) rfl (by decide) rfl _) rfl (mj_Ok.up (Nat.add_le_add_left (by decide) D) (jc_149 (D := D) ty hg o kp0 rp1)) rfl rfl (fun v1 qv1 => ?_)
  obtain ⟨a2, ka2, rfl⟩ := qv1
  refine mj_T.eq (pc2 := 5) (st2 := [.ref a2]) ?_ rfl rfl rfl rfl
  refine mj_T.pl (loc' := [some (.ref p0), some (.int (jn p1)), some (.int (jn p2)), some (.int (jn p3)), some (.ref a2)]) rfl rfl rfl rfl ?_
  refine mj_T.pl rfl rfl rfl rfl ?_
  refine jT.if0 rfl rp2 (fun c8 => ?_) (fun c8 => ?_)
  · have c8 := of_decide_eq_true c8
    exact jT.thr o hg rfl rfl rfl (Nat.le_of_ble_eq_true rfl) rfl
  · have c8 := of_decide_eq_false c8
    iterate 2 refine mj_T.pl rfl rfl rfl rfl ?_
    refine jT.callp rfl rfl (Nat.le_of_ble_eq_true rfl) (Nat.le_of_ble_eq_true rfl) rfl rfl (mj_Ok.up (Nat.add_le_add_left (by decide) D) (jc_162 (D := D) ty hg o ka2)) rfl rfl (fun v3 qv3 => ?_)
    obtain ⟨z4, az4, bz4, rfl⟩ := qv3
    have rz4 : -2147483648 ≤ z4 ∧ z4 ≤ 2147483647 := ⟨by omega, by omega⟩
    refine mj_T.eq (pc2 := 17) (st2 := [.int (jn z4), .int (jn p2)]) ?_ rfl rfl rfl rfl
    refine jT.icmp rfl rp2 rz4 (fun c17 => ?_) (fun c17 => ?_)
    · have c17 := of_decide_eq_true c17
      refine mj_T.pl rfl rfl rfl rfl ?_
      refine jT.getR 19 115 15 ty o rfl kp0 (by decide) rfl rfl rfl (fun k5 => ?_)
      refine mj_T.pl rfl rfl rfl rfl ?_
      refine jT.call rfl rfl (Nat.le_of_ble_eq_true rfl) (Nat.le_of_ble_eq_true rfl) (jrv_of o k5 (by decide) rfl (by decide) rfl _) rfl (mj_Ok.up (Nat.add_le_add_left (by decide) D) (jc_61 (D := D) ty hg o k5 ka2)) rfl rfl (fun v6 h7 qv6 oh7 => ?_)
      obtain rfl : v6 = none := qv6
      refine mj_T.eq (pc2 := 37) (st2 := []) ?_ rfl rfl rfl rfl
      iterate 2 refine mj_T.pl rfl rfl rfl rfl ?_
      refine jT.getR 19 115 15 ty oh7 rfl kp0 (by decide) rfl rfl rfl (fun k8 => ?_)
      refine jT.call rfl rfl (Nat.le_of_ble_eq_true rfl) (Nat.le_of_ble_eq_true rfl) (jrv_of oh7 k8 (by decide) rfl (by decide) rfl _) rfl (mj_Ok.up (Nat.add_le_add_left (by decide) D) (jc_63 (D := D) ty hg oh7 k8)) rfl rfl (fun v9 h10 qv9 oh10 => ?_)
      obtain ⟨z11, az11, bz11, rfl⟩ := qv9
      have rz11 : -2147483648 ≤ z11 ∧ z11 ≤ 2147483647 := ⟨by omega, by omega⟩
      refine mj_T.eq (pc2 := 45) (st2 := [.int (jn z11), .int (jn p2)]) ?_ rfl rfl rfl rfl
      refine jT.icmp rfl rp2 rz11 (fun c45 => ?_) (fun c45 => ?_)
      · have c45 := of_decide_eq_true c45
        refine mj_T.pl rfl rfl rfl rfl ?_
        refine jT.if0 rfl rp3 (fun c57 => ?_) (fun c57 => ?_)
        · have c57 := of_decide_eq_true c57
          exact jT.thr oh10 hg rfl rfl rfl (Nat.le_of_ble_eq_true rfl) rfl
        · have c57 := of_decide_eq_false c57
          iterate 2 refine mj_T.pl rfl rfl rfl rfl ?_
          refine jT.icmp rfl rp3 ⟨by decide, by decide⟩ (fun c63 => ?_) (fun c63 => ?_)
          · have c63 := of_decide_eq_true c63
            refine mj_T.pl rfl rfl rfl rfl ?_
            refine jT.getR 19 115 15 ty oh10 rfl kp0 (by decide) rfl rfl rfl (fun k12 => ?_)
            refine jT.lc 1 rfl rfl ?_
            refine mj_T.pl rfl rfl rfl rfl ?_
            refine mj_T.pl rfl rfl rfl rfl ?_
            refine jT.anyL (fun z13 jz13 => ?_)
            refine jT.call rfl rfl (Nat.le_of_ble_eq_true rfl) (Nat.le_of_ble_eq_true rfl) (jrv_of oh10 k12 (by decide) rfl (by decide) rfl _) rfl (mj_Ok.up (Nat.add_le_add_left (by decide) D) (jc_64 (D := D) ty hg oh10 k12 jz13)) rfl rfl (fun v14 h15 qv14 oh15 => ?_)
            obtain rfl : v14 = none := qv14
            refine mj_T.eq (pc2 := 84) (st2 := []) ?_ rfl rfl rfl rfl
            refine mj_T.pl rfl rfl rfl rfl ?_
            refine jT.getR 19 115 15 ty oh15 rfl kp0 (by decide) rfl rfl rfl (fun k16 => ?_)
            refine mj_T.pl rfl rfl rfl rfl ?_
            refine jT.call rfl rfl (Nat.le_of_ble_eq_true rfl) (Nat.le_of_ble_eq_true rfl) (jrv_of oh15 k16 (by decide) rfl (by decide) rfl _) rfl (mj_Ok.up (Nat.add_le_add_left (by decide) D) (jc_65 (D := D) ty hg oh15 k16 rp2)) rfl rfl (fun v17 h18 qv17 oh18 => ?_)
            obtain rfl : v17 = none := qv17
            refine mj_T.eq (pc2 := 92) (st2 := []) ?_ rfl rfl rfl rfl
            iterate 2 refine mj_T.pl rfl rfl rfl rfl ?_
            refine jT.getR 19 115 15 ty oh18 rfl kp0 (by decide) rfl rfl rfl (fun k19 => ?_)
            refine jT.getR 15 118 18 ty oh18 rfl k19 (by decide) rfl rfl rfl (fun k20 => ?_)
            refine jT.lc 1 rfl rfl ?_
            refine mj_T.pl rfl rfl rfl rfl ?_
            refine jT.call rfl rfl (Nat.le_of_ble_eq_true rfl) (Nat.le_of_ble_eq_true rfl) (jrv_of oh18 kp0 (by decide) rfl (by decide) rfl _) rfl (mj_Ok.up (Nat.add_le_add_left (by decide) D) (jc_159 (D := D) ty hg oh18 kp0 k20 ⟨by decide, by decide⟩ ⟨by decide, by decide⟩)) rfl rfl (fun v21 h22 qv21 oh22 => ?_)
            obtain ⟨z23, az23, bz23, rfl⟩ := qv21
            have rz23 : -2147483648 ≤ z23 ∧ z23 ≤ 2147483647 := ⟨by omega, by omega⟩
            refine mj_T.eq (pc2 := 105) (st2 := [.int (jn z23)]) ?_ rfl rfl rfl rfl
            exact jT.ret oh22 rfl rfl rfl ⟨z23, by omega, by omega, rfl⟩
          · have c63 := of_decide_eq_false c63
            exact jT.thr oh10 hg rfl rfl rfl (Nat.le_of_ble_eq_true rfl) rfl
      · have c45 := of_decide_eq_false c45
        exact jT.thr oh10 hg rfl rfl rfl (Nat.le_of_ble_eq_true rfl) rfl
    · have c17 := of_decide_eq_false c17
      exact jT.thr o hg rfl rfl rfl (Nat.le_of_ble_eq_true rfl) rfl
-- PolyRegisters.fractionRoots(I)I
theorem jc_136 {D n : Nat} {tm : Int} {h g : mj_H} {K L : Nat → Nat} {R : Nat → Nat → Nat} {p0 : Nat} {p1 : Int} (ty : jTY K L R) (hg : g.length ≤ n) (o : jO K L R g n tm h) (kp0 : K p0 = 19) (rp1 : -2147483648 ≤ p1 ∧ p1 ≤ 2147483647) : mj_Ok (D + 7) 136 [.ref p0, .int (jn p1)] h (jQ K L R g n tm [0, 3] (jVi (-2147483648) 2147483647)) := by
  refine mj_Ok.of (M := mj_m136) (loc := [some (.ref p0), some (.int (jn p1)), none]) rfl rfl rfl ?_
  iterate 2 refine mj_T.pl rfl rfl rfl rfl ?_
  refine jT.callp rfl rfl (Nat.le_of_ble_eq_true rfl) (Nat.le_of_ble_eq_true rfl) (jrv_of o kp0 (by decide) rfl (by decide) rfl _) rfl (mj_Ok.up (Nat.add_le_add_left (by decide) D) (jc_149 (D := D) ty hg o kp0 rp1)) rfl rfl (fun v1 qv1 => ?_)
  obtain ⟨a2, ka2, rfl⟩ := qv1
  refine mj_T.eq (pc2 := 5) (st2 := [.ref a2]) ?_ rfl rfl rfl rfl
  refine mj_T.pl (loc' := [some (.ref p0), some (.int (jn p1)), some (.ref a2)]) rfl rfl rfl rfl ?_
  refine mj_T.pl rfl rfl rfl rfl ?_
  refine jT.callp rfl rfl (Nat.le_of_ble_eq_true rfl) (Nat.le_of_ble_eq_true rfl) rfl rfl (mj_Ok.up (Nat.add_le_add_left (by decide) D) (jc_153 (D := D) ty hg o ka2)) rfl rfl (fun v3 qv3 => ?_)
  obtain rfl : v3 = none := qv3
  refine mj_T.eq (pc2 := 10) (st2 := []) ?_ rfl rfl rfl rfl
  refine mj_T.pl rfl rfl rfl rfl ?_
  refine jT.getR 19 115 15 ty o rfl kp0 (by decide) rfl rfl rfl (fun k4 => ?_)
  refine mj_T.pl rfl rfl rfl rfl ?_
  refine jT.call rfl rfl (Nat.le_of_ble_eq_true rfl) (Nat.le_of_ble_eq_true rfl) (jrv_of o k4 (by decide) rfl (by decide) rfl _) rfl (mj_Ok.up (Nat.add_le_add_left (by decide) D) (jc_61 (D := D) ty hg o k4 ka2)) rfl rfl (fun v5 h6 qv5 oh6 => ?_)
  obtain rfl : v5 = none := qv5
  refine mj_T.eq (pc2 := 18) (st2 := []) ?_ rfl rfl rfl rfl
  refine mj_T.pl rfl rfl rfl rfl ?_
  refine jT.getR 19 115 15 ty oh6 rfl kp0 (by decide) rfl rfl rfl (fun k7 => ?_)
  refine jT.call rfl rfl (Nat.le_of_ble_eq_true rfl) (Nat.le_of_ble_eq_true rfl) (jrv_of oh6 k7 (by decide) rfl (by decide) rfl _) rfl (mj_Ok.up (Nat.add_le_add_left (by decide) D) (jc_63 (D := D) ty hg oh6 k7)) rfl rfl (fun v8 h9 qv8 oh9 => ?_)
  obtain ⟨z10, az10, bz10, rfl⟩ := qv8
  have rz10 : -2147483648 ≤ z10 ∧ z10 ≤ 2147483647 := ⟨by omega, by omega⟩
  refine mj_T.eq (pc2 := 25) (st2 := [.int (jn z10)]) ?_ rfl rfl rfl rfl
  iterate 2 refine mj_T.pl rfl rfl rfl rfl ?_
  refine jT.getR 19 115 15 ty oh9 rfl kp0 (by decide) rfl rfl rfl (fun k11 => ?_)
  refine mj_T.pl rfl rfl rfl rfl ?_
  refine jT.call rfl rfl (Nat.le_of_ble_eq_true rfl) (Nat.le_of_ble_eq_true rfl) (jrv_of oh9 k11 (by decide) rfl (by decide) rfl _) rfl (mj_Ok.up (Nat.add_le_add_left (by decide) D) (jc_66 (D := D) ty hg oh9 k11 ⟨by decide, by decide⟩)) rfl rfl (fun v12 h13 qv12 oh13 => ?_)
  obtain ⟨z14, az14, bz14, rfl⟩ := qv12
  have rz14 : -2147483648 ≤ z14 ∧ z14 ≤ 2147483647 := ⟨by omega, by omega⟩
  refine mj_T.eq (pc2 := 35) (st2 := [.int (jn z14)]) ?_ rfl rfl rfl rfl
  exact jT.ret oh13 rfl rfl rfl ⟨z14, by omega, by omega, rfl⟩
-- PolyRegisters.fractionRoot(II)I
theorem jc_137 {D n : Nat} {tm : Int} {h g : mj_H} {K L : Nat → Nat} {R : Nat → Nat → Nat} {p0 : Nat} {p1 : Int} {p2 : Int} (ty : jTY K L R) (hg : g.length ≤ n) (o : jO K L R g n tm h) (kp0 : K p0 = 19) (rp1 : -2147483648 ≤ p1 ∧ p1 ≤ 2147483647) (rp2 : -2147483648 ≤ p2 ∧ p2 ≤ 2147483647) : mj_Ok (D + 7) 137 [.ref p0, .int (jn p1), .int (jn p2)] h (jQ K L R g n tm [0] (jVi (-2147483648) 2147483647)) := by
  refine mj_Ok.of (M := mj_m137) (loc := [some (.ref p0), some (.int (jn p1)), some (.int (jn p2)), none]) rfl rfl rfl ?_
  iterate 2 refine mj_T.pl rfl rfl rfl rfl ?_
  refine jT.callp rfl rfl (Nat.le_of_ble_eq_true rfl) (Nat.le_of_ble_eq_true rfl) (jrv_of o kp0 (by decide) rfl (by decide) rfl _) rfl (mj_Ok.up (Nat.add_le_add_left (by decide) D) (jc_149 (D := D) ty hg o kp0 rp1)) rfl rfl (fun v1 qv1 => ?_)
  obtain ⟨a2, ka2, rfl⟩ := qv1
  refine mj_T.eq (pc2 := 5) (st2 := [.ref a2]) ?_ rfl rfl rfl rfl
  refine mj_T.pl (loc' := [some (.ref p0), some (.int (jn p1)), some (.int (jn p2)), some (.ref a2)]) rfl rfl rfl rfl ?_
  refine mj_T.pl rfl rfl rfl rfl ?_
  refine jT.if0 rfl rp2 (fun c7 => ?_) (fun c7 => ?_)
  · have c7 := of_decide_eq_true c7
    exact jT.thr o hg rfl rfl rfl (Nat.le_of_ble_eq_true rfl) rfl
  · have c7 := of_decide_eq_false c7
    iterate 2 refine mj_T.pl rfl rfl rfl rfl ?_
    refine jT.callp rfl rfl (Nat.le_of_ble_eq_true rfl) (Nat.le_of_ble_eq_true rfl) rfl rfl (mj_Ok.up (Nat.add_le_add_left (by decide) D) (jc_162 (D := D) ty hg o ka2)) rfl rfl (fun v3 qv3 => ?_)
    obtain ⟨z4, az4, bz4, rfl⟩ := qv3
    have rz4 : -2147483648 ≤ z4 ∧ z4 ≤ 2147483647 := ⟨by omega, by omega⟩
    refine mj_T.eq (pc2 := 15) (st2 := [.int (jn z4), .int (jn p2)]) ?_ rfl rfl rfl rfl
    refine jT.icmp rfl rp2 rz4 (fun c15 => ?_) (fun c15 => ?_)
    · have c15 := of_decide_eq_true c15
      refine mj_T.pl rfl rfl rfl rfl ?_
      refine jT.getR 19 115 15 ty o rfl kp0 (by decide) rfl rfl rfl (fun k5 => ?_)
      refine mj_T.pl rfl rfl rfl rfl ?_
      refine jT.call rfl rfl (Nat.le_of_ble_eq_true rfl) (Nat.le_of_ble_eq_true rfl) (jrv_of o k5 (by decide) rfl (by decide) rfl _) rfl (mj_Ok.up (Nat.add_le_add_left (by decide) D) (jc_61 (D := D) ty hg o k5 ka2)) rfl rfl (fun v6 h7 qv6 oh7 => ?_)
      obtain rfl : v6 = none := qv6
      refine mj_T.eq (pc2 := 34) (st2 := []) ?_ rfl rfl rfl rfl
      refine mj_T.pl rfl rfl rfl rfl ?_
      refine jT.getR 19 115 15 ty oh7 rfl kp0 (by decide) rfl rfl rfl (fun k8 => ?_)
      refine jT.call rfl rfl (Nat.le_of_ble_eq_true rfl) (Nat.le_of_ble_eq_true rfl) (jrv_of oh7 k8 (by decide) rfl (by decide) rfl _) rfl (mj_Ok.up (Nat.add_le_add_left (by decide) D) (jc_63 (D := D) ty hg oh7 k8)) rfl rfl (fun v9 h10 qv9 oh10 => ?_)
      obtain ⟨z11, az11, bz11, rfl⟩ := qv9
      have rz11 : -2147483648 ≤ z11 ∧ z11 ≤ 2147483647 := ⟨by omega, by omega⟩
      refine mj_T.eq (pc2 := 41) (st2 := [.int (jn z11)]) ?_ rfl rfl rfl rfl
      iterate 2 refine mj_T.pl rfl rfl rfl rfl ?_
      refine jT.getR 19 115 15 ty oh10 rfl kp0 (by decide) rfl rfl rfl (fun k12 => ?_)
      iterate 2 refine mj_T.pl rfl rfl rfl rfl ?_
      refine jT.iadd rfl (fun z13 rz13 ez13 => ?_)
      replace ez13 := ez13 ⟨by omega, by omega⟩
      refine jT.call rfl rfl (Nat.le_of_ble_eq_true rfl) (Nat.le_of_ble_eq_true rfl) (jrv_of oh10 k12 (by decide) rfl (by decide) rfl _) rfl (mj_Ok.up (Nat.add_le_add_left (by decide) D) (jc_66 (D := D) ty hg oh10 k12 rz13)) rfl rfl (fun v14 h15 qv14 oh15 => ?_)
      obtain ⟨z16, az16, bz16, rfl⟩ := qv14
      have rz16 : -2147483648 ≤ z16 ∧ z16 ≤ 2147483647 := ⟨by omega, by omega⟩
      refine mj_T.eq (pc2 := 52) (st2 := [.int (jn z16)]) ?_ rfl rfl rfl rfl
      refine mj_T.pl rfl rfl rfl rfl ?_
      refine jT.icmp rfl rz16 rp2 (fun c53 => ?_) (fun c53 => ?_)
      · have c53 := of_decide_eq_true c53
        iterate 2 refine mj_T.pl rfl rfl rfl rfl ?_
        refine jT.getR 19 115 15 ty oh15 rfl kp0 (by decide) rfl rfl rfl (fun k17 => ?_)
        refine jT.getR 15 118 18 ty oh15 rfl k17 (by decide) rfl rfl rfl (fun k18 => ?_)
        refine mj_T.pl rfl rfl rfl rfl ?_
        refine jT.getR 19 115 15 ty oh15 rfl kp0 (by decide) rfl rfl rfl (fun k19 => ?_)
        refine jT.getL 15 oh15 rfl k19 (by decide) rfl rfl (fun z20 jz20 => ?_)
        refine mj_T.pl rfl rfl rfl rfl ?_
        refine jT.call rfl rfl (Nat.le_of_ble_eq_true rfl) (Nat.le_of_ble_eq_true rfl) (jrv_of oh15 kp0 (by decide) rfl (by decide) rfl _) rfl (mj_Ok.up (Nat.add_le_add_left (by decide) D) (jc_159 (D := D) ty hg oh15 kp0 k18 jz20 ⟨by decide, by decide⟩)) rfl rfl (fun v21 h22 qv21 oh22 => ?_)
        obtain ⟨z23, az23, bz23, rfl⟩ := qv21
        have rz23 : -2147483648 ≤ z23 ∧ z23 ≤ 2147483647 := ⟨by omega, by omega⟩
        refine mj_T.eq (pc2 := 83) (st2 := [.int (jn z23)]) ?_ rfl rfl rfl rfl
        exact jT.ret oh22 rfl rfl rfl ⟨z23, by omega, by omega, rfl⟩
      · have c53 := of_decide_eq_false c53
        exact jT.thr oh15 hg rfl rfl rfl (Nat.le_of_ble_eq_true rfl) rfl
    · have c15 := of_decide_eq_false c15
      exact jT.thr o hg rfl rfl rfl (Nat.le_of_ble_eq_true rfl) rfl
-- PolyRegisters.rootsBy(II)I
theorem jc_138 {D n : Nat} {tm : Int} {h g : mj_H} {K L : Nat → Nat} {R : Nat → Nat → Nat} {p0 : Nat} {p1 : Int} {p2 : Int} (ty : jTY K L R) (hg : g.length ≤ n) (o : jO K L R g n tm h) (kp0 : K p0 = 19) (rp1 : -2147483648 ≤ p1 ∧ p1 ≤ 2147483647) (rp2 : -2147483648 ≤ p2 ∧ p2 ≤ 2147483647) : mj_Ok (D + 3) 138 [.ref p0, .int (jn p1), .int (jn p2)] h (jQp K L R g n tm h [0, 2] (jVi (-2147483648) 2147483647)) := by
  refine mj_Ok.of (M := mj_m138) (loc := [some (.ref p0), some (.int (jn p1)), some (.int (jn p2)), none, none, none]) rfl rfl rfl ?_
  iterate 2 refine mj_T.pl rfl rfl rfl rfl ?_
  refine jT.callpp rfl rfl (Nat.le_of_ble_eq_true rfl) (Nat.le_of_ble_eq_true rfl) (jrv_of o kp0 (by decide) rfl (by decide) rfl _) rfl (mj_Ok.up (Nat.add_le_add_left (by decide) D) (jc_149 (D := D) ty hg o kp0 rp1)) rfl rfl (fun v1 qv1 => ?_)
  obtain ⟨a2, ka2, rfl⟩ := qv1
  refine mj_T.eq (pc2 := 5) (st2 := [.ref a2]) ?_ rfl rfl rfl rfl
  refine mj_T.pl (loc' := [some (.ref p0), some (.int (jn p1)), some (.int (jn p2)), some (.ref a2), none, none]) rfl rfl rfl rfl ?_
  refine mj_T.pl rfl rfl rfl rfl ?_
  refine jT.callpp rfl rfl (Nat.le_of_ble_eq_true rfl) (Nat.le_of_ble_eq_true rfl) rfl rfl (mj_Ok.up (Nat.add_le_add_left (by decide) D) (jc_152 (D := D) ty hg o rp2)) rfl rfl (fun v3 qv3 => ?_)
  obtain rfl : v3 = none := qv3
  refine mj_T.eq (pc2 := 10) (st2 := []) ?_ rfl rfl rfl rfl
  refine mj_T.pl rfl rfl rfl rfl ?_
  refine mj_T.pl (loc' := [some (.ref p0), some (.int (jn p1)), some (.int (jn p2)), some (.ref a2), some (.int (jn 0)), none]) rfl rfl rfl rfl ?_
  refine mj_T.pl rfl rfl rfl rfl ?_
  refine mj_T.pl (loc' := [some (.ref p0), some (.int (jn p1)), some (.int (jn p2)), some (.ref a2), some (.int (jn 0)), some (.int (jn 0))]) rfl rfl rfl rfl ?_
  have t16_6 : ∀ (k7 : Nat) (x4 : Int) (x5 : Int), (-2147483648 ≤ x4 ∧ x4 ≤ 2147483647) → (-2147483648 ≤ x5 ∧ x5 ≤ 2147483647) → (0 ≤ x5) → (2147483647 - x5 : Int).toNat = k7 → mj_T (D + 2) mj_m138 16 [some (.ref p0), some (.int (jn p1)), some (.int (jn p2)), some (.ref a2), some (.int (jn x4)), some (.int (jn x5))] [] h (jQp K L R g n tm h [0, 2] (jVi (-2147483648) 2147483647)) := by
    refine jInd (fun k7 ih8 => ?_)
    intro x4 x5 rx4 rx5 ix5 hm9
    refine mj_T.pl rfl rfl rfl rfl ?_
    refine mj_T.pl rfl rfl rfl rfl ?_
    refine jT.icmp rfl rx5 rp2 (fun c19 => ?_) (fun c19 => ?_)
    · have c19 := of_decide_eq_true c19
      refine mj_T.pl rfl rfl rfl rfl ?_
      exact jT.retp rfl rfl rfl ⟨x4, by omega, by omega, rfl⟩
    · have c19 := of_decide_eq_false c19
      iterate 3 refine mj_T.pl rfl rfl rfl rfl ?_
      refine jT.callpp rfl rfl (Nat.le_of_ble_eq_true rfl) (Nat.le_of_ble_eq_true rfl) rfl rfl (mj_Ok.up (Nat.add_le_add_left (by decide) D) (jc_173 (D := D) ty hg o ka2 rx5 rp2)) rfl rfl (fun v10 qv10 => ?_)
      obtain ⟨z11, az11, bz11, rfl⟩ := qv10
      have rz11 : -2147483648 ≤ z11 ∧ z11 ≤ 2147483647 := ⟨by omega, by omega⟩
      refine mj_T.eq (pc2 := 29) (st2 := [.int (jn z11)]) ?_ rfl rfl rfl rfl
      refine jT.if0 rfl rz11 (fun c29 => ?_) (fun c29 => ?_)
      · have c29 := jne1 c29
        refine jT.iinc rfl rfl (fun z12 rz12 ez12 => ?_)
        replace ez12 := ez12 ⟨by omega, by omega⟩
        refine mj_T.eq (loc2 := [some (.ref p0), some (.int (jn p1)), some (.int (jn p2)), some (.ref a2), some (.int (jn x4)), some (.int (jn z12))]) ?_ rfl rfl rfl rfl
        refine mj_T.pl rfl rfl rfl rfl ?_
        exact ih8 ((2147483647 - z12 : Int).toNat) (by omega) x4 z12 rx4 rz12 (by omega) rfl
      · have c29 := jne2 c29
        refine jT.iinc rfl rfl (fun z13 rz13 ez13 => ?_)
        clear ez13
        refine mj_T.eq (loc2 := [some (.ref p0), some (.int (jn p1)), some (.int (jn p2)), some (.ref a2), some (.int (jn z13)), some (.int (jn x5))]) ?_ rfl rfl rfl rfl
        refine jT.iinc rfl rfl (fun z14 rz14 ez14 => ?_)
        replace ez14 := ez14 ⟨by omega, by omega⟩
        refine mj_T.eq (loc2 := [some (.ref p0), some (.int (jn p1)), some (.int (jn p2)), some (.ref a2), some (.int (jn z13)), some (.int (jn z14))]) ?_ rfl rfl rfl rfl
        refine mj_T.pl rfl rfl rfl rfl ?_
        exact ih8 ((2147483647 - z14 : Int).toNat) (by omega) z13 z14 rz13 rz14 (by omega) rfl
  exact t16_6 _ 0 0 ⟨by decide, by decide⟩ ⟨by decide, by decide⟩ (by omega) rfl
-- PolyRegisters.rootBy(II)I
theorem jc_139 {D n : Nat} {tm : Int} {h g : mj_H} {K L : Nat → Nat} {R : Nat → Nat → Nat} {p0 : Nat} {p1 : Int} {p2 : Int} (ty : jTY K L R) (hg : g.length ≤ n) (o : jO K L R g n tm h) (kp0 : K p0 = 19) (rp1 : -2147483648 ≤ p1 ∧ p1 ≤ 2147483647) (rp2 : -2147483648 ≤ p2 ∧ p2 ≤ 2147483647) : mj_Ok (D + 3) 139 [.ref p0, .int (jn p1), .int (jn p2)] h (jQp K L R g n tm h [0, 2, 4] (jVi (-2147483648) 2147483647)) := by
  refine mj_Ok.of (M := mj_m139) (loc := [some (.ref p0), some (.int (jn p1)), some (.int (jn p2)), none, none]) rfl rfl rfl ?_
  iterate 2 refine mj_T.pl rfl rfl rfl rfl ?_
  refine jT.callpp rfl rfl (Nat.le_of_ble_eq_true rfl) (Nat.le_of_ble_eq_true rfl) (jrv_of o kp0 (by decide) rfl (by decide) rfl _) rfl (mj_Ok.up (Nat.add_le_add_left (by decide) D) (jc_149 (D := D) ty hg o kp0 rp1)) rfl rfl (fun v1 qv1 => ?_)
  obtain ⟨a2, ka2, rfl⟩ := qv1
  refine mj_T.eq (pc2 := 5) (st2 := [.ref a2]) ?_ rfl rfl rfl rfl
  refine mj_T.pl (loc' := [some (.ref p0), some (.int (jn p1)), some (.int (jn p2)), some (.ref a2), none]) rfl rfl rfl rfl ?_
  refine mj_T.pl rfl rfl rfl rfl ?_
  refine jT.callpp rfl rfl (Nat.le_of_ble_eq_true rfl) (Nat.le_of_ble_eq_true rfl) rfl rfl (mj_Ok.up (Nat.add_le_add_left (by decide) D) (jc_152 (D := D) ty hg o rp2)) rfl rfl (fun v3 qv3 => ?_)
  obtain rfl : v3 = none := qv3
  refine mj_T.eq (pc2 := 10) (st2 := []) ?_ rfl rfl rfl rfl
  refine mj_T.pl rfl rfl rfl rfl ?_
  refine mj_T.pl (loc' := [some (.ref p0), some (.int (jn p1)), some (.int (jn p2)), some (.ref a2), some (.int (jn 0))]) rfl rfl rfl rfl ?_
  have t13_5 : ∀ (k6 : Nat) (x4 : Int), (-2147483648 ≤ x4 ∧ x4 ≤ 2147483647) → (0 ≤ x4) → (2147483647 - x4 : Int).toNat = k6 → mj_T (D + 2) mj_m139 13 [some (.ref p0), some (.int (jn p1)), some (.int (jn p2)), some (.ref a2), some (.int (jn x4))] [] h (jQp K L R g n tm h [0, 2, 4] (jVi (-2147483648) 2147483647)) := by
    refine jInd (fun k6 ih7 => ?_)
    intro x4 rx4 ix4 hm8
    refine mj_T.pl rfl rfl rfl rfl ?_
    refine mj_T.pl rfl rfl rfl rfl ?_
    refine jT.icmp rfl rx4 rp2 (fun c16 => ?_) (fun c16 => ?_)
    · have c16 := of_decide_eq_true c16
      exact jT.thrp o hg rfl rfl rfl (Nat.le_of_ble_eq_true rfl) rfl
    · have c16 := of_decide_eq_false c16
      iterate 3 refine mj_T.pl rfl rfl rfl rfl ?_
      refine jT.callpp rfl rfl (Nat.le_of_ble_eq_true rfl) (Nat.le_of_ble_eq_true rfl) rfl rfl (mj_Ok.up (Nat.add_le_add_left (by decide) D) (jc_173 (D := D) ty hg o ka2 rx4 rp2)) rfl rfl (fun v9 qv9 => ?_)
      obtain ⟨z10, az10, bz10, rfl⟩ := qv9
      have rz10 : -2147483648 ≤ z10 ∧ z10 ≤ 2147483647 := ⟨by omega, by omega⟩
      refine mj_T.eq (pc2 := 26) (st2 := [.int (jn z10)]) ?_ rfl rfl rfl rfl
      refine jT.if0 rfl rz10 (fun c26 => ?_) (fun c26 => ?_)
      · have c26 := jne1 c26
        refine jT.iinc rfl rfl (fun z11 rz11 ez11 => ?_)
        replace ez11 := ez11 ⟨by omega, by omega⟩
        refine mj_T.eq (loc2 := [some (.ref p0), some (.int (jn p1)), some (.int (jn p2)), some (.ref a2), some (.int (jn z11))]) ?_ rfl rfl rfl rfl
        refine mj_T.pl rfl rfl rfl rfl ?_
        exact ih7 ((2147483647 - z11 : Int).toNat) (by omega) z11 rz11 (by omega) rfl
      · have c26 := jne2 c26
        refine mj_T.pl rfl rfl rfl rfl ?_
        exact jT.retp rfl rfl rfl ⟨x4, by omega, by omega, rfl⟩
  exact t13_5 _ 0 ⟨by decide, by decide⟩ (by omega) rfl
-- PolyRegisters.pointCount()I
theorem jc_140 {D n : Nat} {tm : Int} {h g : mj_H} {K L : Nat → Nat} {R : Nat → Nat → Nat} {p0 : Nat} (ty : jTY K L R) (hg : g.length ≤ n) (o : jO K L R g n tm h) (kp0 : K p0 = 19) : mj_Ok (D + 1) 140 [.ref p0] h (jQp K L R g n tm h [] (jVi (-2147483648) 2147483647)) := by
  refine mj_Ok.of (M := mj_m140) (loc := [some (.ref p0)]) rfl rfl rfl ?_
  refine mj_T.pl rfl rfl rfl rfl ?_
  refine jT.getR 19 110 10 ty o rfl kp0 (by decide) rfl rfl rfl (fun k1 => ?_)
  refine jT.getI 10 9 o rfl k1 (by decide) rfl rfl rfl (fun z2 (az2 : 0 ≤ z2) (bz2 : z2 ≤ 2147483647) fz2 => ?_)
  have rz2 : -2147483648 ≤ z2 ∧ z2 ≤ 2147483647 := ⟨by omega, by omega⟩
  exact jT.retp rfl rfl rfl ⟨z2, by omega, by omega, rfl⟩
-- PolyRegisters.errorPosition()I
theorem jc_143 {D n : Nat} {tm : Int} {h g : mj_H} {K L : Nat → Nat} {R : Nat → Nat → Nat} {p0 : Nat} (ty : jTY K L R) (hg : g.length ≤ n) (o : jO K L R g n tm h) (kp0 : K p0 = 19) : mj_Ok (D + 1) 143 [.ref p0] h (jQp K L R g n tm h [] (jVi (-2147483648) 2147483647)) := by
  refine mj_Ok.of (M := mj_m143) (loc := [some (.ref p0)]) rfl rfl rfl ?_
  refine mj_T.pl rfl rfl rfl rfl ?_
  refine jT.getI 19 0 o rfl kp0 (by decide) rfl rfl rfl (fun z1 (az1 : (-2147483648) ≤ z1) (bz1 : z1 ≤ 2147483647) fz1 => ?_)
  have rz1 : -2147483648 ≤ z1 ∧ z1 ≤ 2147483647 := ⟨by omega, by omega⟩
  exact jT.retp rfl rfl rfl ⟨z1, by omega, by omega, rfl⟩
-- PolyRegisters.write(I)I
theorem jc_144 {D n : Nat} {tm : Int} {h g : mj_H} {K L : Nat → Nat} {R : Nat → Nat → Nat} {p0 : Nat} {p1 : Int} (ty : jTY K L R) (hg : g.length ≤ n) (o : jO K L R g n tm h) (kp0 : K p0 = 19) (rp1 : -2147483648 ≤ p1 ∧ p1 ≤ 2147483647) : mj_Ok (D + 5) 144 [.ref p0, .int (jn p1)] h (jQ K L R g n tm [0] (jVi (-2147483648) 2147483647)) := by
  refine mj_Ok.of (M := mj_m144) (loc := [some (.ref p0), some (.int (jn p1))]) rfl rfl rfl ?_
  refine mj_T.pl rfl rfl rfl rfl ?_
  refine jT.getR 19 117 17 ty o rfl kp0 (by decide) rfl rfl rfl (fun k1 => ?_)
  iterate 2 refine mj_T.pl rfl rfl rfl rfl ?_
  refine jT.callp rfl rfl (Nat.le_of_ble_eq_true rfl) (Nat.le_of_ble_eq_true rfl) (jrv_of o kp0 (by decide) rfl (by decide) rfl _) rfl (mj_Ok.up (Nat.add_le_add_left (by decide) D) (jc_149 (D := D) ty hg o kp0 rp1)) rfl rfl (fun v2 qv2 => ?_)
  obtain ⟨a3, ka3, rfl⟩ := qv2
  refine mj_T.eq (pc2 := 9) (st2 := [.ref a3, .ref (R p0 5)]) ?_ rfl rfl rfl rfl
  refine jT.call rfl rfl (Nat.le_of_ble_eq_true rfl) (Nat.le_of_ble_eq_true rfl) (jrv_of o k1 (by decide) rfl (by decide) rfl _) rfl (mj_Ok.up (Nat.add_le_add_left (by decide) D) (jc_82 (D := D) ty hg o k1 ka3)) rfl rfl (fun v4 h5 qv4 oh5 => ?_)
  obtain rfl : v4 = none := qv4
  refine mj_T.eq (pc2 := 12) (st2 := []) ?_ rfl rfl rfl rfl
  refine mj_T.pl rfl rfl rfl rfl ?_
  refine jT.getR 19 117 17 ty oh5 rfl kp0 (by decide) rfl rfl rfl (fun k6 => ?_)
  refine jT.getI 17 5 oh5 rfl k6 (by decide) rfl rfl rfl (fun z7 (az7 : 0 ≤ z7) (bz7 : z7 ≤ 340) fz7 => ?_)
  have rz7 : -2147483648 ≤ z7 ∧ z7 ≤ 2147483647 := ⟨by omega, by omega⟩
  exact jT.ret oh5 rfl rfl rfl ⟨z7, by omega, by omega, rfl⟩
-- PolyRegisters.writtenAt(I)I
theorem jc_145 {D n : Nat} {tm : Int} {h g : mj_H} {K L : Nat → Nat} {R : Nat → Nat → Nat} {p0 : Nat} {p1 : Int} (ty : jTY K L R) (hg : g.length ≤ n) (o : jO K L R g n tm h) (kp0 : K p0 = 19) (rp1 : -2147483648 ≤ p1 ∧ p1 ≤ 2147483647) : mj_Ok (D + 2) 145 [.ref p0, .int (jn p1)] h (jQp K L R g n tm h [0] (jVi (-2147483648) 2147483647)) := by
  refine mj_Ok.of (M := mj_m145) (loc := [some (.ref p0), some (.int (jn p1))]) rfl rfl rfl ?_
  refine mj_T.pl rfl rfl rfl rfl ?_
  refine jT.if0 rfl rp1 (fun c1 => ?_) (fun c1 => ?_)
  · have c1 := of_decide_eq_true c1
    exact jT.thrp o hg rfl rfl rfl (Nat.le_of_ble_eq_true rfl) rfl
  · have c1 := of_decide_eq_false c1
    iterate 2 refine mj_T.pl rfl rfl rfl rfl ?_
    refine jT.getR 19 117 17 ty o rfl kp0 (by decide) rfl rfl rfl (fun k1 => ?_)
    refine jT.getI 17 5 o rfl k1 (by decide) rfl rfl rfl (fun z2 (az2 : 0 ≤ z2) (bz2 : z2 ≤ 340) fz2 => ?_)
    have rz2 : -2147483648 ≤ z2 ∧ z2 ≤ 2147483647 := ⟨by omega, by omega⟩
    refine jT.icmp rfl rp1 rz2 (fun c12 => ?_) (fun c12 => ?_)
    · have c12 := of_decide_eq_true c12
      refine mj_T.pl rfl rfl rfl rfl ?_
      refine jT.getR 19 117 17 ty o rfl kp0 (by decide) rfl rfl rfl (fun k3 => ?_)
      refine mj_T.pl rfl rfl rfl rfl ?_
      refine jT.callpp rfl rfl (Nat.le_of_ble_eq_true rfl) (Nat.le_of_ble_eq_true rfl) (jrv_of o k3 (by decide) rfl (by decide) rfl _) rfl (mj_Ok.up (Nat.add_le_add_left (by decide) D) (jc_79 (D := D) ty hg o (Or.inl k3) rp1)) rfl rfl (fun v4 qv4 => ?_)
      obtain ⟨z5, az5, bz5, rfl⟩ := qv4
      have rz5 : -2147483648 ≤ z5 ∧ z5 ≤ 2147483647 := ⟨by omega, by omega⟩
      refine mj_T.eq (pc2 := 31) (st2 := [.int (jn z5)]) ?_ rfl rfl rfl rfl
      exact jT.retp rfl rfl rfl ⟨z5, by omega, by omega, rfl⟩
    · have c12 := of_decide_eq_false c12
      exact jT.thrp o hg rfl rfl rfl (Nat.le_of_ble_eq_true rfl) rfl
/-! The class by kinds: what others call. -/
-- PolyRegisters.errors()I
theorem jc_148 {D n : Nat} {tm : Int} {h g : mj_H} {K L : Nat → Nat} {R : Nat → Nat → Nat} {p0 : Nat} (ty : jTY K L R) (hg : g.length ≤ n) (o : jO K L R g n tm h) (kp0 : K p0 = 19) : mj_Ok (D + 56) 148 [.ref p0] h (jQ K L R g n tm [] (jVi (-2147483648) 2147483647)) := by
  refine mj_Ok.of (M := mj_m148) (loc := [some (.ref p0), none, none, none]) rfl rfl rfl ?_
  refine mj_T.pl rfl rfl rfl rfl ?_
  refine mj_T.pl (loc' := [some (.ref p0), some (.int (jn 0)), none, none]) rfl rfl rfl rfl ?_
  refine mj_T.pl rfl rfl rfl rfl ?_
  refine mj_T.pl (loc' := [some (.ref p0), some (.int (jn 0)), some (.int (jn 0)), none]) rfl rfl rfl rfl ?_
  have t4_5 : ∀ (k6 : Nat) (x1 : Int) (x2 : Int) (w3 : Option Value) (h4 : mj_H), (-2147483648 ≤ x1 ∧ x1 ≤ 2147483647) → (-2147483648 ≤ x2 ∧ x2 ≤ 2147483647) → (jO K L R g n tm h4) → (0 ≤ x2) → (2147483647 - x2 : Int).toNat = k6 → mj_T (D + 55) mj_m148 4 [some (.ref p0), some (.int (jn x1)), some (.int (jn x2)), w3] [] h4 (jQ K L R g n tm [] (jVi (-2147483648) 2147483647)) := by
    refine jInd (fun k6 ih7 => ?_)
    intro x1 x2 w3 h4 rx1 rx2 oh4 ix2 hm8
    refine mj_T.pl rfl rfl rfl rfl ?_
    refine mj_T.pl rfl rfl rfl rfl ?_
    refine jT.getR 19 110 10 ty oh4 rfl kp0 (by decide) rfl rfl rfl (fun k9 => ?_)
    refine jT.getR 10 106 6 ty oh4 rfl k9 (by decide) rfl rfl rfl (fun k10 => ?_)
    refine jT.alen 6 ty oh4 rfl k10 (by decide) (by decide) (fun z11 ez11 (az11 : 6 ≤ z11) (bz11 : z11 ≤ 9) => ?_)
    have rz11 : -2147483648 ≤ z11 ∧ z11 ≤ 2147483647 := ⟨by omega, by omega⟩
    refine jT.icmp rfl rx2 rz11 (fun c13 => ?_) (fun c13 => ?_)
    · have c13 := of_decide_eq_true c13
      refine mj_T.pl rfl rfl rfl rfl ?_
      refine mj_T.pl (loc' := [some (.ref p0), some (.int (jn x1)), some (.int (jn 0)), w3]) rfl rfl rfl rfl ?_
      have t77_15 : ∀ (k16 : Nat) (x12 : Int) (x13 : Int) (h14 : mj_H), (-2147483648 ≤ x12 ∧ x12 ≤ 2147483647) → (-2147483648 ≤ x13 ∧ x13 ≤ 2147483647) → (jO K L R g n tm h14) → (0 ≤ x13) → (2147483647 - x13 : Int).toNat = k16 → mj_T (D + 55) mj_m148 77 [some (.ref p0), some (.int (jn x12)), some (.int (jn x13)), w3] [] h14 (jQ K L R g n tm [] (jVi (-2147483648) 2147483647)) := by
        refine jInd (fun k16 ih17 => ?_)
        intro x12 x13 h14 rx12 rx13 oh14 ix13 hm18
        refine mj_T.pl rfl rfl rfl rfl ?_
        refine mj_T.pl rfl rfl rfl rfl ?_
        refine jT.getR 19 110 10 ty oh14 rfl kp0 (by decide) rfl rfl rfl (fun k19 => ?_)
        refine jT.getR 10 106 6 ty oh14 rfl k19 (by decide) rfl rfl rfl (fun k20 => ?_)
        refine jT.alen 6 ty oh14 rfl k20 (by decide) (by decide) (fun z21 ez21 (az21 : 6 ≤ z21) (bz21 : z21 ≤ 9) => ?_)
        have rz21 : -2147483648 ≤ z21 ∧ z21 ≤ 2147483647 := ⟨by omega, by omega⟩
        refine jT.icmp rfl rx13 rz21 (fun c86 => ?_) (fun c86 => ?_)
        · have c86 := of_decide_eq_true c86
          refine mj_T.pl rfl rfl rfl rfl ?_
          exact jT.ret oh14 rfl rfl rfl ⟨x12, by omega, by omega, rfl⟩
        · have c86 := of_decide_eq_false c86
          refine mj_T.pl rfl rfl rfl rfl ?_
          refine jT.getR 19 117 17 ty oh14 rfl kp0 (by decide) rfl rfl rfl (fun k22 => ?_)
          refine mj_T.pl rfl rfl rfl rfl ?_
          refine jT.getR 19 110 10 ty oh14 rfl kp0 (by decide) rfl rfl rfl (fun k23 => ?_)
          refine jT.getR 10 106 6 ty oh14 rfl k23 (by decide) rfl rfl rfl (fun k24 => ?_)
          refine mj_T.pl rfl rfl rfl rfl ?_
          refine jT.aald 6 2 ty oh14 rfl k24 (by decide) (by decide) rfl rx13 ⟨by omega, by omega⟩ (fun k25 => ?_)
          refine jT.call rfl rfl (Nat.le_of_ble_eq_true rfl) (Nat.le_of_ble_eq_true rfl) (jrv_of oh14 k22 (by decide) rfl (by decide) rfl _) rfl (mj_Ok.up (Nat.add_le_add_left (by decide) D) (jc_82 (D := D) ty hg oh14 k22 k25)) rfl rfl (fun v26 h27 qv26 oh27 => ?_)
          obtain rfl : v26 = none := qv26
          refine mj_T.eq (pc2 := 105) (st2 := []) ?_ rfl rfl rfl rfl
          refine mj_T.pl rfl rfl rfl rfl ?_
          refine jT.getR 19 114 14 ty oh27 rfl kp0 (by decide) rfl rfl rfl (fun k28 => ?_)
          refine mj_T.pl rfl rfl rfl rfl ?_
          refine jT.getR 19 117 17 ty oh27 rfl kp0 (by decide) rfl rfl rfl (fun k29 => ?_)
          refine jT.call rfl rfl (Nat.le_of_ble_eq_true rfl) (Nat.le_of_ble_eq_true rfl) (jrv_of oh27 k28 (by decide) rfl (by decide) rfl _) rfl (mj_Ok.up (Nat.add_le_add_left (by decide) D) (jc_46 (D := D) ty hg oh27 k28 (Or.inl k29))) rfl rfl (fun v30 h31 qv30 oh31 => ?_)
          obtain ⟨z32, az32, bz32, rfl⟩ := qv30
          have rz32 : -2147483648 ≤ z32 ∧ z32 ≤ 2147483647 := ⟨by omega, by omega⟩
          refine mj_T.eq (pc2 := 116) (st2 := [.int (jn z32)]) ?_ rfl rfl rfl rfl
          refine jT.if0 rfl rz32 (fun c116 => ?_) (fun c116 => ?_)
          · have c116 := of_decide_eq_true c116
            refine jT.iinc rfl rfl (fun z33 rz33 ez33 => ?_)
            clear ez33
            refine mj_T.eq (loc2 := [some (.ref p0), some (.int (jn z33)), some (.int (jn x13)), w3]) ?_ rfl rfl rfl rfl
            refine jT.iinc rfl rfl (fun z34 rz34 ez34 => ?_)
            replace ez34 := ez34 ⟨by omega, by omega⟩
            refine mj_T.eq (loc2 := [some (.ref p0), some (.int (jn z33)), some (.int (jn z34)), w3]) ?_ rfl rfl rfl rfl
            refine mj_T.pl rfl rfl rfl rfl ?_
            exact ih17 ((2147483647 - z34 : Int).toNat) (by omega) z33 z34 h31 rz33 rz34 oh31 (by omega) rfl
          · have c116 := of_decide_eq_false c116
            refine mj_T.pl rfl rfl rfl rfl ?_
            refine jT.getR 19 114 14 ty oh31 rfl kp0 (by decide) rfl rfl rfl (fun k35 => ?_)
            refine jT.getI 14 2 oh31 rfl k35 (by decide) rfl rfl rfl (fun z36 (az36 : 0 ≤ z36) (bz36 : z36 ≤ 1) fz36 => ?_)
            have rz36 : -2147483648 ≤ z36 ∧ z36 ≤ 2147483647 := ⟨by omega, by omega⟩
            refine jT.if0 rfl rz36 (fun c126 => ?_) (fun c126 => ?_)
            · have c126 := jne1 c126
              refine jT.iinc rfl rfl (fun z37 rz37 ez37 => ?_)
              clear ez37
              refine mj_T.eq (loc2 := [some (.ref p0), some (.int (jn z37)), some (.int (jn x13)), w3]) ?_ rfl rfl rfl rfl
              refine jT.iinc rfl rfl (fun z38 rz38 ez38 => ?_)
              replace ez38 := ez38 ⟨by omega, by omega⟩
              refine mj_T.eq (loc2 := [some (.ref p0), some (.int (jn z37)), some (.int (jn z38)), w3]) ?_ rfl rfl rfl rfl
              refine mj_T.pl rfl rfl rfl rfl ?_
              exact ih17 ((2147483647 - z38 : Int).toNat) (by omega) z37 z38 h31 rz37 rz38 oh31 (by omega) rfl
            · have c126 := jne2 c126
              refine mj_T.pl rfl rfl rfl rfl ?_
              refine jT.getR 19 114 14 ty oh31 rfl kp0 (by decide) rfl rfl rfl (fun k39 => ?_)
              refine jT.callp rfl rfl (Nat.le_of_ble_eq_true rfl) (Nat.le_of_ble_eq_true rfl) (jrv_of oh31 k39 (by decide) rfl (by decide) rfl _) rfl (mj_Ok.up (Nat.add_le_add_left (by decide) D) (jc_47 (D := D) ty hg oh31 k39)) rfl rfl (fun v40 qv40 => ?_)
              obtain ⟨a41, ka41, rfl⟩ := qv40
              refine mj_T.eq (pc2 := 136) (st2 := [.ref a41]) ?_ rfl rfl rfl rfl
              refine mj_T.pl rfl rfl rfl rfl ?_
              refine jT.getR 19 110 10 ty oh31 rfl kp0 (by decide) rfl rfl rfl (fun k42 => ?_)
              refine jT.getR 10 106 6 ty oh31 rfl k42 (by decide) rfl rfl rfl (fun k43 => ?_)
              refine mj_T.pl rfl rfl rfl rfl ?_
              refine jT.aald 6 2 ty oh31 rfl k43 (by decide) (by decide) rfl rx13 ⟨by omega, by omega⟩ (fun k44 => ?_)
              refine jT.callp rfl rfl (Nat.le_of_ble_eq_true rfl) (Nat.le_of_ble_eq_true rfl) rfl rfl (mj_Ok.up (Nat.add_le_add_left (by decide) D) (jc_166 (D := D) ty hg oh31 ka41 k44)) rfl rfl (fun v45 qv45 => ?_)
              obtain ⟨z46, az46, bz46, rfl⟩ := qv45
              have rz46 : -2147483648 ≤ z46 ∧ z46 ≤ 2147483647 := ⟨by omega, by omega⟩
              refine mj_T.eq (pc2 := 148) (st2 := [.int (jn z46)]) ?_ rfl rfl rfl rfl
              refine jT.if0 rfl rz46 (fun c148 => ?_) (fun c148 => ?_)
              · have c148 := jne1 c148
                refine jT.iinc rfl rfl (fun z47 rz47 ez47 => ?_)
                replace ez47 := ez47 ⟨by omega, by omega⟩
                refine mj_T.eq (loc2 := [some (.ref p0), some (.int (jn x12)), some (.int (jn z47)), w3]) ?_ rfl rfl rfl rfl
                refine mj_T.pl rfl rfl rfl rfl ?_
                exact ih17 ((2147483647 - z47 : Int).toNat) (by omega) x12 z47 h31 rx12 rz47 oh31 (by omega) rfl
              · have c148 := jne2 c148
                refine jT.iinc rfl rfl (fun z48 rz48 ez48 => ?_)
                clear ez48
                refine mj_T.eq (loc2 := [some (.ref p0), some (.int (jn z48)), some (.int (jn x13)), w3]) ?_ rfl rfl rfl rfl
                refine jT.iinc rfl rfl (fun z49 rz49 ez49 => ?_)
                replace ez49 := ez49 ⟨by omega, by omega⟩
                refine mj_T.eq (loc2 := [some (.ref p0), some (.int (jn z48)), some (.int (jn z49)), w3]) ?_ rfl rfl rfl rfl
                refine mj_T.pl rfl rfl rfl rfl ?_
                exact ih17 ((2147483647 - z49 : Int).toNat) (by omega) z48 z49 h31 rz48 rz49 oh31 (by omega) rfl
      exact t77_15 _ x1 0 h4 rx1 ⟨by decide, by decide⟩ oh4 (by omega) rfl
    · have c13 := of_decide_eq_false c13
      iterate 2 refine mj_T.pl rfl rfl rfl rfl ?_
      refine jT.iadd rfl (fun z50 rz50 ez50 => ?_)
      replace ez50 := ez50 ⟨by omega, by omega⟩
      refine mj_T.pl (loc' := [some (.ref p0), some (.int (jn x1)), some (.int (jn x2)), some (.int (jn z50))]) rfl rfl rfl rfl ?_
      have t20_54 : ∀ (k55 : Nat) (x51 : Int) (x52 : Int) (h53 : mj_H), (-2147483648 ≤ x51 ∧ x51 ≤ 2147483647) → (-2147483648 ≤ x52 ∧ x52 ≤ 2147483647) → (jO K L R g n tm h53) → (z50 ≤ x52) → (2147483647 - x52 : Int).toNat = k55 → mj_T (D + 55) mj_m148 20 [some (.ref p0), some (.int (jn x51)), some (.int (jn x2)), some (.int (jn x52))] [] h53 (jQ K L R g n tm [] (jVi (-2147483648) 2147483647)) := by
        refine jInd (fun k55 ih56 => ?_)
        intro x51 x52 h53 rx51 rx52 oh53 ix52 hm57
        refine mj_T.pl rfl rfl rfl rfl ?_
        refine mj_T.pl rfl rfl rfl rfl ?_
        refine jT.getR 19 110 10 ty oh53 rfl kp0 (by decide) rfl rfl rfl (fun k58 => ?_)
        refine jT.getR 10 106 6 ty oh53 rfl k58 (by decide) rfl rfl rfl (fun k59 => ?_)
        refine jT.alen 6 ty oh53 rfl k59 (by decide) (by decide) (fun z60 ez60 (az60 : 6 ≤ z60) (bz60 : z60 ≤ 9) => ?_)
        have rz60 : -2147483648 ≤ z60 ∧ z60 ≤ 2147483647 := ⟨by omega, by omega⟩
        refine jT.icmp rfl rx52 rz60 (fun c29 => ?_) (fun c29 => ?_)
        · have c29 := of_decide_eq_true c29
          refine jT.iinc rfl rfl (fun z61 rz61 ez61 => ?_)
          replace ez61 := ez61 ⟨by omega, by omega⟩
          refine mj_T.eq (loc2 := [some (.ref p0), some (.int (jn x51)), some (.int (jn z61)), some (.int (jn x52))]) ?_ rfl rfl rfl rfl
          refine mj_T.pl rfl rfl rfl rfl ?_
          exact ih7 ((2147483647 - z61 : Int).toNat) (by omega) x51 z61 (some (.int (jn x52))) h53 rx51 rz61 oh53 (by omega) rfl
        · have c29 := of_decide_eq_false c29
          refine mj_T.pl rfl rfl rfl rfl ?_
          refine jT.getR 19 111 11 ty oh53 rfl kp0 (by decide) rfl rfl rfl (fun k62 => ?_)
          refine mj_T.pl rfl rfl rfl rfl ?_
          refine jT.getR 19 110 10 ty oh53 rfl kp0 (by decide) rfl rfl rfl (fun k63 => ?_)
          refine jT.getR 10 106 6 ty oh53 rfl k63 (by decide) rfl rfl rfl (fun k64 => ?_)
          refine mj_T.pl rfl rfl rfl rfl ?_
          refine jT.aald 6 2 ty oh53 rfl k64 (by decide) (by decide) rfl rx2 ⟨by omega, by omega⟩ (fun k65 => ?_)
          refine mj_T.pl rfl rfl rfl rfl ?_
          refine jT.getR 19 110 10 ty oh53 rfl kp0 (by decide) rfl rfl rfl (fun k66 => ?_)
          refine jT.getR 10 106 6 ty oh53 rfl k66 (by decide) rfl rfl rfl (fun k67 => ?_)
          refine mj_T.pl rfl rfl rfl rfl ?_
          refine jT.aald 6 2 ty oh53 rfl k67 (by decide) (by decide) rfl rx52 ⟨by omega, by omega⟩ (fun k68 => ?_)
          refine jT.call rfl rfl (Nat.le_of_ble_eq_true rfl) (Nat.le_of_ble_eq_true rfl) (jrv_of oh53 k62 (by decide) rfl (by decide) rfl _) rfl (mj_Ok.up (Nat.add_le_add_left (by decide) D) (jc_15 (D := D) ty hg oh53 k62 k65 k68)) rfl rfl (fun v69 h70 qv69 oh70 => ?_)
          obtain ⟨z71, az71, bz71, rfl⟩ := qv69
          have rz71 : -2147483648 ≤ z71 ∧ z71 ≤ 2147483647 := ⟨by omega, by omega⟩
          refine mj_T.eq (pc2 := 57) (st2 := [.int (jn z71)]) ?_ rfl rfl rfl rfl
          refine jT.if0 rfl rz71 (fun c57 => ?_) (fun c57 => ?_)
          · have c57 := jne1 c57
            refine jT.iinc rfl rfl (fun z72 rz72 ez72 => ?_)
            replace ez72 := ez72 ⟨by omega, by omega⟩
            refine mj_T.eq (loc2 := [some (.ref p0), some (.int (jn x51)), some (.int (jn x2)), some (.int (jn z72))]) ?_ rfl rfl rfl rfl
            refine mj_T.pl rfl rfl rfl rfl ?_
            exact ih56 ((2147483647 - z72 : Int).toNat) (by omega) x51 z72 h70 rx51 rz72 oh70 (by omega) rfl
          · have c57 := jne2 c57
            refine jT.iinc rfl rfl (fun z73 rz73 ez73 => ?_)
            clear ez73
            refine mj_T.eq (loc2 := [some (.ref p0), some (.int (jn z73)), some (.int (jn x2)), some (.int (jn x52))]) ?_ rfl rfl rfl rfl
            refine jT.iinc rfl rfl (fun z74 rz74 ez74 => ?_)
            replace ez74 := ez74 ⟨by omega, by omega⟩
            refine mj_T.eq (loc2 := [some (.ref p0), some (.int (jn z73)), some (.int (jn x2)), some (.int (jn z74))]) ?_ rfl rfl rfl rfl
            refine mj_T.pl rfl rfl rfl rfl ?_
            exact ih56 ((2147483647 - z74 : Int).toNat) (by omega) z73 z74 h70 rz73 rz74 oh70 (by omega) rfl
      exact t20_54 _ x1 z50 h4 rx1 rz50 oh4 (by omega) rfl
  exact t4_5 _ 0 0 none h ⟨by decide, by decide⟩ ⟨by decide, by decide⟩ o (by omega) rfl
-- PolyRegisters.meanTerms()D
theorem jc_146 {D n : Nat} {tm : Int} {h g : mj_H} {K L : Nat → Nat} {R : Nat → Nat → Nat} {p0 : Nat} (ty : jTY K L R) (hg : g.length ≤ n) (o : jO K L R g n tm h) (kp0 : K p0 = 19) : mj_Ok (D + 2) 146 [.ref p0] h (jQp K L R g n tm h [] jVd) := by
  refine mj_Ok.of (M := mj_m146) (loc := [some (.ref p0), none, none]) rfl rfl rfl ?_
  refine mj_T.pl rfl rfl rfl rfl ?_
  refine mj_T.pl (loc' := [some (.ref p0), some (.int (jn 0)), none]) rfl rfl rfl rfl ?_
  refine mj_T.pl rfl rfl rfl rfl ?_
  refine mj_T.pl (loc' := [some (.ref p0), some (.int (jn 0)), some (.int (jn 0))]) rfl rfl rfl rfl ?_
  have t4_3 : ∀ (k4 : Nat) (x1 : Int) (x2 : Int), (-2147483648 ≤ x1 ∧ x1 ≤ 2147483647) → (-2147483648 ≤ x2 ∧ x2 ≤ 2147483647) → (0 ≤ x2) → (0 ≤ x1 ∧ x1 ≤ 13 * x2 ∧ x2 ≤ 9) → (2147483647 - x2 : Int).toNat = k4 → mj_T (D + 1) mj_m146 4 [some (.ref p0), some (.int (jn x1)), some (.int (jn x2))] [] h (jQp K L R g n tm h [] jVd) := by
    refine jInd (fun k4 ih5 => ?_)
    intro x1 x2 rx1 rx2 ix2 ivx2 hm6
    refine mj_T.pl rfl rfl rfl rfl ?_
    refine mj_T.pl rfl rfl rfl rfl ?_
    refine jT.getR 19 110 10 ty o rfl kp0 (by decide) rfl rfl rfl (fun k7 => ?_)
    refine jT.getR 10 106 6 ty o rfl k7 (by decide) rfl rfl rfl (fun k8 => ?_)
    refine jT.alen 6 ty o rfl k8 (by decide) (by decide) (fun z9 ez9 (az9 : 6 ≤ z9) (bz9 : z9 ≤ 9) => ?_)
    have rz9 : -2147483648 ≤ z9 ∧ z9 ≤ 2147483647 := ⟨by omega, by omega⟩
    refine jT.icmp rfl rx2 rz9 (fun c13 => ?_) (fun c13 => ?_)
    · have c13 := of_decide_eq_true c13
      refine mj_T.pl rfl rfl rfl rfl ?_
      exact jT.mean (y := 0) ⟨by omega, by omega⟩ rfl rfl rfl rfl rfl
    · have c13 := of_decide_eq_false c13
      iterate 2 refine mj_T.pl rfl rfl rfl rfl ?_
      refine jT.getR 19 110 10 ty o rfl kp0 (by decide) rfl rfl rfl (fun k10 => ?_)
      refine jT.getR 10 106 6 ty o rfl k10 (by decide) rfl rfl rfl (fun k11 => ?_)
      refine mj_T.pl rfl rfl rfl rfl ?_
      refine jT.aald 6 2 ty o rfl k11 (by decide) (by decide) rfl rx2 ⟨by omega, by omega⟩ (fun k12 => ?_)
      refine jT.callpp rfl rfl (Nat.le_of_ble_eq_true rfl) (Nat.le_of_ble_eq_true rfl) rfl rfl (mj_Ok.up (Nat.add_le_add_left (by decide) D) (jc_163 (D := D) ty hg o k12)) rfl rfl (fun v13 qv13 => ?_)
      obtain ⟨z14, az14, bz14, rfl⟩ := qv13
      have rz14 : -2147483648 ≤ z14 ∧ z14 ≤ 2147483647 := ⟨by omega, by omega⟩
      refine mj_T.eq (pc2 := 29) (st2 := [.int (jn z14), .int (jn x1)]) ?_ rfl rfl rfl rfl
      refine jT.iadd rfl (fun z15 rz15 ez15 => ?_)
      replace ez15 := ez15 ⟨by omega, by omega⟩
      refine mj_T.pl (loc' := [some (.ref p0), some (.int (jn z15)), some (.int (jn x2))]) rfl rfl rfl rfl ?_
      refine jT.iinc rfl rfl (fun z16 rz16 ez16 => ?_)
      replace ez16 := ez16 ⟨by omega, by omega⟩
      refine mj_T.eq (loc2 := [some (.ref p0), some (.int (jn z15)), some (.int (jn z16))]) ?_ rfl rfl rfl rfl
      refine mj_T.pl rfl rfl rfl rfl ?_
      exact ih5 ((2147483647 - z16 : Int).toNat) (by omega) z15 z16 rz15 rz16 (by omega) (by omega) rfl
  exact t4_3 _ 0 0 ⟨by decide, by decide⟩ ⟨by decide, by decide⟩ (by omega) (by omega) rfl
-- PolyRegisters.usedShare()F
theorem jc_147 {D n : Nat} {tm : Int} {h g : mj_H} {K L : Nat → Nat} {R : Nat → Nat → Nat} {p0 : Nat} (ty : jTY K L R) (hg : g.length ≤ n) (o : jO K L R g n tm h) (kp0 : K p0 = 19) : mj_Ok (D + 2) 147 [.ref p0] h (jQp K L R g n tm h [] jVf) := by
  refine mj_Ok.of (M := mj_m147) (loc := [some (.ref p0), none, none]) rfl rfl rfl ?_
  refine mj_T.pl rfl rfl rfl rfl ?_
  refine mj_T.pl (loc' := [some (.ref p0), some (.int (jn 0)), none]) rfl rfl rfl rfl ?_
  refine mj_T.pl rfl rfl rfl rfl ?_
  refine mj_T.pl (loc' := [some (.ref p0), some (.int (jn 0)), some (.int (jn 0))]) rfl rfl rfl rfl ?_
  have t4_3 : ∀ (k4 : Nat) (x1 : Int) (x2 : Int), (-2147483648 ≤ x1 ∧ x1 ≤ 2147483647) → (-2147483648 ≤ x2 ∧ x2 ≤ 2147483647) → (0 ≤ x2) → (0 ≤ x1 ∧ x1 ≤ x2 ∧ x2 ≤ 9) → (2147483647 - x2 : Int).toNat = k4 → mj_T (D + 1) mj_m147 4 [some (.ref p0), some (.int (jn x1)), some (.int (jn x2))] [] h (jQp K L R g n tm h [] jVf) := by
    refine jInd (fun k4 ih5 => ?_)
    intro x1 x2 rx1 rx2 ix2 ivx2 hm6
    refine mj_T.pl rfl rfl rfl rfl ?_
    refine mj_T.pl rfl rfl rfl rfl ?_
    refine jT.getR 19 110 10 ty o rfl kp0 (by decide) rfl rfl rfl (fun k7 => ?_)
    refine jT.getR 10 106 6 ty o rfl k7 (by decide) rfl rfl rfl (fun k8 => ?_)
    refine jT.alen 6 ty o rfl k8 (by decide) (by decide) (fun z9 ez9 (az9 : 6 ≤ z9) (bz9 : z9 ≤ 9) => ?_)
    have rz9 : -2147483648 ≤ z9 ∧ z9 ≤ 2147483647 := ⟨by omega, by omega⟩
    refine jT.icmp rfl rx2 rz9 (fun c13 => ?_) (fun c13 => ?_)
    · have c13 := of_decide_eq_true c13
      refine mj_T.pl rfl rfl rfl rfl ?_
      exact jT.share (y := 0) ⟨by omega, by omega⟩ rfl rfl rfl rfl rfl
    · have c13 := of_decide_eq_false c13
      refine mj_T.pl rfl rfl rfl rfl ?_
      refine jT.getR 19 110 10 ty o rfl kp0 (by decide) rfl rfl rfl (fun k10 => ?_)
      refine jT.getR 10 106 6 ty o rfl k10 (by decide) rfl rfl rfl (fun k11 => ?_)
      refine mj_T.pl rfl rfl rfl rfl ?_
      refine jT.aald 6 2 ty o rfl k11 (by decide) (by decide) rfl rx2 ⟨by omega, by omega⟩ (fun k12 => ?_)
      refine jT.callpp rfl rfl (Nat.le_of_ble_eq_true rfl) (Nat.le_of_ble_eq_true rfl) rfl rfl (mj_Ok.up (Nat.add_le_add_left (by decide) D) (jc_162 (D := D) ty hg o k12)) rfl rfl (fun v13 qv13 => ?_)
      obtain ⟨z14, az14, bz14, rfl⟩ := qv13
      have rz14 : -2147483648 ≤ z14 ∧ z14 ≤ 2147483647 := ⟨by omega, by omega⟩
      refine mj_T.eq (pc2 := 28) (st2 := [.int (jn z14)]) ?_ rfl rfl rfl rfl
      refine jT.if0 rfl rz14 (fun c28 => ?_) (fun c28 => ?_)
      · have c28 := of_decide_eq_true c28
        refine jT.iinc rfl rfl (fun z15 rz15 ez15 => ?_)
        replace ez15 := ez15 ⟨by omega, by omega⟩
        refine mj_T.eq (loc2 := [some (.ref p0), some (.int (jn x1)), some (.int (jn z15))]) ?_ rfl rfl rfl rfl
        refine mj_T.pl rfl rfl rfl rfl ?_
        exact ih5 ((2147483647 - z15 : Int).toNat) (by omega) x1 z15 rx1 rz15 (by omega) (by omega) rfl
      · have c28 := of_decide_eq_false c28
        refine jT.iinc rfl rfl (fun z16 rz16 ez16 => ?_)
        replace ez16 := ez16 ⟨by omega, by omega⟩
        refine mj_T.eq (loc2 := [some (.ref p0), some (.int (jn z16)), some (.int (jn x2))]) ?_ rfl rfl rfl rfl
        refine jT.iinc rfl rfl (fun z17 rz17 ez17 => ?_)
        replace ez17 := ez17 ⟨by omega, by omega⟩
        refine mj_T.eq (loc2 := [some (.ref p0), some (.int (jn z16)), some (.int (jn z17))]) ?_ rfl rfl rfl rfl
        refine mj_T.pl rfl rfl rfl rfl ?_
        exact ih5 ((2147483647 - z17 : Int).toNat) (by omega) z16 z17 rz16 rz17 (by omega) (by omega) rfl
  exact t4_3 _ 0 0 ⟨by decide, by decide⟩ ⟨by decide, by decide⟩ (by omega) (by omega) rfl
/-! The class's calls that change the buffer's length. -/
section JBU
variable {D n : Nat} {tm : Int} {h g : mj_H} {K L : Nat → Nat} {R : Nat → Nat → Nat} {Q : mj_R → Prop}
theorem jc_80b {p0 : Nat} {p1 : Int} (ty : jTY K L R) (o : jO K L R g n tm h) (kp0 : K p0 = 27) : mj_Ok (D + 1) 80 [.ref p0, .int (jn p1)] h (fun r => ∃ h', r = (.inl none, h') ∧ jO K L R g n (if tm < 200 then tm + 1 else tm) h') := by
  have ht := o.2.1
  have hl : L (R p0 0) = 200 := ty.2.2.2.2.1 p0 kp0
  have hu : ∀ b, K b = 27 → b = p0 := fun b hb => ty.2.2.2.2.2.2.1 b p0 hb kp0
  refine mj_Ok.of (M := mj_m80) (loc := [some (.ref p0), some (.int (jn p1))]) rfl rfl rfl ?_
  refine mj_T.pl rfl rfl rfl rfl ?_
  refine jT.getI 27 7 o rfl kp0 (by decide) rfl rfl rfl (fun z1 (a1 : tm ≤ z1) (b1 : z1 ≤ tm) f1 => ?_)
  refine jT.if0 rfl ⟨by omega, by omega⟩ (fun c => ?_) (fun c => ?_)
  · have c := of_decide_eq_true c
    omega
  clear c
  refine mj_T.pl rfl rfl rfl rfl ?_
  refine jT.getI 27 7 o rfl kp0 (by decide) rfl rfl rfl (fun z2 (a2 : tm ≤ z2) (b2 : z2 ≤ tm) f2 => ?_)
  refine mj_T.pl rfl rfl rfl rfl ?_
  refine jT.getR 27 103 3 ty o rfl kp0 (by decide) rfl rfl rfl (fun k3 => ?_)
  refine jT.alen 3 ty o rfl k3 (by decide) (by decide) (fun z3 e3 (a3 : 0 ≤ z3) (b3 : z3 ≤ 1000) => ?_)
  refine jT.icmp rfl ⟨by omega, by omega⟩ ⟨by omega, by omega⟩ (fun c => ?_) (fun c => ?_)
  · have c := of_decide_eq_true c
    exact mj_T.ret rfl rfl rfl ⟨h, rfl, by rw [if_neg (by omega)]; exact o⟩
  · have c := of_decide_eq_false c
    refine mj_T.pl rfl rfl rfl rfl ?_
    refine jT.getR 27 103 3 ty o rfl kp0 (by decide) rfl rfl rfl (fun k4 => ?_)
    refine mj_T.pl rfl rfl rfl rfl ?_
    refine jT.getI 27 7 o rfl kp0 (by decide) rfl rfl rfl (fun z4 (a4 : tm ≤ z4) (b4 : z4 ≤ tm) f4 => ?_)
    iterate 2 refine mj_T.pl rfl rfl rfl rfl ?_
    refine jT.anyI (fun z5 r5 => ?_)
    refine jT.bast o rfl k4 ⟨by omega, by omega⟩ ⟨by omega, by omega⟩ (fun h6 o6 u6 => ?_)
    iterate 2 refine mj_T.pl rfl rfl rfl rfl ?_
    refine jT.getI 27 7 o6 rfl kp0 (by decide) rfl rfl rfl (fun z7 (a7 : tm ≤ z7) (b7 : z7 ≤ tm) f7 => ?_)
    refine mj_T.pl rfl rfl rfl rfl ?_
    refine jT.iadd rfl (fun z8 r8 e8 => ?_)
    replace e8 := e8 ⟨by omega, by omega⟩
    refine jT.putB (x := z8) hu o6 rfl kp0 ⟨by omega, by omega⟩ (fun h9 o9 _ _ => ?_)
    refine mj_T.ret rfl rfl rfl ⟨h9, rfl, ?_⟩
    rw [if_pos (by omega), ← show z8 = tm + 1 by omega]
    exact o9
theorem jb81_step {a s : Nat} {x : Int32} {l3 : Option Value} (ty : jTY K L R) (ka : K a = 27) (o : jO K L R g n tm h) (hs : s = 24 ∨ s = 16 ∨ s = 8 ∨ s = 0) (hroom : mq_byt x (s / 8) ≠ 0 → tm + 1 ≤ 200) (k : ∀ h' l3', jO K L R g n (tm + (if mq_byt x (s / 8) = 0 then 0 else 1)) h' → mj_T (D + 1) mj_m81 3 [some (.ref a), some (.int x), some (.int (jn ((s : Nat) + -8))), l3'] [] h' Q) : mj_T (D + 1) mj_m81 3 [some (.ref a), some (.int x), some (.int (jn (s : Nat))), l3] [] h Q := by
  have hb := jb_byt_lt x (s / 8)
  refine mj_T.pl rfl rfl rfl rfl ?_
  refine mj_T.if0 rfl ⟨by omega, by omega⟩ (fun hc => ?_) (fun hc => ?_)
  · simp only [jc, decide_eq_true_eq] at hc; omega
  iterate 5 refine mj_T.pl rfl rfl rfl rfl ?_
  refine mj_T.eq (st2 := [.int (jn (mq_byt x (s / 8) : Nat))]) ?_ rfl rfl (congrArg (fun v => [Value.int v]) (jb_shr x hs)) rfl
  refine mj_T.pl (loc' := [some (.ref a), some (.int x), some (.int (jn (s : Nat))), some (.int (jn (mq_byt x (s / 8) : Nat)))]) rfl rfl rfl rfl ?_
  have fin : ∀ h', jO K L R g n (tm + (if mq_byt x (s / 8) = 0 then 0 else 1)) h' → mj_T (D + 1) mj_m81 24 [some (.ref a), some (.int x), some (.int (jn (s : Nat))), some (.int (jn (mq_byt x (s / 8) : Nat)))] [] h' Q := fun h' o' => by
    refine mj_T.iinc (a := (s : Int)) rfl rfl ?_
    exact mj_T.pl rfl rfl rfl rfl (k h' _ o')
  refine mj_T.pl rfl rfl rfl rfl ?_
  refine mj_T.if0 rfl ⟨by omega, by omega⟩ (fun hc => ?_) (fun hc => ?_)
  · simp only [jc, decide_eq_true_eq] at hc
    refine fin h ?_
    rw [if_pos (by omega), Int.add_zero]
    exact o
  · simp only [jc, decide_eq_false_iff_not] at hc
    have hn : mq_byt x (s / 8) ≠ 0 := by omega
    have hr := hroom hn
    iterate 2 refine mj_T.pl rfl rfl rfl rfl ?_
    refine mj_T.call rfl rfl (Nat.le_of_ble_eq_true rfl) (Nat.le_of_ble_eq_true rfl) (jrv_of o ka (by decide) rfl (by decide) rfl _) rfl (jc_80b (D := D) ty o ka) (fun v h' hq => ?_) (fun i h' hq => by obtain ⟨_, hq, _⟩ := hq; cases hq)
    obtain ⟨h2, hq, o2⟩ := hq
    cases hq
    refine fin _ ?_
    rw [if_neg hn]
    rw [if_pos (by omega)] at o2
    exact o2
theorem jc_81b {a : Nat} {x : Int32} (ty : jTY K L R) (o : jO K L R g n tm h) (ka : K a = 27) (hr : tm + (mq_nby x : Int) ≤ 200) : mj_Ok (D + 2) 81 [.ref a, .int x] h (fun r => ∃ h', r = (.inl none, h') ∧ jO K L R g n (tm + (mq_nby x : Int)) h') := by
  have en : (mq_nby x : Int) = (if mq_byt x 3 = 0 then 0 else 1) + (if mq_byt x 2 = 0 then 0 else 1) + (if mq_byt x 1 = 0 then 0 else 1) + (if mq_byt x 0 = 0 then 0 else 1) := by
    have e : ∀ k, ((if mq_byt x k = 0 then 0 else 1 : Nat) : Int) = if mq_byt x k = 0 then 0 else 1 := fun k => by split <;> rfl
    unfold mq_nby
    simp only [Int.natCast_add, e]
  have hi : ∀ k, (0 : Int) ≤ (if mq_byt x k = 0 then 0 else 1) := fun k => by split <;> decide
  have h1 : ∀ k, mq_byt x k ≠ 0 → (if mq_byt x k = 0 then (0 : Int) else 1) = 1 := fun k hk => if_neg hk
  have i3 := hi 3
  have i2 := hi 2
  have i1 := hi 1
  have i0 := hi 0
  refine mj_Ok.of (M := mj_m81) (loc := [some (.ref a), some (.int x), none, none]) rfl rfl rfl ?_
  iterate 2 refine mj_T.pl rfl rfl rfl rfl ?_
  refine jb81_step (s := 24) ty ka o (by decide) (fun q => by have := h1 3 q; omega) (fun g3 l3 o3 => ?_)
  refine jb81_step (s := 16) ty ka o3 (by decide) (fun q => by have := h1 2 q; show tm + (if mq_byt x 3 = 0 then 0 else 1) + 1 ≤ 200; omega) (fun g2 l2 o2 => ?_)
  refine jb81_step (s := 8) ty ka o2 (by decide) (fun q => by have := h1 1 q; show tm + (if mq_byt x 3 = 0 then 0 else 1) + (if mq_byt x 2 = 0 then 0 else 1) + 1 ≤ 200; omega) (fun g1 l1 o1 => ?_)
  refine jb81_step (s := 0) ty ka o1 (by decide) (fun q => by have := h1 0 q; show tm + (if mq_byt x 3 = 0 then 0 else 1) + (if mq_byt x 2 = 0 then 0 else 1) + (if mq_byt x 1 = 0 then 0 else 1) + 1 ≤ 200; omega) (fun g0 l0 o0 => ?_)
  refine mj_T.pl rfl rfl rfl rfl ?_
  refine mj_T.if0 (a := ((0 : Nat) : Int) + -8) rfl ⟨by omega, by omega⟩ (fun hc => ?_) (fun hc => ?_)
  rotate_left
  · simp only [jc, decide_eq_false_iff_not] at hc; omega
  refine mj_T.ret rfl rfl rfl ⟨g0, rfl, ?_⟩
  rw [en, show tm + ((if mq_byt x 3 = 0 then (0 : Int) else 1) + (if mq_byt x 2 = 0 then 0 else 1) + (if mq_byt x 1 = 0 then 0 else 1) + (if mq_byt x 0 = 0 then 0 else 1)) = tm + (if mq_byt x 3 = 0 then 0 else 1) + (if mq_byt x 2 = 0 then 0 else 1) + (if mq_byt x 1 = 0 then 0 else 1) + (if mq_byt x 0 = 0 then 0 else 1) by omega]
  exact o0
end JBU
/-! The class's append, clearText, read. -/
section JBV
variable {n : Nat} {tm : Int} {h g : mj_H} {K L : Nat → Nat} {R : Nat → Nat → Nat}
theorem mq_nby_le (x : Int32) : mq_nby x ≤ 4 := by
  have hi : ∀ k, (if mq_byt x k = 0 then 0 else 1) ≤ 1 := fun k => by split <;> decide
  have := hi 3
  have := hi 2
  have := hi 1
  have := hi 0
  unfold mq_nby
  omega
theorem jc_141 {D p0 : Nat} {x1 x2 x3 x4 x5 : Int32} (ty : jTY K L R) (hg : g.length ≤ n) (o : jO K L R g n tm h) (kp0 : K p0 = 19) : mj_Ok (D + 3) 141 [.ref p0, .int x1, .int x2, .int x3, .int x4, .int x5] h (fun r => (200 < tm + (jcn x1 x2 x3 x4 x5 20 : Int) ∧ r.1 = .inr 1 ∧ jO K L R g (n + 1) tm r.2) ∨ (tm + (jcn x1 x2 x3 x4 x5 20 : Int) ≤ 200 ∧ r.1 = .inl (some (.int (jn (tm + (jcn x1 x2 x3 x4 x5 20 : Int))))) ∧ jO K L R g n (tm + (jcn x1 x2 x3 x4 x5 20 : Int)) r.2)) := by
  have ht := o.2.1
  rw [jcn_20]
  have n1 := mq_nby_le x1
  have n2 := mq_nby_le x2
  have n3 := mq_nby_le x3
  have n4 := mq_nby_le x4
  have n5 := mq_nby_le x5
  refine mj_Ok.of (M := mj_m141) (loc := [some (.ref p0), some (.int x1), some (.int x2), some (.int x3), some (.int x4), some (.int x5), none]) rfl rfl rfl ?_
  refine mj_T.pl rfl rfl rfl rfl ?_
  refine mj_T.call rfl rfl (Nat.le_of_ble_eq_true rfl) (Nat.le_of_ble_eq_true rfl) rfl rfl (mj_Ok.up (by omega) (jb_in (D := D) (x := x1))) (fun v h' hq => ?_) (fun i h' hq => by cases hq)
  cases hq
  refine mj_T.pl rfl rfl rfl rfl ?_
  refine mj_T.call rfl rfl (Nat.le_of_ble_eq_true rfl) (Nat.le_of_ble_eq_true rfl) rfl rfl (mj_Ok.up (by omega) (jb_in (D := D) (x := x2))) (fun v h' hq => ?_) (fun i h' hq => by cases hq)
  cases hq
  refine mj_T.eq (st2 := [.int (jn (mq_nby x2 : Int)), .int (jn ((mq_nby x1 : Int) : Int))]) ?_ rfl rfl rfl rfl
  refine mj_T.iadd rfl ?_
  refine mj_T.pl rfl rfl rfl rfl ?_
  refine mj_T.call rfl rfl (Nat.le_of_ble_eq_true rfl) (Nat.le_of_ble_eq_true rfl) rfl rfl (mj_Ok.up (by omega) (jb_in (D := D) (x := x3))) (fun v h' hq => ?_) (fun i h' hq => by cases hq)
  cases hq
  refine mj_T.eq (st2 := [.int (jn (mq_nby x3 : Int)), .int (jn ((((mq_nby x1 : Int) : Int) + (mq_nby x2 : Int)) : Int))]) ?_ rfl rfl rfl rfl
  refine mj_T.iadd rfl ?_
  refine mj_T.pl rfl rfl rfl rfl ?_
  refine mj_T.call rfl rfl (Nat.le_of_ble_eq_true rfl) (Nat.le_of_ble_eq_true rfl) rfl rfl (mj_Ok.up (by omega) (jb_in (D := D) (x := x4))) (fun v h' hq => ?_) (fun i h' hq => by cases hq)
  cases hq
  refine mj_T.eq (st2 := [.int (jn (mq_nby x4 : Int)), .int (jn ((((((mq_nby x1 : Int) : Int) + (mq_nby x2 : Int)) : Int) + (mq_nby x3 : Int)) : Int))]) ?_ rfl rfl rfl rfl
  refine mj_T.iadd rfl ?_
  refine mj_T.pl rfl rfl rfl rfl ?_
  refine mj_T.call rfl rfl (Nat.le_of_ble_eq_true rfl) (Nat.le_of_ble_eq_true rfl) rfl rfl (mj_Ok.up (by omega) (jb_in (D := D) (x := x5))) (fun v h' hq => ?_) (fun i h' hq => by cases hq)
  cases hq
  refine mj_T.eq (st2 := [.int (jn (mq_nby x5 : Int)), .int (jn ((((((((mq_nby x1 : Int) : Int) + (mq_nby x2 : Int)) : Int) + (mq_nby x3 : Int)) : Int) + (mq_nby x4 : Int)) : Int))]) ?_ rfl rfl rfl rfl
  refine mj_T.iadd rfl ?_
  have ea : (((((((((mq_nby x1 : Int) : Int) + (mq_nby x2 : Int)) : Int) + (mq_nby x3 : Int)) : Int) + (mq_nby x4 : Int)) : Int) + (mq_nby x5 : Int)) = ((mq_nby x1 + mq_nby x2 + mq_nby x3 + mq_nby x4 + mq_nby x5 : Nat) : Int) := by omega
  rw [ea]
  generalize eN : mq_nby x1 + mq_nby x2 + mq_nby x3 + mq_nby x4 + mq_nby x5 = N
  refine mj_T.pl (loc' := [some (.ref p0), some (.int x1), some (.int x2), some (.int x3), some (.int x4), some (.int x5), some (.int (jn (N : Int)))]) rfl rfl rfl rfl ?_
  refine mj_T.pl rfl rfl rfl rfl ?_
  refine jT.getR 19 127 27 ty o rfl kp0 (by decide) rfl rfl rfl (fun kb => ?_)
  refine jT.getI 27 7 o rfl kb (by decide) rfl rfl rfl (fun z (a : tm ≤ z) (b : z ≤ tm) f => ?_)
  refine mj_T.pl rfl rfl rfl rfl ?_
  refine mj_T.iadd rfl ?_
  refine mj_T.pl rfl rfl rfl rfl ?_
  refine jT.icmp rfl ⟨by omega, by omega⟩ ⟨by decide, by decide⟩ (fun c => ?_) (fun c => ?_)
  rotate_left
  · have c := of_decide_eq_false c
    exact mj_T.throws rfl rfl rfl (Nat.le_of_ble_eq_true rfl) (Or.inl ⟨by omega, rfl, o.app hg⟩)
  have c := of_decide_eq_true c
  refine mj_T.pl rfl rfl rfl rfl ?_
  refine jT.getR 19 127 27 ty o rfl kp0 (by decide) rfl rfl rfl (fun _ => ?_)
  refine mj_T.pl rfl rfl rfl rfl ?_
  refine mj_T.call rfl rfl (Nat.le_of_ble_eq_true rfl) (Nat.le_of_ble_eq_true rfl) (jrv_of o kb (by decide) rfl (by decide) rfl _) rfl (jc_81b (D := D) (x := x1) ty o kb (by omega)) (fun v h' hq => ?_) (fun i h' hq => by obtain ⟨_, hq, _⟩ := hq; cases hq)
  obtain ⟨h1, hq, o1⟩ := hq
  cases hq
  refine mj_T.pl rfl rfl rfl rfl ?_
  refine jT.getR 19 127 27 ty o1 rfl kp0 (by decide) rfl rfl rfl (fun _ => ?_)
  refine mj_T.pl rfl rfl rfl rfl ?_
  refine mj_T.call rfl rfl (Nat.le_of_ble_eq_true rfl) (Nat.le_of_ble_eq_true rfl) (jrv_of o1 kb (by decide) rfl (by decide) rfl _) rfl (jc_81b (D := D) (x := x2) ty o1 kb (by omega)) (fun v h' hq => ?_) (fun i h' hq => by obtain ⟨_, hq, _⟩ := hq; cases hq)
  obtain ⟨h2, hq, o2⟩ := hq
  cases hq
  refine mj_T.pl rfl rfl rfl rfl ?_
  refine jT.getR 19 127 27 ty o2 rfl kp0 (by decide) rfl rfl rfl (fun _ => ?_)
  refine mj_T.pl rfl rfl rfl rfl ?_
  refine mj_T.call rfl rfl (Nat.le_of_ble_eq_true rfl) (Nat.le_of_ble_eq_true rfl) (jrv_of o2 kb (by decide) rfl (by decide) rfl _) rfl (jc_81b (D := D) (x := x3) ty o2 kb (by omega)) (fun v h' hq => ?_) (fun i h' hq => by obtain ⟨_, hq, _⟩ := hq; cases hq)
  obtain ⟨h3, hq, o3⟩ := hq
  cases hq
  refine mj_T.pl rfl rfl rfl rfl ?_
  refine jT.getR 19 127 27 ty o3 rfl kp0 (by decide) rfl rfl rfl (fun _ => ?_)
  refine mj_T.pl rfl rfl rfl rfl ?_
  refine mj_T.call rfl rfl (Nat.le_of_ble_eq_true rfl) (Nat.le_of_ble_eq_true rfl) (jrv_of o3 kb (by decide) rfl (by decide) rfl _) rfl (jc_81b (D := D) (x := x4) ty o3 kb (by omega)) (fun v h' hq => ?_) (fun i h' hq => by obtain ⟨_, hq, _⟩ := hq; cases hq)
  obtain ⟨h4, hq, o4⟩ := hq
  cases hq
  refine mj_T.pl rfl rfl rfl rfl ?_
  refine jT.getR 19 127 27 ty o4 rfl kp0 (by decide) rfl rfl rfl (fun _ => ?_)
  refine mj_T.pl rfl rfl rfl rfl ?_
  refine mj_T.call rfl rfl (Nat.le_of_ble_eq_true rfl) (Nat.le_of_ble_eq_true rfl) (jrv_of o4 kb (by decide) rfl (by decide) rfl _) rfl (jc_81b (D := D) (x := x5) ty o4 kb (by omega)) (fun v h' hq => ?_) (fun i h' hq => by obtain ⟨_, hq, _⟩ := hq; cases hq)
  obtain ⟨h5, hq, o5⟩ := hq
  cases hq
  have et : tm + (mq_nby x1 : Int) + (mq_nby x2 : Int) + (mq_nby x3 : Int) + (mq_nby x4 : Int) + (mq_nby x5 : Int) = tm + (N : Int) := by omega
  rw [et] at o5
  refine mj_T.pl rfl rfl rfl rfl ?_
  refine jT.getR 19 127 27 ty o5 rfl kp0 (by decide) rfl rfl rfl (fun _ => ?_)
  refine jT.getI 27 7 o5 rfl kb (by decide) rfl rfl rfl (fun y (a2 : tm + (N : Int) ≤ y) (b2 : y ≤ tm + (N : Int)) f2 => ?_)
  have ey : y = tm + (N : Int) := by omega
  subst ey
  exact mj_T.ret rfl rfl rfl (Or.inr ⟨by omega, rfl, o5⟩)
theorem jc_142 {D p0 : Nat} (ty : jTY K L R) (o : jO K L R g n tm h) (kp0 : K p0 = 19) : mj_Ok (D + 1) 142 [.ref p0] h (fun r => r.1 = .inl (some (.int (jn tm))) ∧ jO K L R g n 0 r.2) := by
  have ht := o.2.1
  refine mj_Ok.of (M := mj_m142) (loc := [some (.ref p0), none]) rfl rfl rfl ?_
  refine mj_T.pl rfl rfl rfl rfl ?_
  refine jT.getR 19 127 27 ty o rfl kp0 (by decide) rfl rfl rfl (fun kb => ?_)
  refine jT.getI 27 7 o rfl kb (by decide) rfl rfl rfl (fun z (a : tm ≤ z) (b : z ≤ tm) f => ?_)
  have ez : z = tm := by omega
  subst ez
  refine mj_T.pl (loc' := [some (.ref p0), some (.int (jn z))]) rfl rfl rfl rfl ?_
  refine mj_T.pl rfl rfl rfl rfl ?_
  refine jT.getR 19 127 27 ty o rfl kp0 (by decide) rfl rfl rfl (fun _ => ?_)
  refine mj_T.pl rfl rfl rfl rfl ?_
  refine jT.putB (x := 0) (fun b hb => ty.2.2.2.2.2.2.1 b _ hb kb) o rfl kb ⟨by decide, by decide⟩ (fun h9 o9 _ _ => ?_)
  refine mj_T.pl rfl rfl rfl rfl ?_
  exact mj_T.ret rfl rfl rfl ⟨rfl, o9⟩
/-- rowOf: which ints are registers -/
theorem jc_149e {D p0 : Nat} {p1 : Int} (ty : jTY K L R) (hg : g.length ≤ n) (o : jO K L R g n tm h) (kp0 : K p0 = 19) (rp1 : -2147483648 ≤ p1 ∧ p1 ≤ 2147483647) : mj_Ok (D + 1) 149 [.ref p0, .int (jn p1)] h (fun r => (¬ (0 ≤ p1 ∧ p1 ≤ 5) ∧ r.1 = .inr 0 ∧ jO K L R g (n + 1) tm r.2) ∨ ((0 ≤ p1 ∧ p1 ≤ 5) ∧ ∃ a, r.1 = .inl (some (.ref a)) ∧ r.2 = h)) := by
  refine mj_Ok.of (M := mj_m149) (loc := [some (.ref p0), some (.int (jn p1))]) rfl rfl rfl ?_
  refine mj_T.pl rfl rfl rfl rfl ?_
  refine jT.if0 rfl rp1 (fun c => ?_) (fun c => ?_)
  · have c := of_decide_eq_true c
    exact mj_T.throws rfl rfl rfl (Nat.le_of_ble_eq_true rfl) (Or.inl ⟨by omega, rfl, o.app hg⟩)
  · have c := of_decide_eq_false c
    iterate 2 refine mj_T.pl rfl rfl rfl rfl ?_
    refine jT.getR 19 110 10 ty o rfl kp0 (by decide) rfl rfl rfl (fun kb => ?_)
    refine jT.getR 10 106 6 ty o rfl kb (by decide) rfl rfl rfl (fun kr => ?_)
    refine jT.alen 6 ty o rfl kr (by decide) (by decide) (fun z e _ _ => ?_)
    have e6 := ty.2.2.2.2.2.2.2 _ kb
    refine jT.icmp rfl rp1 ⟨by omega, by omega⟩ (fun c2 => ?_) (fun c2 => ?_)
    · have c2 := of_decide_eq_true c2
      refine mj_T.pl rfl rfl rfl rfl ?_
      refine jT.getR 19 110 10 ty o rfl kp0 (by decide) rfl rfl rfl (fun _ => ?_)
      refine jT.getR 10 106 6 ty o rfl kb (by decide) rfl rfl rfl (fun _ => ?_)
      refine mj_T.pl rfl rfl rfl rfl ?_
      refine jT.aald 6 2 ty o rfl kr (by decide) (by decide) rfl rp1 ⟨by omega, by omega⟩ (fun _ => ?_)
      exact mj_T.ret rfl rfl rfl (Or.inr ⟨by omega, _, rfl, rfl⟩)
    · have c2 := of_decide_eq_false c2
      exact mj_T.throws rfl rfl rfl (Nat.le_of_ble_eq_true rfl) (Or.inl ⟨by omega, rfl, o.app hg⟩)
/-- read: no register, and nothing is changed; else the text is taken -/
theorem jc_114 {D p0 : Nat} {p1 : Int} (ty : jTY K L R) (hg : g.length ≤ n) (o : jO K L R g n tm h) (kp0 : K p0 = 19) (rp1 : -2147483648 ≤ p1 ∧ p1 ≤ 2147483647) : mj_Ok (D + 56) 114 [.ref p0, .int (jn p1)] h (fun r => (¬ (0 ≤ p1 ∧ p1 ≤ 5) ∧ r.1 = .inr 0 ∧ jO K L R g (n + 1) tm r.2) ∨ ((0 ≤ p1 ∧ p1 ≤ 5) ∧ ((∃ z : Int, r.1 = .inl (some (.int (jn z))) ∧ jO K L R g n 0 r.2) ∨ (∃ i, i ∈ [0, 2, 1] ∧ r.1 = .inr i ∧ jO K L R g (n + 1) 0 r.2)))) := by
  refine mj_Ok.of (M := mj_m114) (loc := [some (.ref p0), some (.int (jn p1)), none]) rfl rfl rfl ?_
  iterate 2 refine mj_T.pl rfl rfl rfl rfl ?_
  refine mj_T.call rfl rfl (Nat.le_of_ble_eq_true rfl) (Nat.le_of_ble_eq_true rfl) (jrv_of o kp0 (by decide) rfl (by decide) rfl _) rfl (mj_Ok.up (by omega) (jc_149e (D := D) ty hg o kp0 rp1)) (fun v h1 hq => ?_) (fun i h1 hq => ?_)
  rotate_left
  · rcases hq with ⟨q1, q2, q3⟩ | ⟨_, _, q2, _⟩
    · cases q2
      exact Or.inl ⟨rfl, Or.inl ⟨q1, rfl, q3⟩⟩
    · cases q2
  rcases hq with ⟨_, q2, _⟩ | ⟨hp, a, q2, q3⟩
  · cases q2
  cases q2
  have q3 : h1 = h := q3
  subst q3
  refine mj_T.pl rfl rfl rfl rfl ?_
  refine mj_T.pl rfl rfl rfl rfl ?_
  refine jT.getR 19 114 14 ty o rfl kp0 (by decide) rfl rfl rfl (fun kr => ?_)
  refine mj_T.pl rfl rfl rfl rfl ?_
  refine jT.getR 19 127 27 ty o rfl kp0 (by decide) rfl rfl rfl (fun kb => ?_)
  refine mj_T.call rfl rfl (Nat.le_of_ble_eq_true rfl) (Nat.le_of_ble_eq_true rfl) (jrv_of o kr (by decide) rfl (by decide) rfl _) rfl (mj_Ok.up (by omega) (jc_46 (D := D) ty hg o kr (Or.inr kb))) (fun v h2 hq => ?_) (fun i h2 hq => by exact absurd hq.1 (by simp))
  obtain ⟨⟨z, z0, z1, rfl⟩, o2⟩ := hq
  refine mj_T.pl (loc' := [some (.ref p0), some (.int (jn p1)), some (.int (jn z))]) rfl rfl rfl rfl ?_
  refine mj_T.pl rfl rfl rfl rfl ?_
  refine jT.getR 19 127 27 ty o2 rfl kp0 (by decide) rfl rfl rfl (fun _ => ?_)
  refine mj_T.pl rfl rfl rfl rfl ?_
  refine jT.putB (x := 0) (fun b hb => ty.2.2.2.2.2.2.1 b _ hb kb) o2 rfl kb ⟨by decide, by decide⟩ (fun h3 o3 _ _ => ?_)
  iterate 2 refine mj_T.pl rfl rfl rfl rfl ?_
  refine jT.getR 19 114 14 ty o3 rfl kp0 (by decide) rfl rfl rfl (fun _ => ?_)
  refine jT.getI 14 0 o3 rfl kr (by decide) rfl rfl rfl (fun e (e0 : -2147483648 ≤ e) (e1 : e ≤ 2147483647) _ => ?_)
  refine jT.putI 19 0 o3 rfl kp0 (by decide) rfl rfl rfl (Or.inl rfl) (by show -2147483648 ≤ e; omega) (by show e ≤ 2147483647; omega) (fun h4 o4 _ _ => ?_)
  refine mj_T.pl rfl rfl rfl rfl ?_
  refine jT.if0 rfl ⟨by omega, by omega⟩ (fun _ => ?_) (fun _ => ?_)
  rotate_left
  · exact mj_T.throws rfl rfl rfl (Nat.le_of_ble_eq_true rfl) (Or.inr ⟨hp, Or.inr ⟨_, by simp, rfl, o4.app hg⟩⟩)
  refine mj_T.pl rfl rfl rfl rfl ?_
  refine jT.getR 19 114 14 ty o4 rfl kp0 (by decide) rfl rfl rfl (fun _ => ?_)
  refine jT.getI 14 2 o4 rfl kr (by decide) rfl rfl rfl (fun t (t0 : 0 ≤ t) (t1 : t ≤ 1) _ => ?_)
  refine jT.if0 rfl ⟨by omega, by omega⟩ (fun _ => ?_) (fun _ => ?_)
  rotate_left
  · exact mj_T.throws rfl rfl rfl (Nat.le_of_ble_eq_true rfl) (Or.inr ⟨hp, Or.inr ⟨_, by simp, rfl, o4.app hg⟩⟩)
  refine mj_T.pl rfl rfl rfl rfl ?_
  refine jT.getR 19 114 14 ty o4 rfl kp0 (by decide) rfl rfl rfl (fun _ => ?_)
  refine mj_T.call rfl rfl (Nat.le_of_ble_eq_true rfl) (Nat.le_of_ble_eq_true rfl) (jrv_of o4 kr (by decide) rfl (by decide) rfl _) rfl (mj_Ok.up (by omega) (jc_47 (D := D) ty hg o4 kr)) (fun v h5 hq => ?_) (fun i h2 hq => by exact absurd hq.1 (by simp))
  obtain ⟨⟨b5, k5, rfl⟩, q5⟩ := hq
  have q5 : h5 = h4 := q5
  subst q5
  refine mj_T.pl rfl rfl rfl rfl ?_
  refine jT.getR 19 102 2 ty o4 rfl kp0 (by decide) rfl rfl rfl (fun k6 => ?_)
  refine mj_T.call rfl rfl (Nat.le_of_ble_eq_true rfl) (Nat.le_of_ble_eq_true rfl) rfl rfl (mj_Ok.up (by omega) (jc_164 (D := D) ty hg o4 k5 k6)) (fun v h6 hq => ?_) (fun i h2 hq => by exact absurd hq.1 (by simp))
  obtain ⟨q6, o6⟩ := hq
  have q6 : v = none := q6
  subst q6
  iterate 2 refine mj_T.pl rfl rfl rfl rfl ?_
  refine mj_T.call rfl rfl (Nat.le_of_ble_eq_true rfl) (Nat.le_of_ble_eq_true rfl) (jrv_of o6 kp0 (by decide) rfl (by decide) rfl _) rfl (mj_Ok.up (by omega) (jc_154 (D := D) ty hg o6 kp0 rp1)) (fun v h7 hq => ?_) (fun i h7 hq => Or.inl ⟨rfl, Or.inr ⟨hp, Or.inr ⟨i, jsub (A := [0]) rfl hq.1, rfl, hq.2⟩⟩⟩)
  obtain ⟨⟨z7, _, _, rfl⟩, o7⟩ := hq
  exact mj_T.ret rfl rfl rfl (Or.inr ⟨hp, Or.inl ⟨z7, rfl, o7⟩⟩)
end JBV
