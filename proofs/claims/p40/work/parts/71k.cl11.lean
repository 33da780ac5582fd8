/-! The class by kinds: its methods. -/
-- PolyRegisters$Text.at(I)I
theorem jc_79 {D n : Nat} {tm : Int} {h g : mj_H} {K L : Nat → Nat} {R : Nat → Nat → Nat} {p0 : Nat} {p1 : Int} (ty : jTY K L R) (hg : g.length ≤ n) (o : jO K L R g n tm h) (kp0 : K p0 = 17 ∨ K p0 = 27) (rp1 : -2147483648 ≤ p1 ∧ p1 ≤ 2147483647) : mj_Ok (D + 1) 79 [.ref p0, .int (jn p1)] h (jQp K L R g n tm h [] (jVi (-2147483648) 2147483647)) := by
  refine mj_Ok.of (M := mj_m79) (loc := [some (.ref p0), some (.int (jn p1))]) rfl rfl rfl ?_
  refine mj_T.pl rfl rfl rfl rfl ?_
  refine jT.if0 rfl rp1 (fun c1 => ?_) (fun c1 => ?_)
  · have c1 := of_decide_eq_true c1
    refine mj_T.pl rfl rfl rfl rfl ?_
    exact jT.retp rfl rfl rfl ⟨(-1), by omega, by omega, rfl⟩
  · have c1 := of_decide_eq_false c1
    iterate 2 refine mj_T.pl rfl rfl rfl rfl ?_
    refine jT.getE o rfl kp0 (fun z1 (az1 : 0 ≤ z1) (bz1 : z1 ≤ 340) fz1 => ?_)
    have rz1 : -2147483648 ≤ z1 ∧ z1 ≤ 2147483647 := ⟨by omega, by omega⟩
    refine jT.icmp rfl rp1 rz1 (fun c9 => ?_) (fun c9 => ?_)
    · have c9 := of_decide_eq_true c9
      refine mj_T.pl rfl rfl rfl rfl ?_
      exact jT.retp rfl rfl rfl ⟨(-1), by omega, by omega, rfl⟩
    · have c9 := of_decide_eq_false c9
      iterate 2 refine mj_T.pl rfl rfl rfl rfl ?_
      refine jT.getRE ty o rfl kp0 (fun k2 => ?_)
      refine jT.alen 3 ty o rfl k2 (by decide) (by decide) (fun z3 ez3 (az3 : 0 ≤ z3) (bz3 : z3 ≤ 1000) => ?_)
      have rz3 : -2147483648 ≤ z3 ∧ z3 ≤ 2147483647 := ⟨by omega, by omega⟩
      refine jT.icmp rfl rp1 rz3 (fun c18 => ?_) (fun c18 => ?_)
      · have c18 := of_decide_eq_true c18
        refine mj_T.pl rfl rfl rfl rfl ?_
        exact jT.retp rfl rfl rfl ⟨(-1), by omega, by omega, rfl⟩
      · have c18 := of_decide_eq_false c18
        refine mj_T.pl rfl rfl rfl rfl ?_
        refine jT.getRE ty o rfl kp0 (fun k4 => ?_)
        refine mj_T.pl rfl rfl rfl rfl ?_
        refine jT.bald o rfl k4 rp1 ⟨by omega, by omega⟩ (fun z5 rz5 fz5 => ?_)
        refine mj_T.pl rfl rfl rfl rfl ?_
        refine mj_T.pl rfl rfl rfl rfl ?_
        refine jT.anyI (fun z6 rz6 => ?_)
        refine mj_T.pl rfl rfl rfl rfl ?_
        exact jT.retp rfl rfl rfl ⟨z6, by omega, by omega, rfl⟩
-- PolyRegisters$Text.put(I)V
theorem jc_80 {D n : Nat} {tm : Int} {h g : mj_H} {K L : Nat → Nat} {R : Nat → Nat → Nat} {p0 : Nat} {p1 : Int} (ty : jTY K L R) (hg : g.length ≤ n) (o : jO K L R g n tm h) (kp0 : K p0 = 17) (rp1 : -2147483648 ≤ p1 ∧ p1 ≤ 2147483647) : mj_Ok (D + 1) 80 [.ref p0, .int (jn p1)] h (jQ K L R g n tm [] jV0) := by
  refine mj_Ok.of (M := mj_m80) (loc := [some (.ref p0), some (.int (jn p1))]) rfl rfl rfl ?_
  refine mj_T.pl rfl rfl rfl rfl ?_
  refine jT.getI 17 5 o rfl kp0 (by decide) rfl rfl rfl (fun z1 (az1 : 0 ≤ z1) (bz1 : z1 ≤ 340) fz1 => ?_)
  have rz1 : -2147483648 ≤ z1 ∧ z1 ≤ 2147483647 := ⟨by omega, by omega⟩
  refine jT.if0 rfl rz1 (fun c4 => ?_) (fun c4 => ?_)
  · have c4 := of_decide_eq_true c4
    exact jT.ret o rfl rfl rfl rfl
  · have c4 := of_decide_eq_false c4
    refine mj_T.pl rfl rfl rfl rfl ?_
    refine jT.getK 17 5 o rfl kp0 (by decide) rfl rfl rfl fz1.symm ?_
    refine mj_T.pl rfl rfl rfl rfl ?_
    refine jT.getR 17 103 3 ty o rfl kp0 (by decide) rfl rfl rfl (fun k2 => ?_)
    have lk2 : L (R p0 0) = 340 := ty.2.2.2.2.2.1 p0 kp0
    refine jT.alen 3 ty o rfl k2 (by decide) (by decide) (fun z3 ez3 (az3 : 0 ≤ z3) (bz3 : z3 ≤ 1000) => ?_)
    have rz3 : -2147483648 ≤ z3 ∧ z3 ≤ 2147483647 := ⟨by omega, by omega⟩
    refine jT.icmp rfl rz1 rz3 (fun c16 => ?_) (fun c16 => ?_)
    · have c16 := of_decide_eq_true c16
      exact jT.ret o rfl rfl rfl rfl
    · have c16 := of_decide_eq_false c16
      refine mj_T.pl rfl rfl rfl rfl ?_
      refine jT.getR 17 103 3 ty o rfl kp0 (by decide) rfl rfl rfl (fun k4 => ?_)
      refine mj_T.pl rfl rfl rfl rfl ?_
      refine jT.getK 17 5 o rfl kp0 (by decide) rfl rfl rfl fz1.symm ?_
      refine mj_T.pl rfl rfl rfl rfl ?_
      refine mj_T.pl rfl rfl rfl rfl ?_
      refine jT.anyI (fun z5 rz5 => ?_)
      refine jT.bast o rfl k4 rz1 ⟨by omega, by omega⟩ (fun h6 oh6 uh6 => ?_)
      iterate 2 refine mj_T.pl rfl rfl rfl rfl ?_
      refine jT.getK 17 5 oh6 rfl kp0 (by decide) rfl rfl rfl ((uh6 p0 1).trans fz1.symm) ?_
      refine mj_T.pl rfl rfl rfl rfl ?_
      refine jT.iadd rfl (fun z7 rz7 ez7 => ?_)
      replace ez7 := ez7 ⟨by omega, by omega⟩
      refine jT.putI 17 5 oh6 rfl kp0 (by decide) rfl rfl rfl (Or.inl rfl) (by show 0 ≤ z7; omega) (by show z7 ≤ 340; omega) (fun h8 oh8 wh8 uh8 => ?_)
      exact jT.ret oh8 rfl rfl rfl rfl
-- PolyRegisters$Text.putNumber(J)V
theorem jc_84 {D n : Nat} {tm : Int} {h g : mj_H} {K L : Nat → Nat} {R : Nat → Nat → Nat} {p0 : Nat} {p1 : Int} (ty : jTY K L R) (hg : g.length ≤ n) (o : jO K L R g n tm h) (kp0 : K p0 = 17) (jp1 : jR p1) : mj_Ok (D + 2) 84 [.ref p0, .long (jl p1)] h (jQ K L R g n tm [] jV0) := by
  refine mj_Ok.of (M := mj_m84) (loc := [some (.ref p0), some (.long (jl p1)), none, none, none, none]) rfl rfl rfl ?_
  refine jT.lc 1 rfl rfl ?_
  refine mj_T.pl (loc' := [some (.ref p0), some (.long (jl p1)), none, some (.long (jl ((1 : Nat) : Int))), none, none]) rfl rfl rfl rfl ?_
  refine mj_T.pl rfl rfl rfl rfl ?_
  refine mj_T.pl (loc' := [some (.ref p0), some (.long (jl p1)), none, some (.long (jl ((1 : Nat) : Int))), none, some (.int (jn 0))]) rfl rfl rfl rfl ?_
  have t5_4 : ∀ (k5 : Nat) (y1 : Int) (x2 : Int), (jR y1) → (-2147483648 ≤ x2 ∧ x2 ≤ 2147483647) → (0 ≤ x2) → (jPW x2 y1) → (2147483647 - x2 : Int).toNat = k5 → mj_T (D + 1) mj_m84 5 [some (.ref p0), some (.long (jl p1)), none, some (.long (jl y1)), none, some (.int (jn x2))] [] h (jQ K L R g n tm [] jV0) := by
    refine jInd (fun k5 ih6 => ?_)
    intro y1 x2 jy1 rx2 ix2 i3 hm7
    have pwi3 := jPW.b i3
    refine mj_T.pl rfl rfl rfl rfl ?_
    refine mj_T.pl rfl rfl rfl rfl ?_
    refine jT.icmp rfl rx2 ⟨by decide, by decide⟩ (fun c9 => ?_) (fun c9 => ?_)
    · have c9 := of_decide_eq_true c9
      refine mj_T.pl rfl rfl rfl rfl ?_
      refine mj_T.pl (loc' := [some (.ref p0), some (.long (jl p1)), none, some (.long (jl y1)), none, some (.int (jn 0))]) rfl rfl rfl rfl ?_
      have t37_11 : ∀ (k12 : Nat) (y8 : Int) (x9 : Int) (h10 : mj_H), (jR y8) → (-2147483648 ≤ x9 ∧ x9 ≤ 2147483647) → (jO K L R g n tm h10) → (0 ≤ x9) → (2147483647 - x9 : Int).toNat = k12 → mj_T (D + 1) mj_m84 37 [some (.ref p0), some (.long (jl p1)), none, some (.long (jl y8)), none, some (.int (jn x9))] [] h10 (jQ K L R g n tm [] jV0) := by
        refine jInd (fun k12 ih13 => ?_)
        intro y8 x9 h10 jy8 rx9 oh10 ix9 hm14
        refine mj_T.pl rfl rfl rfl rfl ?_
        refine mj_T.pl rfl rfl rfl rfl ?_
        refine jT.icmp rfl rx9 ⟨by decide, by decide⟩ (fun c41 => ?_) (fun c41 => ?_)
        · have c41 := of_decide_eq_true c41
          exact jT.ret oh10 rfl rfl rfl rfl
        · have c41 := of_decide_eq_false c41
          refine mj_T.pl rfl rfl rfl rfl ?_
          refine jT.lc 0 rfl rfl ?_
          refine mj_T.lif rfl rfl jy8 ⟨by decide, by decide⟩ (fun c46 => ?_) (fun c46 => ?_)
          · have c46 := of_decide_eq_true c46
            exact jT.ret oh10 rfl rfl rfl rfl
          · have c46 := of_decide_eq_false c46
            refine mj_T.pl rfl rfl rfl rfl ?_
            refine jT.ldcL rfl ?_
            iterate 2 refine mj_T.pl rfl rfl rfl rfl ?_
            refine jT.ldiv rfl jy8 (by omega) (fun z15 jz15 => ?_)
            refine jT.ldcL rfl ?_
            refine jT.lrem rfl ⟨by decide, by decide⟩ (by decide) (fun z16 jz16 => ?_)
            refine jT.ladd rfl (fun z17 jz17 _ => ?_)
            refine jT.l2i rfl (fun z18 rz18 _ => ?_)
            refine jT.call rfl rfl (Nat.le_of_ble_eq_true rfl) (Nat.le_of_ble_eq_true rfl) (jrv_of oh10 kp0 (by decide) rfl (by decide) rfl _) rfl (mj_Ok.up (Nat.add_le_add_left (by decide) D) (jc_80 (D := D) ty hg oh10 kp0 rz18)) rfl rfl (fun v19 h20 qv19 oh20 => ?_)
            obtain rfl : v19 = none := qv19
            refine mj_T.eq (pc2 := 66) (st2 := []) ?_ rfl rfl rfl rfl
            refine mj_T.pl rfl rfl rfl rfl ?_
            refine jT.ldcL rfl ?_
            refine jT.ldiv rfl ⟨by decide, by decide⟩ (by decide) (fun z21 jz21 => ?_)
            refine mj_T.pl (loc' := [some (.ref p0), some (.long (jl p1)), none, some (.long (jl z21)), none, some (.int (jn x9))]) rfl rfl rfl rfl ?_
            refine jT.iinc rfl rfl (fun z22 rz22 ez22 => ?_)
            replace ez22 := ez22 ⟨by omega, by omega⟩
            refine mj_T.eq (loc2 := [some (.ref p0), some (.long (jl p1)), none, some (.long (jl z21)), none, some (.int (jn z22))]) ?_ rfl rfl rfl rfl
            refine mj_T.pl rfl rfl rfl rfl ?_
            exact ih13 ((2147483647 - z22 : Int).toNat) (by omega) z21 z22 h20 jz21 rz22 oh20 (by omega) rfl
      exact t37_11 _ y1 0 h jy1 ⟨by decide, by decide⟩ o (by omega) rfl
    · have c9 := of_decide_eq_false c9
      iterate 2 refine mj_T.pl rfl rfl rfl rfl ?_
      refine jT.ldiv rfl jy1 (by omega) (fun z23 jz23 => ?_)
      refine jT.ldcL rfl ?_
      refine mj_T.lif rfl rfl jz23 ⟨by decide, by decide⟩ (fun c18 => ?_) (fun c18 => ?_)
      · have c18 := of_decide_eq_true c18
        refine mj_T.pl rfl rfl rfl rfl ?_
        refine mj_T.pl (loc' := [some (.ref p0), some (.long (jl p1)), none, some (.long (jl y1)), none, some (.int (jn 0))]) rfl rfl rfl rfl ?_
        have t37_27 : ∀ (k28 : Nat) (y24 : Int) (x25 : Int) (h26 : mj_H), (jR y24) → (-2147483648 ≤ x25 ∧ x25 ≤ 2147483647) → (jO K L R g n tm h26) → (0 ≤ x25) → (2147483647 - x25 : Int).toNat = k28 → mj_T (D + 1) mj_m84 37 [some (.ref p0), some (.long (jl p1)), none, some (.long (jl y24)), none, some (.int (jn x25))] [] h26 (jQ K L R g n tm [] jV0) := by
          refine jInd (fun k28 ih29 => ?_)
          intro y24 x25 h26 jy24 rx25 oh26 ix25 hm30
          refine mj_T.pl rfl rfl rfl rfl ?_
          refine mj_T.pl rfl rfl rfl rfl ?_
          refine jT.icmp rfl rx25 ⟨by decide, by decide⟩ (fun c41 => ?_) (fun c41 => ?_)
          · have c41 := of_decide_eq_true c41
            exact jT.ret oh26 rfl rfl rfl rfl
          · have c41 := of_decide_eq_false c41
            refine mj_T.pl rfl rfl rfl rfl ?_
            refine jT.lc 0 rfl rfl ?_
            refine mj_T.lif rfl rfl jy24 ⟨by decide, by decide⟩ (fun c46 => ?_) (fun c46 => ?_)
            · have c46 := of_decide_eq_true c46
              exact jT.ret oh26 rfl rfl rfl rfl
            · have c46 := of_decide_eq_false c46
              refine mj_T.pl rfl rfl rfl rfl ?_
              refine jT.ldcL rfl ?_
              iterate 2 refine mj_T.pl rfl rfl rfl rfl ?_
              refine jT.ldiv rfl jy24 (by omega) (fun z31 jz31 => ?_)
              refine jT.ldcL rfl ?_
              refine jT.lrem rfl ⟨by decide, by decide⟩ (by decide) (fun z32 jz32 => ?_)
              refine jT.ladd rfl (fun z33 jz33 _ => ?_)
              refine jT.l2i rfl (fun z34 rz34 _ => ?_)
              refine jT.call rfl rfl (Nat.le_of_ble_eq_true rfl) (Nat.le_of_ble_eq_true rfl) (jrv_of oh26 kp0 (by decide) rfl (by decide) rfl _) rfl (mj_Ok.up (Nat.add_le_add_left (by decide) D) (jc_80 (D := D) ty hg oh26 kp0 rz34)) rfl rfl (fun v35 h36 qv35 oh36 => ?_)
              obtain rfl : v35 = none := qv35
              refine mj_T.eq (pc2 := 66) (st2 := []) ?_ rfl rfl rfl rfl
              refine mj_T.pl rfl rfl rfl rfl ?_
              refine jT.ldcL rfl ?_
              refine jT.ldiv rfl ⟨by decide, by decide⟩ (by decide) (fun z37 jz37 => ?_)
              refine mj_T.pl (loc' := [some (.ref p0), some (.long (jl p1)), none, some (.long (jl z37)), none, some (.int (jn x25))]) rfl rfl rfl rfl ?_
              refine jT.iinc rfl rfl (fun z38 rz38 ez38 => ?_)
              replace ez38 := ez38 ⟨by omega, by omega⟩
              refine mj_T.eq (loc2 := [some (.ref p0), some (.long (jl p1)), none, some (.long (jl z37)), none, some (.int (jn z38))]) ?_ rfl rfl rfl rfl
              refine mj_T.pl rfl rfl rfl rfl ?_
              exact ih29 ((2147483647 - z38 : Int).toNat) (by omega) z37 z38 h36 jz37 rz38 oh36 (by omega) rfl
        exact t37_27 _ y1 0 h jy1 ⟨by decide, by decide⟩ o (by omega) rfl
      · have c18 := of_decide_eq_false c18
        refine mj_T.pl rfl rfl rfl rfl ?_
        refine jT.ldcL rfl ?_
        refine jT.lmul rfl (fun z39 jz39 ez39 => ?_)
        replace ez39 := ez39 ⟨by omega, by omega⟩
        refine mj_T.pl (loc' := [some (.ref p0), some (.long (jl p1)), none, some (.long (jl z39)), none, some (.int (jn x2))]) rfl rfl rfl rfl ?_
        refine jT.iinc rfl rfl (fun z40 rz40 ez40 => ?_)
        replace ez40 := ez40 ⟨by omega, by omega⟩
        refine mj_T.eq (loc2 := [some (.ref p0), some (.long (jl p1)), none, some (.long (jl z39)), none, some (.int (jn z40))]) ?_ rfl rfl rfl rfl
        refine mj_T.pl rfl rfl rfl rfl ?_
        exact ih6 ((2147483647 - z40 : Int).toNat) (by omega) z39 z40 jz39 rz40 (by omega) (jPW.s i3 (by omega) (by omega) (by omega)) rfl
  exact t5_4 _ ((1 : Nat) : Int) 0 ⟨by decide, by decide⟩ ⟨by decide, by decide⟩ (by omega) ⟨0, rfl, by decide, rfl⟩ rfl
-- PolyRegisters$Text.putTerm(JI)V
theorem jc_83 {D n : Nat} {tm : Int} {h g : mj_H} {K L : Nat → Nat} {R : Nat → Nat → Nat} {p0 : Nat} {p1 : Int} {p2 : Int} (ty : jTY K L R) (hg : g.length ≤ n) (o : jO K L R g n tm h) (kp0 : K p0 = 17) (jp1 : jR p1) (rp2 : -2147483648 ≤ p2 ∧ p2 ≤ 2147483647) : mj_Ok (D + 3) 83 [.ref p0, .long (jl p1), .int (jn p2)] h (jQ K L R g n tm [] jV0) := by
  refine mj_Ok.of (M := mj_m83) (loc := [some (.ref p0), some (.long (jl p1)), none, some (.int (jn p2)), none, none, none]) rfl rfl rfl ?_
  refine mj_T.pl rfl rfl rfl rfl ?_
  refine jT.getI 17 5 o rfl kp0 (by decide) rfl rfl rfl (fun z1 (az1 : 0 ≤ z1) (bz1 : z1 ≤ 340) fz1 => ?_)
  have rz1 : -2147483648 ≤ z1 ∧ z1 ≤ 2147483647 := ⟨by omega, by omega⟩
  have t12_3 : ∀ (x2 : Int), (0 ≤ x2 ∧ x2 ≤ 1) → mj_T (D + 2) mj_m83 12 [some (.ref p0), some (.long (jl p1)), none, some (.int (jn p2)), none, none, none] [.int (jn x2)] h (jQ K L R g n tm [] jV0) := by
    intro x2 ax2
    have rx2 : -2147483648 ≤ x2 ∧ x2 ≤ 2147483647 := ⟨by omega, by omega⟩
    refine mj_T.pl (loc' := [some (.ref p0), some (.long (jl p1)), none, some (.int (jn p2)), some (.int (jn x2)), none, none]) rfl rfl rfl rfl ?_
    refine mj_T.pl rfl rfl rfl rfl ?_
    have t25_5 : ∀ (h4 : mj_H), (jO K L R g n tm h4) → mj_T (D + 2) mj_m83 25 [some (.ref p0), some (.long (jl p1)), none, some (.int (jn p2)), some (.int (jn x2)), none, none] [] h4 (jQ K L R g n tm [] jV0) := by
      intro h4 oh4
      refine mj_T.pl rfl rfl rfl rfl ?_
      refine jT.lc 0 rfl rfl ?_
      have t51_7 : ∀ (h6 : mj_H), (jO K L R g n tm h6) → mj_T (D + 2) mj_m83 51 [some (.ref p0), some (.long (jl p1)), none, some (.int (jn p2)), some (.int (jn x2)), none, none] [] h6 (jQ K L R g n tm [] jV0) := by
        intro h6 oh6
        refine mj_T.pl rfl rfl rfl rfl ?_
        have t62_9 : ∀ (h8 : mj_H), (jO K L R g n tm h8) → mj_T (D + 2) mj_m83 62 [some (.ref p0), some (.long (jl p1)), none, some (.int (jn p2)), some (.int (jn x2)), none, none] [] h8 (jQ K L R g n tm [] jV0) := by
          intro h8 oh8
          refine mj_T.pl rfl rfl rfl rfl ?_
          refine jT.lc 0 rfl rfl ?_
          have t74_11 : ∀ (y10 : Int), (jR y10) → mj_T (D + 2) mj_m83 74 [some (.ref p0), some (.long (jl p1)), none, some (.int (jn p2)), some (.int (jn x2)), none, none] [.long (jl y10)] h8 (jQ K L R g n tm [] jV0) := by
            intro y10 jy10
            refine mj_T.pl (loc' := [some (.ref p0), some (.long (jl p1)), none, some (.int (jn p2)), some (.int (jn x2)), some (.long (jl y10)), none]) rfl rfl rfl rfl ?_
            refine mj_T.pl rfl rfl rfl rfl ?_
            refine jT.lc 1 rfl rfl ?_
            have t93_13 : ∀ (h12 : mj_H), (jO K L R g n tm h12) → mj_T (D + 2) mj_m83 93 [some (.ref p0), some (.long (jl p1)), none, some (.int (jn p2)), some (.int (jn x2)), some (.long (jl y10)), none] [] h12 (jQ K L R g n tm [] jV0) := by
              intro h12 oh12
              refine mj_T.pl rfl rfl rfl rfl ?_
              refine jT.lc 1 rfl rfl ?_
              have t110_15 : ∀ (h14 : mj_H), (jO K L R g n tm h14) → mj_T (D + 2) mj_m83 110 [some (.ref p0), some (.long (jl p1)), none, some (.int (jn p2)), some (.int (jn x2)), some (.long (jl y10)), none] [] h14 (jQ K L R g n tm [] jV0) := by
                intro h14 oh14
                refine mj_T.pl rfl rfl rfl rfl ?_
                have t120_17 : ∀ (h16 : mj_H), (jO K L R g n tm h16) → mj_T (D + 2) mj_m83 120 [some (.ref p0), some (.long (jl p1)), none, some (.int (jn p2)), some (.int (jn x2)), some (.long (jl y10)), none] [] h16 (jQ K L R g n tm [] jV0) := by
                  intro h16 oh16
                  iterate 2 refine mj_T.pl rfl rfl rfl rfl ?_
                  refine jT.icmp rfl rp2 ⟨by decide, by decide⟩ (fun c122 => ?_) (fun c122 => ?_)
                  · have c122 := of_decide_eq_true c122
                    exact jT.ret oh16 rfl rfl rfl rfl
                  · have c122 := of_decide_eq_false c122
                    iterate 2 refine mj_T.pl rfl rfl rfl rfl ?_
                    refine jT.call rfl rfl (Nat.le_of_ble_eq_true rfl) (Nat.le_of_ble_eq_true rfl) (jrv_of oh16 kp0 (by decide) rfl (by decide) rfl _) rfl (mj_Ok.up (Nat.add_le_add_left (by decide) D) (jc_80 (D := D) ty hg oh16 kp0 ⟨by decide, by decide⟩)) rfl rfl (fun v18 h19 qv18 oh19 => ?_)
                    obtain rfl : v18 = none := qv18
                    refine mj_T.eq (pc2 := 131) (st2 := []) ?_ rfl rfl rfl rfl
                    iterate 2 refine mj_T.pl rfl rfl rfl rfl ?_
                    refine jT.i2l rfl rp2 ?_
                    have j20 : jR p2 := ⟨by omega, by omega⟩
                    refine jT.call rfl rfl (Nat.le_of_ble_eq_true rfl) (Nat.le_of_ble_eq_true rfl) (jrv_of oh19 kp0 (by decide) rfl (by decide) rfl _) rfl (mj_Ok.up (Nat.add_le_add_left (by decide) D) (jc_84 (D := D) ty hg oh19 kp0 j20)) rfl rfl (fun v21 h22 qv21 oh22 => ?_)
                    obtain rfl : v21 = none := qv21
                    refine mj_T.eq (pc2 := 137) (st2 := []) ?_ rfl rfl rfl rfl
                    exact jT.ret oh22 rfl rfl rfl rfl
                refine jT.if0 rfl rp2 (fun c111 => ?_) (fun c111 => ?_)
                · have c111 := of_decide_eq_true c111
                  exact t120_17 h14 oh14
                · have c111 := of_decide_eq_false c111
                  iterate 2 refine mj_T.pl rfl rfl rfl rfl ?_
                  refine jT.call rfl rfl (Nat.le_of_ble_eq_true rfl) (Nat.le_of_ble_eq_true rfl) (jrv_of oh14 kp0 (by decide) rfl (by decide) rfl _) rfl (mj_Ok.up (Nat.add_le_add_left (by decide) D) (jc_80 (D := D) ty hg oh14 kp0 ⟨by decide, by decide⟩)) rfl rfl (fun v23 h24 qv23 oh24 => ?_)
                  obtain rfl : v23 = none := qv23
                  refine mj_T.eq (pc2 := 120) (st2 := []) ?_ rfl rfl rfl rfl
                  exact t120_17 h24 oh24
              refine mj_T.lif rfl rfl jy10 ⟨by decide, by decide⟩ (fun c96 => ?_) (fun c96 => ?_)
              · have c96 := of_decide_eq_true c96
                exact t110_15 h12 oh12
              · have c96 := of_decide_eq_false c96
                refine mj_T.pl rfl rfl rfl rfl ?_
                refine jT.if0 rfl rp2 (fun c101 => ?_) (fun c101 => ?_)
                · have c101 := of_decide_eq_true c101
                  exact t110_15 h12 oh12
                · have c101 := of_decide_eq_false c101
                  iterate 2 refine mj_T.pl rfl rfl rfl rfl ?_
                  refine jT.call rfl rfl (Nat.le_of_ble_eq_true rfl) (Nat.le_of_ble_eq_true rfl) (jrv_of oh12 kp0 (by decide) rfl (by decide) rfl _) rfl (mj_Ok.up (Nat.add_le_add_left (by decide) D) (jc_80 (D := D) ty hg oh12 kp0 ⟨by decide, by decide⟩)) rfl rfl (fun v25 h26 qv25 oh26 => ?_)
                  obtain rfl : v25 = none := qv25
                  refine mj_T.eq (pc2 := 110) (st2 := []) ?_ rfl rfl rfl rfl
                  exact t110_15 h26 oh26
            have t87_27 : mj_T (D + 2) mj_m83 87 [some (.ref p0), some (.long (jl p1)), none, some (.int (jn p2)), some (.int (jn x2)), some (.long (jl y10)), none] [] h8 (jQ K L R g n tm [] jV0) := by
              iterate 2 refine mj_T.pl rfl rfl rfl rfl ?_
              refine jT.call rfl rfl (Nat.le_of_ble_eq_true rfl) (Nat.le_of_ble_eq_true rfl) (jrv_of oh8 kp0 (by decide) rfl (by decide) rfl _) rfl (mj_Ok.up (Nat.add_le_add_left (by decide) D) (jc_84 (D := D) ty hg oh8 kp0 jy10)) rfl rfl (fun v28 h29 qv28 oh29 => ?_)
              obtain rfl : v28 = none := qv28
              refine mj_T.eq (pc2 := 93) (st2 := []) ?_ rfl rfl rfl rfl
              exact t93_13 h29 oh29
            refine mj_T.lif rfl rfl jy10 ⟨by decide, by decide⟩ (fun c79 => ?_) (fun c79 => ?_)
            · have c79 := jne1 c79
              exact t87_27 
            · have c79 := jne2 c79
              refine mj_T.pl rfl rfl rfl rfl ?_
              refine jT.if0 rfl rp2 (fun c84 => ?_) (fun c84 => ?_)
              · have c84 := jne1 c84
                exact t93_13 h8 oh8
              · have c84 := jne2 c84
                exact t87_27 
          refine mj_T.lif rfl rfl jp1 ⟨by decide, by decide⟩ (fun c64 => ?_) (fun c64 => ?_)
          · have c64 := of_decide_eq_true c64
            refine mj_T.pl rfl rfl rfl rfl ?_
            exact t74_11 p1 jp1
          · have c64 := of_decide_eq_false c64
            refine mj_T.pl rfl rfl rfl rfl ?_
            refine jT.lneg rfl (fun z30 jz30 _ => ?_)
            refine mj_T.pl rfl rfl rfl rfl ?_
            exact t74_11 z30 jz30
        refine jT.if0 rfl rx2 (fun c53 => ?_) (fun c53 => ?_)
        · have c53 := jne1 c53
          exact t62_9 h6 oh6
        · have c53 := jne2 c53
          iterate 2 refine mj_T.pl rfl rfl rfl rfl ?_
          refine jT.call rfl rfl (Nat.le_of_ble_eq_true rfl) (Nat.le_of_ble_eq_true rfl) (jrv_of oh6 kp0 (by decide) rfl (by decide) rfl _) rfl (mj_Ok.up (Nat.add_le_add_left (by decide) D) (jc_80 (D := D) ty hg oh6 kp0 ⟨by decide, by decide⟩)) rfl rfl (fun v31 h32 qv31 oh32 => ?_)
          obtain rfl : v31 = none := qv31
          refine mj_T.eq (pc2 := 62) (st2 := []) ?_ rfl rfl rfl rfl
          exact t62_9 h32 oh32
      refine mj_T.lif rfl rfl jp1 ⟨by decide, by decide⟩ (fun c27 => ?_) (fun c27 => ?_)
      · have c27 := of_decide_eq_true c27
        refine mj_T.pl rfl rfl rfl rfl ?_
        refine jT.if0 rfl rx2 (fun c42 => ?_) (fun c42 => ?_)
        · have c42 := jne1 c42
          exact t51_7 h4 oh4
        · have c42 := jne2 c42
          iterate 2 refine mj_T.pl rfl rfl rfl rfl ?_
          refine jT.call rfl rfl (Nat.le_of_ble_eq_true rfl) (Nat.le_of_ble_eq_true rfl) (jrv_of oh4 kp0 (by decide) rfl (by decide) rfl _) rfl (mj_Ok.up (Nat.add_le_add_left (by decide) D) (jc_80 (D := D) ty hg oh4 kp0 ⟨by decide, by decide⟩)) rfl rfl (fun v33 h34 qv33 oh34 => ?_)
          obtain rfl : v33 = none := qv33
          refine mj_T.eq (pc2 := 51) (st2 := []) ?_ rfl rfl rfl rfl
          exact t51_7 h34 oh34
      · have c27 := of_decide_eq_false c27
        iterate 2 refine mj_T.pl rfl rfl rfl rfl ?_
        refine jT.call rfl rfl (Nat.le_of_ble_eq_true rfl) (Nat.le_of_ble_eq_true rfl) (jrv_of oh4 kp0 (by decide) rfl (by decide) rfl _) rfl (mj_Ok.up (Nat.add_le_add_left (by decide) D) (jc_80 (D := D) ty hg oh4 kp0 ⟨by decide, by decide⟩)) rfl rfl (fun v35 h36 qv35 oh36 => ?_)
        obtain rfl : v35 = none := qv35
        refine mj_T.eq (pc2 := 37) (st2 := []) ?_ rfl rfl rfl rfl
        refine mj_T.pl rfl rfl rfl rfl ?_
        exact t51_7 h36 oh36
    refine jT.if0 rfl rx2 (fun c16 => ?_) (fun c16 => ?_)
    · have c16 := jne1 c16
      exact t25_5 h o
    · have c16 := jne2 c16
      iterate 2 refine mj_T.pl rfl rfl rfl rfl ?_
      refine jT.call rfl rfl (Nat.le_of_ble_eq_true rfl) (Nat.le_of_ble_eq_true rfl) (jrv_of o kp0 (by decide) rfl (by decide) rfl _) rfl (mj_Ok.up (Nat.add_le_add_left (by decide) D) (jc_80 (D := D) ty hg o kp0 ⟨by decide, by decide⟩)) rfl rfl (fun v37 h38 qv37 oh38 => ?_)
      obtain rfl : v37 = none := qv37
      refine mj_T.eq (pc2 := 25) (st2 := []) ?_ rfl rfl rfl rfl
      exact t25_5 h38 oh38
  refine jT.if0 rfl rz1 (fun c4 => ?_) (fun c4 => ?_)
  · have c4 := jne1 c4
    refine mj_T.pl rfl rfl rfl rfl ?_
    exact t12_3 0 ⟨by omega, by omega⟩
  · have c4 := jne2 c4
    iterate 2 refine mj_T.pl rfl rfl rfl rfl ?_
    exact t12_3 1 ⟨by omega, by omega⟩
-- PolyRegisters$Text.setRow([J)V
theorem jc_82 {D n : Nat} {tm : Int} {h g : mj_H} {K L : Nat → Nat} {R : Nat → Nat → Nat} {p0 : Nat} {p1 : Nat} (ty : jTY K L R) (hg : g.length ≤ n) (o : jO K L R g n tm h) (kp0 : K p0 = 17) (kp1 : K p1 = 2) : mj_Ok (D + 4) 82 [.ref p0, .ref p1] h (jQ K L R g n tm [] jV0) := by
  refine mj_Ok.of (M := mj_m82) (loc := [some (.ref p0), some (.ref p1), none]) rfl rfl rfl ?_
  iterate 2 refine mj_T.pl rfl rfl rfl rfl ?_
  refine jT.putI 17 5 o rfl kp0 (by decide) rfl rfl rfl (Or.inl rfl) (by show 0 ≤ 0; omega) (by show 0 ≤ 340; omega) (fun h1 oh1 wh1 uh1 => ?_)
  refine mj_T.pl rfl rfl rfl rfl ?_
  refine jT.alen 2 ty oh1 rfl kp1 (by decide) (by decide) (fun z2 ez2 (az2 : 13 ≤ z2) (bz2 : z2 ≤ 13) => ?_)
  have rz2 : -2147483648 ≤ z2 ∧ z2 ≤ 2147483647 := ⟨by omega, by omega⟩
  refine mj_T.pl rfl rfl rfl rfl ?_
  refine jT.isub rfl (fun z3 rz3 ez3 => ?_)
  replace ez3 := ez3 ⟨by omega, by omega⟩
  refine mj_T.pl (loc' := [some (.ref p0), some (.ref p1), some (.int (jn z3))]) rfl rfl rfl rfl ?_
  have t10_6 : ∀ (k7 : Nat) (x4 : Int) (h5 : mj_H), (-2147483648 ≤ x4 ∧ x4 ≤ 2147483647) → (jO K L R g n tm h5) → (x4 ≤ z3) → (x4 + 1 : Int).toNat = k7 → mj_T (D + 3) mj_m82 10 [some (.ref p0), some (.ref p1), some (.int (jn x4))] [] h5 (jQ K L R g n tm [] jV0) := by
    refine jInd (fun k7 ih8 => ?_)
    intro x4 h5 rx4 oh5 ix4 hm9
    refine mj_T.pl rfl rfl rfl rfl ?_
    refine jT.if0 rfl rx4 (fun c11 => ?_) (fun c11 => ?_)
    · have c11 := of_decide_eq_true c11
      refine mj_T.pl rfl rfl rfl rfl ?_
      refine jT.getI 17 5 oh5 rfl kp0 (by decide) rfl rfl rfl (fun z10 (az10 : 0 ≤ z10) (bz10 : z10 ≤ 340) fz10 => ?_)
      have rz10 : -2147483648 ≤ z10 ∧ z10 ≤ 2147483647 := ⟨by omega, by omega⟩
      refine jT.if0 rfl rz10 (fun c40 => ?_) (fun c40 => ?_)
      · have c40 := jne1 c40
        exact jT.ret oh5 rfl rfl rfl rfl
      · have c40 := jne2 c40
        iterate 2 refine mj_T.pl rfl rfl rfl rfl ?_
        refine jT.call rfl rfl (Nat.le_of_ble_eq_true rfl) (Nat.le_of_ble_eq_true rfl) (jrv_of oh5 kp0 (by decide) rfl (by decide) rfl _) rfl (mj_Ok.up (Nat.add_le_add_left (by decide) D) (jc_80 (D := D) ty hg oh5 kp0 ⟨by decide, by decide⟩)) rfl rfl (fun v11 h12 qv11 oh12 => ?_)
        obtain rfl : v11 = none := qv11
        refine mj_T.eq (pc2 := 49) (st2 := []) ?_ rfl rfl rfl rfl
        exact jT.ret oh12 rfl rfl rfl rfl
    · have c11 := of_decide_eq_false c11
      iterate 2 refine mj_T.pl rfl rfl rfl rfl ?_
      refine jT.lald oh5 rfl kp1 rx4 ⟨by omega, by omega⟩ (fun z13 jz13 => ?_)
      refine jT.lc 0 rfl rfl ?_
      refine mj_T.lif rfl rfl jz13 ⟨by decide, by decide⟩ (fun c18 => ?_) (fun c18 => ?_)
      · have c18 := of_decide_eq_true c18
        refine jT.iinc rfl rfl (fun z14 rz14 ez14 => ?_)
        replace ez14 := ez14 ⟨by omega, by omega⟩
        refine mj_T.eq (loc2 := [some (.ref p0), some (.ref p1), some (.int (jn z14))]) ?_ rfl rfl rfl rfl
        refine mj_T.pl rfl rfl rfl rfl ?_
        exact ih8 ((z14 + 1 : Int).toNat) (by omega) z14 h5 rz14 oh5 (by omega) rfl
      · have c18 := of_decide_eq_false c18
        iterate 3 refine mj_T.pl rfl rfl rfl rfl ?_
        refine jT.lald oh5 rfl kp1 rx4 ⟨by omega, by omega⟩ (fun z15 jz15 => ?_)
        refine mj_T.pl rfl rfl rfl rfl ?_
        refine jT.call rfl rfl (Nat.le_of_ble_eq_true rfl) (Nat.le_of_ble_eq_true rfl) (jrv_of oh5 kp0 (by decide) rfl (by decide) rfl _) rfl (mj_Ok.up (Nat.add_le_add_left (by decide) D) (jc_83 (D := D) ty hg oh5 kp0 jz15 rx4)) rfl rfl (fun v16 h17 qv16 oh17 => ?_)
        obtain rfl : v16 = none := qv16
        refine mj_T.eq (pc2 := 30) (st2 := []) ?_ rfl rfl rfl rfl
        refine jT.iinc rfl rfl (fun z18 rz18 ez18 => ?_)
        replace ez18 := ez18 ⟨by omega, by omega⟩
        refine mj_T.eq (loc2 := [some (.ref p0), some (.ref p1), some (.int (jn z18))]) ?_ rfl rfl rfl rfl
        refine mj_T.pl rfl rfl rfl rfl ?_
        exact ih8 ((z18 + 1 : Int).toNat) (by omega) z18 h17 rz18 oh17 (by omega) rfl
  exact t10_6 _ z3 h1 rz3 oh1 (by omega) rfl
-- PolyRegisters$Reader.isDigit(I)Z
theorem jc_55 {D n : Nat} {tm : Int} {h g : mj_H} {K L : Nat → Nat} {R : Nat → Nat → Nat} {p0 : Int} (ty : jTY K L R) (hg : g.length ≤ n) (o : jO K L R g n tm h) (rp0 : -2147483648 ≤ p0 ∧ p0 ≤ 2147483647) : mj_Ok (D + 1) 55 [.int (jn p0)] h (jQp K L R g n tm h [] (jVi 0 1)) := by
  refine mj_Ok.of (M := mj_m55) (loc := [some (.int (jn p0))]) rfl rfl rfl ?_
  iterate 2 refine mj_T.pl rfl rfl rfl rfl ?_
  refine jT.icmp rfl rp0 ⟨by decide, by decide⟩ (fun c3 => ?_) (fun c3 => ?_)
  · have c3 := of_decide_eq_true c3
    refine mj_T.pl rfl rfl rfl rfl ?_
    exact jT.retbp rfl rfl (by omega) (by omega)
  · have c3 := of_decide_eq_false c3
    iterate 2 refine mj_T.pl rfl rfl rfl rfl ?_
    refine jT.icmp rfl rp0 ⟨by decide, by decide⟩ (fun c9 => ?_) (fun c9 => ?_)
    · have c9 := of_decide_eq_true c9
      refine mj_T.pl rfl rfl rfl rfl ?_
      exact jT.retbp rfl rfl (by omega) (by omega)
    · have c9 := of_decide_eq_false c9
      iterate 2 refine mj_T.pl rfl rfl rfl rfl ?_
      exact jT.retbp rfl rfl (by omega) (by omega)
-- PolyRegisters$Reader.skipBlanks()V
theorem jc_56 {D n : Nat} {tm : Int} {h g : mj_H} {K L : Nat → Nat} {R : Nat → Nat → Nat} {p0 : Nat} (ty : jTY K L R) (hg : g.length ≤ n) (o : jO K L R g n tm h) (kp0 : K p0 = 14) : mj_Ok (D + 2) 56 [.ref p0] h (jQ K L R g n tm [] jV0) := by
  refine mj_Ok.of (M := mj_m56) (loc := [some (.ref p0), none]) rfl rfl rfl ?_
  refine mj_T.pl rfl rfl rfl rfl ?_
  refine mj_T.pl (loc' := [some (.ref p0), some (.int (jn 0))]) rfl rfl rfl rfl ?_
  have t2_3 : ∀ (k4 : Nat) (x1 : Int) (h2 : mj_H), (-2147483648 ≤ x1 ∧ x1 ≤ 2147483647) → (jO K L R g n tm h2) → (0 ≤ x1) → (2147483647 - x1 : Int).toNat = k4 → mj_T (D + 1) mj_m56 2 [some (.ref p0), some (.int (jn x1))] [] h2 (jQ K L R g n tm [] jV0) := by
    refine jInd (fun k4 ih5 => ?_)
    intro x1 h2 rx1 oh2 ix1 hm6
    refine mj_T.pl rfl rfl rfl rfl ?_
    refine mj_T.pl rfl rfl rfl rfl ?_
    refine jT.getT oh2 rfl kp0 (fun b7 kb7 => ?_)
    refine jT.getE oh2 rfl kb7 (fun z8 (az8 : 0 ≤ z8) (bz8 : z8 ≤ 340) fz8 => ?_)
    have rz8 : -2147483648 ≤ z8 ∧ z8 ≤ 2147483647 := ⟨by omega, by omega⟩
    refine jT.icmp rfl rx1 rz8 (fun c10 => ?_) (fun c10 => ?_)
    · have c10 := of_decide_eq_true c10
      exact jT.ret oh2 rfl rfl rfl rfl
    · have c10 := of_decide_eq_false c10
      refine mj_T.pl rfl rfl rfl rfl ?_
      refine jT.getT oh2 rfl kp0 (fun b9 kb9 => ?_)
      refine mj_T.pl rfl rfl rfl rfl ?_
      refine jT.getI 14 0 oh2 rfl kp0 (by decide) rfl rfl rfl (fun z10 (az10 : (-2147483648) ≤ z10) (bz10 : z10 ≤ 2147483647) fz10 => ?_)
      have rz10 : -2147483648 ≤ z10 ∧ z10 ≤ 2147483647 := ⟨by omega, by omega⟩
      refine jT.callp rfl rfl (Nat.le_of_ble_eq_true rfl) (Nat.le_of_ble_eq_true rfl) (jrv_ofE oh2 kb9 (by decide) rfl _) rfl (mj_Ok.up (Nat.add_le_add_left (by decide) D) (jc_79 (D := D) ty hg oh2 kb9 rz10)) rfl rfl (fun v11 qv11 => ?_)
      obtain ⟨z12, az12, bz12, rfl⟩ := qv11
      have rz12 : -2147483648 ≤ z12 ∧ z12 ≤ 2147483647 := ⟨by omega, by omega⟩
      refine mj_T.eq (pc2 := 24) (st2 := [.int (jn z12)]) ?_ rfl rfl rfl rfl
      refine mj_T.pl rfl rfl rfl rfl ?_
      refine jT.icmp rfl rz12 ⟨by decide, by decide⟩ (fun c26 => ?_) (fun c26 => ?_)
      · have c26 := jne1 c26
        exact jT.ret oh2 rfl rfl rfl rfl
      · have c26 := jne2 c26
        iterate 2 refine mj_T.pl rfl rfl rfl rfl ?_
        refine jT.getK 14 0 oh2 rfl kp0 (by decide) rfl rfl rfl fz10.symm ?_
        refine mj_T.pl rfl rfl rfl rfl ?_
        refine jT.iadd rfl (fun z13 rz13 ez13 => ?_)
        clear ez13
        refine jT.putI 14 0 oh2 rfl kp0 (by decide) rfl rfl rfl (Or.inl rfl) (by show (-2147483648) ≤ z13; omega) (by show z13 ≤ 2147483647; omega) (fun h14 oh14 wh14 uh14 => ?_)
        refine jT.iinc rfl rfl (fun z15 rz15 ez15 => ?_)
        replace ez15 := ez15 ⟨by omega, by omega⟩
        refine mj_T.eq (loc2 := [some (.ref p0), some (.int (jn z15))]) ?_ rfl rfl rfl rfl
        refine mj_T.pl rfl rfl rfl rfl ?_
        exact ih5 ((2147483647 - z15 : Int).toNat) (by omega) z15 h14 rz15 oh14 (by omega) rfl
  exact t2_3 _ 0 h ⟨by decide, by decide⟩ o (by omega) rfl
-- PolyRegisters$Reader.takes(C)Z
theorem jc_57 {D n : Nat} {tm : Int} {h g : mj_H} {K L : Nat → Nat} {R : Nat → Nat → Nat} {p0 : Nat} {p1 : Int} (ty : jTY K L R) (hg : g.length ≤ n) (o : jO K L R g n tm h) (kp0 : K p0 = 14) (rp1 : -2147483648 ≤ p1 ∧ p1 ≤ 2147483647) : mj_Ok (D + 3) 57 [.ref p0, .int (jn p1)] h (jQ K L R g n tm [] (jVi 0 1)) := by
  refine mj_Ok.of (M := mj_m57) (loc := [some (.ref p0), some (.int (jn p1))]) rfl rfl rfl ?_
  refine mj_T.pl rfl rfl rfl rfl ?_
  refine jT.call rfl rfl (Nat.le_of_ble_eq_true rfl) (Nat.le_of_ble_eq_true rfl) (jrv_of o kp0 (by decide) rfl (by decide) rfl _) rfl (mj_Ok.up (Nat.add_le_add_left (by decide) D) (jc_56 (D := D) ty hg o kp0)) rfl rfl (fun v1 h2 qv1 oh2 => ?_)
  obtain rfl : v1 = none := qv1
  refine mj_T.eq (pc2 := 4) (st2 := []) ?_ rfl rfl rfl rfl
  refine mj_T.pl rfl rfl rfl rfl ?_
  refine jT.getT oh2 rfl kp0 (fun b3 kb3 => ?_)
  refine mj_T.pl rfl rfl rfl rfl ?_
  refine jT.getI 14 0 oh2 rfl kp0 (by decide) rfl rfl rfl (fun z4 (az4 : (-2147483648) ≤ z4) (bz4 : z4 ≤ 2147483647) fz4 => ?_)
  have rz4 : -2147483648 ≤ z4 ∧ z4 ≤ 2147483647 := ⟨by omega, by omega⟩
  refine jT.callp rfl rfl (Nat.le_of_ble_eq_true rfl) (Nat.le_of_ble_eq_true rfl) (jrv_ofE oh2 kb3 (by decide) rfl _) rfl (mj_Ok.up (Nat.add_le_add_left (by decide) D) (jc_79 (D := D) ty hg oh2 kb3 rz4)) rfl rfl (fun v5 qv5 => ?_)
  obtain ⟨z6, az6, bz6, rfl⟩ := qv5
  have rz6 : -2147483648 ≤ z6 ∧ z6 ≤ 2147483647 := ⟨by omega, by omega⟩
  refine mj_T.eq (pc2 := 15) (st2 := [.int (jn z6)]) ?_ rfl rfl rfl rfl
  refine mj_T.pl rfl rfl rfl rfl ?_
  refine jT.icmp rfl rz6 rp1 (fun c16 => ?_) (fun c16 => ?_)
  · have c16 := of_decide_eq_true c16
    iterate 2 refine mj_T.pl rfl rfl rfl rfl ?_
    refine jT.getK 14 0 oh2 rfl kp0 (by decide) rfl rfl rfl fz4.symm ?_
    refine mj_T.pl rfl rfl rfl rfl ?_
    refine jT.iadd rfl (fun z7 rz7 ez7 => ?_)
    clear ez7
    refine jT.putI 14 0 oh2 rfl kp0 (by decide) rfl rfl rfl (Or.inl rfl) (by show (-2147483648) ≤ z7; omega) (by show z7 ≤ 2147483647; omega) (fun h8 oh8 wh8 uh8 => ?_)
    refine mj_T.pl rfl rfl rfl rfl ?_
    exact jT.retb oh8 rfl rfl (by omega) (by omega)
  · have c16 := of_decide_eq_false c16
    refine mj_T.pl rfl rfl rfl rfl ?_
    exact jT.retb oh2 rfl rfl (by omega) (by omega)
-- PolyRegisters$Reader.readNumber()J
theorem jc_54 {D n : Nat} {tm : Int} {h g : mj_H} {K L : Nat → Nat} {R : Nat → Nat → Nat} {p0 : Nat} (ty : jTY K L R) (hg : g.length ≤ n) (o : jO K L R g n tm h) (kp0 : K p0 = 14) : mj_Ok (D + 2) 54 [.ref p0] h (jQ K L R g n tm [] jVl) := by
  refine mj_Ok.of (M := mj_m54) (loc := [some (.ref p0), none, none, none, none]) rfl rfl rfl ?_
  refine mj_T.pl rfl rfl rfl rfl ?_
  refine jT.getI 14 0 o rfl kp0 (by decide) rfl rfl rfl (fun z1 (az1 : (-2147483648) ≤ z1) (bz1 : z1 ≤ 2147483647) fz1 => ?_)
  have rz1 : -2147483648 ≤ z1 ∧ z1 ≤ 2147483647 := ⟨by omega, by omega⟩
  refine mj_T.pl (loc' := [some (.ref p0), some (.int (jn z1)), none, none, none]) rfl rfl rfl rfl ?_
  refine jT.lc 0 rfl rfl ?_
  refine mj_T.pl (loc' := [some (.ref p0), some (.int (jn z1)), some (.long (jl ((0 : Nat) : Int))), none, none]) rfl rfl rfl rfl ?_
  refine mj_T.pl rfl rfl rfl rfl ?_
  refine mj_T.pl (loc' := [some (.ref p0), some (.int (jn z1)), some (.long (jl ((0 : Nat) : Int))), none, some (.int (jn 0))]) rfl rfl rfl rfl ?_
  have t10_5 : ∀ (k6 : Nat) (y2 : Int) (x3 : Int) (h4 : mj_H), (jR y2) → (-2147483648 ≤ x3 ∧ x3 ≤ 2147483647) → (jO K L R g n tm h4) → (0 ≤ x3) → (2147483647 - x3 : Int).toNat = k6 → mj_T (D + 1) mj_m54 10 [some (.ref p0), some (.int (jn z1)), some (.long (jl y2)), none, some (.int (jn x3))] [] h4 (jQ K L R g n tm [] jVl) := by
    refine jInd (fun k6 ih7 => ?_)
    intro y2 x3 h4 jy2 rx3 oh4 ix3 hm8
    refine mj_T.pl rfl rfl rfl rfl ?_
    refine mj_T.pl rfl rfl rfl rfl ?_
    refine jT.getT oh4 rfl kp0 (fun b9 kb9 => ?_)
    refine jT.getE oh4 rfl kb9 (fun z10 (az10 : 0 ≤ z10) (bz10 : z10 ≤ 340) fz10 => ?_)
    have rz10 : -2147483648 ≤ z10 ∧ z10 ≤ 2147483647 := ⟨by omega, by omega⟩
    have t78_11 : mj_T (D + 1) mj_m54 78 [some (.ref p0), some (.int (jn z1)), some (.long (jl y2)), none, some (.int (jn x3))] [] h4 (jQ K L R g n tm [] jVl) := by
      refine mj_T.pl rfl rfl rfl rfl ?_
      refine jT.getI 14 0 oh4 rfl kp0 (by decide) rfl rfl rfl (fun z12 (az12 : (-2147483648) ≤ z12) (bz12 : z12 ≤ 2147483647) fz12 => ?_)
      have rz12 : -2147483648 ≤ z12 ∧ z12 ≤ 2147483647 := ⟨by omega, by omega⟩
      refine mj_T.pl rfl rfl rfl rfl ?_
      refine jT.isub rfl (fun z13 rz13 ez13 => ?_)
      clear ez13
      refine mj_T.pl rfl rfl rfl rfl ?_
      refine jT.icmp rfl rz13 ⟨by decide, by decide⟩ (fun c86 => ?_) (fun c86 => ?_)
      · have c86 := of_decide_eq_true c86
        refine mj_T.pl rfl rfl rfl rfl ?_
        exact jT.ret oh4 rfl rfl rfl ⟨y2, jy2, rfl⟩
      · have c86 := of_decide_eq_false c86
        iterate 2 refine mj_T.pl rfl rfl rfl rfl ?_
        refine jT.putI 14 0 oh4 rfl kp0 (by decide) rfl rfl rfl (Or.inl rfl) (by show (-2147483648) ≤ z1; omega) (by show z1 ≤ 2147483647; omega) (fun h14 oh14 wh14 uh14 => ?_)
        refine jT.lc 0 rfl rfl ?_
        exact jT.ret oh14 rfl rfl rfl ⟨((0 : Nat) : Int), ⟨by decide, by decide⟩, rfl⟩
    refine jT.icmp rfl rx3 rz10 (fun c19 => ?_) (fun c19 => ?_)
    · have c19 := of_decide_eq_true c19
      exact t78_11 
    · have c19 := of_decide_eq_false c19
      refine mj_T.pl rfl rfl rfl rfl ?_
      refine jT.getT oh4 rfl kp0 (fun b15 kb15 => ?_)
      refine mj_T.pl rfl rfl rfl rfl ?_
      refine jT.getI 14 0 oh4 rfl kp0 (by decide) rfl rfl rfl (fun z16 (az16 : (-2147483648) ≤ z16) (bz16 : z16 ≤ 2147483647) fz16 => ?_)
      have rz16 : -2147483648 ≤ z16 ∧ z16 ≤ 2147483647 := ⟨by omega, by omega⟩
      refine jT.callp rfl rfl (Nat.le_of_ble_eq_true rfl) (Nat.le_of_ble_eq_true rfl) (jrv_ofE oh4 kb15 (by decide) rfl _) rfl (mj_Ok.up (Nat.add_le_add_left (by decide) D) (jc_79 (D := D) ty hg oh4 kb15 rz16)) rfl rfl (fun v17 qv17 => ?_)
      obtain ⟨z18, az18, bz18, rfl⟩ := qv17
      have rz18 : -2147483648 ≤ z18 ∧ z18 ≤ 2147483647 := ⟨by omega, by omega⟩
      refine mj_T.eq (pc2 := 33) (st2 := [.int (jn z18)]) ?_ rfl rfl rfl rfl
      refine jT.callp rfl rfl (Nat.le_of_ble_eq_true rfl) (Nat.le_of_ble_eq_true rfl) rfl rfl (mj_Ok.up (Nat.add_le_add_left (by decide) D) (jc_55 (D := D) ty hg oh4 rz18)) rfl rfl (fun v19 qv19 => ?_)
      obtain ⟨z20, az20, bz20, rfl⟩ := qv19
      have rz20 : -2147483648 ≤ z20 ∧ z20 ≤ 2147483647 := ⟨by omega, by omega⟩
      refine mj_T.eq (pc2 := 36) (st2 := [.int (jn z20)]) ?_ rfl rfl rfl rfl
      refine jT.if0 rfl rz20 (fun c36 => ?_) (fun c36 => ?_)
      · have c36 := of_decide_eq_true c36
        exact t78_11 
      · have c36 := of_decide_eq_false c36
        refine mj_T.pl rfl rfl rfl rfl ?_
        refine jT.ldcL rfl ?_
        refine jT.lmul rfl (fun z21 jz21 _ => ?_)
        refine mj_T.pl rfl rfl rfl rfl ?_
        refine jT.getT oh4 rfl kp0 (fun b22 kb22 => ?_)
        refine mj_T.pl rfl rfl rfl rfl ?_
        refine jT.getK 14 0 oh4 rfl kp0 (by decide) rfl rfl rfl fz16.symm ?_
        refine jT.callp rfl rfl (Nat.le_of_ble_eq_true rfl) (Nat.le_of_ble_eq_true rfl) (jrv_ofE oh4 kb22 (by decide) rfl _) rfl (mj_Ok.up (Nat.add_le_add_left (by decide) D) (jc_79 (D := D) ty hg oh4 kb22 rz16)) rfl rfl (fun v23 qv23 => ?_)
        obtain ⟨z24, az24, bz24, rfl⟩ := qv23
        have rz24 : -2147483648 ≤ z24 ∧ z24 ≤ 2147483647 := ⟨by omega, by omega⟩
        refine mj_T.eq (pc2 := 55) (st2 := [.int (jn z24), .long (jl z21)]) ?_ rfl rfl rfl rfl
        refine jT.i2l rfl rz24 ?_
        have j25 : jR z24 := ⟨by omega, by omega⟩
        refine jT.ladd rfl (fun z26 jz26 _ => ?_)
        refine jT.ldcL rfl ?_
        refine jT.lsub rfl (fun z27 jz27 _ => ?_)
        refine mj_T.pl (loc' := [some (.ref p0), some (.int (jn z1)), some (.long (jl z27)), none, some (.int (jn x3))]) rfl rfl rfl rfl ?_
        iterate 2 refine mj_T.pl rfl rfl rfl rfl ?_
        refine jT.getK 14 0 oh4 rfl kp0 (by decide) rfl rfl rfl fz16.symm ?_
        refine mj_T.pl rfl rfl rfl rfl ?_
        refine jT.iadd rfl (fun z28 rz28 ez28 => ?_)
        clear ez28
        refine jT.putI 14 0 oh4 rfl kp0 (by decide) rfl rfl rfl (Or.inl rfl) (by show (-2147483648) ≤ z28; omega) (by show z28 ≤ 2147483647; omega) (fun h29 oh29 wh29 uh29 => ?_)
        refine jT.iinc rfl rfl (fun z30 rz30 ez30 => ?_)
        replace ez30 := ez30 ⟨by omega, by omega⟩
        refine mj_T.eq (loc2 := [some (.ref p0), some (.int (jn z1)), some (.long (jl z27)), none, some (.int (jn z30))]) ?_ rfl rfl rfl rfl
        refine mj_T.pl rfl rfl rfl rfl ?_
        exact ih7 ((2147483647 - z30 : Int).toNat) (by omega) z27 z30 h29 jz27 rz30 oh29 (by omega) rfl
  exact t10_5 _ ((0 : Nat) : Int) 0 h ⟨by decide, by decide⟩ ⟨by decide, by decide⟩ o (by omega) rfl
-- PolyRegisters$Reader.readExponent()I
theorem jc_53 {D n : Nat} {tm : Int} {h g : mj_H} {K L : Nat → Nat} {R : Nat → Nat → Nat} {p0 : Nat} (ty : jTY K L R) (hg : g.length ≤ n) (o : jO K L R g n tm h) (kp0 : K p0 = 14) : mj_Ok (D + 3) 53 [.ref p0] h (jQ K L R g n tm [] (jVi (-2147483648) 2147483647)) := by
  refine mj_Ok.of (M := mj_m53) (loc := [some (.ref p0), none, none, none]) rfl rfl rfl ?_
  refine mj_T.pl rfl rfl rfl rfl ?_
  refine jT.call rfl rfl (Nat.le_of_ble_eq_true rfl) (Nat.le_of_ble_eq_true rfl) (jrv_of o kp0 (by decide) rfl (by decide) rfl _) rfl (mj_Ok.up (Nat.add_le_add_left (by decide) D) (jc_56 (D := D) ty hg o kp0)) rfl rfl (fun v1 h2 qv1 oh2 => ?_)
  obtain rfl : v1 = none := qv1
  refine mj_T.eq (pc2 := 4) (st2 := []) ?_ rfl rfl rfl rfl
  refine mj_T.pl rfl rfl rfl rfl ?_
  refine jT.getI 14 0 oh2 rfl kp0 (by decide) rfl rfl rfl (fun z3 (az3 : (-2147483648) ≤ z3) (bz3 : z3 ≤ 2147483647) fz3 => ?_)
  have rz3 : -2147483648 ≤ z3 ∧ z3 ≤ 2147483647 := ⟨by omega, by omega⟩
  refine mj_T.pl (loc' := [some (.ref p0), some (.int (jn z3)), none, none]) rfl rfl rfl rfl ?_
  refine mj_T.pl rfl rfl rfl rfl ?_
  refine jT.getT oh2 rfl kp0 (fun b4 kb4 => ?_)
  refine mj_T.pl rfl rfl rfl rfl ?_
  refine jT.getK 14 0 oh2 rfl kp0 (by decide) rfl rfl rfl fz3.symm ?_
  refine jT.callp rfl rfl (Nat.le_of_ble_eq_true rfl) (Nat.le_of_ble_eq_true rfl) (jrv_ofE oh2 kb4 (by decide) rfl _) rfl (mj_Ok.up (Nat.add_le_add_left (by decide) D) (jc_79 (D := D) ty hg oh2 kb4 rz3)) rfl rfl (fun v5 qv5 => ?_)
  obtain ⟨z6, az6, bz6, rfl⟩ := qv5
  have rz6 : -2147483648 ≤ z6 ∧ z6 ≤ 2147483647 := ⟨by omega, by omega⟩
  refine mj_T.eq (pc2 := 20) (st2 := [.int (jn z6)]) ?_ rfl rfl rfl rfl
  refine jT.callp rfl rfl (Nat.le_of_ble_eq_true rfl) (Nat.le_of_ble_eq_true rfl) rfl rfl (mj_Ok.up (Nat.add_le_add_left (by decide) D) (jc_55 (D := D) ty hg oh2 rz6)) rfl rfl (fun v7 qv7 => ?_)
  obtain ⟨z8, az8, bz8, rfl⟩ := qv7
  have rz8 : -2147483648 ≤ z8 ∧ z8 ≤ 2147483647 := ⟨by omega, by omega⟩
  refine mj_T.eq (pc2 := 23) (st2 := [.int (jn z8)]) ?_ rfl rfl rfl rfl
  refine jT.if0 rfl rz8 (fun c23 => ?_) (fun c23 => ?_)
  · have c23 := jne1 c23
    refine mj_T.pl rfl rfl rfl rfl ?_
    refine jT.call rfl rfl (Nat.le_of_ble_eq_true rfl) (Nat.le_of_ble_eq_true rfl) (jrv_of oh2 kp0 (by decide) rfl (by decide) rfl _) rfl (mj_Ok.up (Nat.add_le_add_left (by decide) D) (jc_54 (D := D) ty hg oh2 kp0)) rfl rfl (fun v9 h10 qv9 oh10 => ?_)
    obtain ⟨z11, jz11, rfl⟩ := qv9
    refine mj_T.eq (pc2 := 40) (st2 := [.long (jl z11)]) ?_ rfl rfl rfl rfl
    refine mj_T.pl (loc' := [some (.ref p0), some (.int (jn z3)), some (.long (jl z11)), none]) rfl rfl rfl rfl ?_
    refine mj_T.pl rfl rfl rfl rfl ?_
    refine jT.ldcL rfl ?_
    refine mj_T.lif rfl rfl jz11 ⟨by decide, by decide⟩ (fun c45 => ?_) (fun c45 => ?_)
    · have c45 := of_decide_eq_true c45
      refine mj_T.pl rfl rfl rfl rfl ?_
      refine jT.l2i rfl (fun z12 rz12 _ => ?_)
      exact jT.ret oh10 rfl rfl rfl ⟨z12, by omega, by omega, rfl⟩
    · have c45 := of_decide_eq_false c45
      iterate 2 refine mj_T.pl rfl rfl rfl rfl ?_
      refine jT.putI 14 0 oh10 rfl kp0 (by decide) rfl rfl rfl (Or.inl rfl) (by show (-2147483648) ≤ z3; omega) (by show z3 ≤ 2147483647; omega) (fun h13 oh13 wh13 uh13 => ?_)
      refine mj_T.pl rfl rfl rfl rfl ?_
      exact jT.ret oh13 rfl rfl rfl ⟨(-1), by omega, by omega, rfl⟩
  · have c23 := jne2 c23
    iterate 2 refine mj_T.pl rfl rfl rfl rfl ?_
    refine jT.getK 14 0 oh2 rfl kp0 (by decide) rfl rfl rfl fz3.symm ?_
    refine jT.putI 14 0 oh2 rfl kp0 (by decide) rfl rfl rfl (Or.inl rfl) (by show (-2147483648) ≤ z3; omega) (by show z3 ≤ 2147483647; omega) (fun h14 oh14 wh14 uh14 => ?_)
    refine mj_T.pl rfl rfl rfl rfl ?_
    exact jT.ret oh14 rfl rfl rfl ⟨(-1), by omega, by omega, rfl⟩
-- PolyRegisters$Reader.rowAt([[JI)[J
theorem jc_48 {D n : Nat} {tm : Int} {h g : mj_H} {K L : Nat → Nat} {R : Nat → Nat → Nat} {p0 : Nat} {p1 : Int} (ty : jTY K L R) (hg : g.length ≤ n) (o : jO K L R g n tm h) (kp0 : K p0 = 6) (rp1 : -2147483648 ≤ p1 ∧ p1 ≤ 2147483647) : mj_Ok (D + 1) 48 [.ref p0, .int (jn p1)] h (jQp K L R g n tm h [] (jVr K 2)) := by
  refine mj_Ok.of (M := mj_m48) (loc := [some (.ref p0), some (.int (jn p1))]) rfl rfl rfl ?_
  iterate 2 refine mj_T.pl rfl rfl rfl rfl ?_
  refine jT.if0 rfl rp1 (fun c2 => ?_) (fun c2 => ?_)
  · have c2 := of_decide_eq_true c2
    refine mj_T.pl rfl rfl rfl rfl ?_
    have l1 : 6 ≤ (L p0 : Int) ∧ (L p0 : Int) ≤ 9 := jlen 6 ty kp0 (by decide) (by decide)
    refine jT.aald 6 2 ty o rfl kp0 (by decide) (by decide) rfl ⟨by decide, by decide⟩ ⟨by omega, by omega⟩ (fun k2 => ?_)
    exact jT.retp rfl rfl rfl ⟨(R p0 (0 : Int).toNat), k2, rfl⟩
  · have c2 := of_decide_eq_false c2
    iterate 2 refine mj_T.pl rfl rfl rfl rfl ?_
    refine jT.alen 6 ty o rfl kp0 (by decide) (by decide) (fun z3 ez3 (az3 : 6 ≤ z3) (bz3 : z3 ≤ 9) => ?_)
    have rz3 : -2147483648 ≤ z3 ∧ z3 ≤ 2147483647 := ⟨by omega, by omega⟩
    refine jT.icmp rfl rp1 rz3 (fun c8 => ?_) (fun c8 => ?_)
    · have c8 := of_decide_eq_true c8
      refine mj_T.pl rfl rfl rfl rfl ?_
      refine jT.aald 6 2 ty o rfl kp0 (by decide) (by decide) rfl ⟨by decide, by decide⟩ ⟨by omega, by omega⟩ (fun k4 => ?_)
      exact jT.retp rfl rfl rfl ⟨(R p0 (0 : Int).toNat), k4, rfl⟩
    · have c8 := of_decide_eq_false c8
      iterate 2 refine mj_T.pl rfl rfl rfl rfl ?_
      refine jT.aald 6 2 ty o rfl kp0 (by decide) (by decide) rfl rp1 ⟨by omega, by omega⟩ (fun k5 => ?_)
      exact jT.retp rfl rfl rfl ⟨(R p0 (p1 : Int).toNat), k5, rfl⟩
-- PolyRegisters$Reader.answer()[J
theorem jc_47 {D n : Nat} {tm : Int} {h g : mj_H} {K L : Nat → Nat} {R : Nat → Nat → Nat} {p0 : Nat} (ty : jTY K L R) (hg : g.length ≤ n) (o : jO K L R g n tm h) (kp0 : K p0 = 14) : mj_Ok (D + 1) 47 [.ref p0] h (jQp K L R g n tm h [] (jVr K 2)) := by
  refine mj_Ok.of (M := mj_m47) (loc := [some (.ref p0)]) rfl rfl rfl ?_
  refine mj_T.pl rfl rfl rfl rfl ?_
  refine jT.getR 14 106 6 ty o rfl kp0 (by decide) rfl rfl rfl (fun k1 => ?_)
  refine mj_T.pl rfl rfl rfl rfl ?_
  have l2 : 6 ≤ (L (R p0 5) : Int) ∧ (L (R p0 5) : Int) ≤ 9 := jlen 6 ty k1 (by decide) (by decide)
  refine jT.aald 6 2 ty o rfl k1 (by decide) (by decide) rfl ⟨by decide, by decide⟩ ⟨by omega, by omega⟩ (fun k3 => ?_)
  exact jT.retp rfl rfl rfl ⟨(R (R p0 5) (0 : Int).toNat), k3, rfl⟩
-- PolyRegisters$Reader.check(Z[J)V
theorem jc_51 {D n : Nat} {tm : Int} {h g : mj_H} {K L : Nat → Nat} {R : Nat → Nat → Nat} {p0 : Nat} {p1 : Int} {p2 : Nat} (ty : jTY K L R) (hg : g.length ≤ n) (o : jO K L R g n tm h) (kp0 : K p0 = 14) (ap1 : 0 ≤ p1 ∧ p1 ≤ 1) (kp2 : K p2 = 2) : mj_Ok (D + 2) 51 [.ref p0, .int (jn p1), .ref p2] h (jQ K L R g n tm [] jV0) := by
  have rp1 : -2147483648 ≤ p1 ∧ p1 ≤ 2147483647 := ⟨by omega, by omega⟩
  refine mj_Ok.of (M := mj_m51) (loc := [some (.ref p0), some (.int (jn p1)), some (.ref p2)]) rfl rfl rfl ?_
  refine mj_T.pl rfl rfl rfl rfl ?_
  refine jT.if0 rfl rp1 (fun c1 => ?_) (fun c1 => ?_)
  · have c1 := jne1 c1
    exact jT.ret o rfl rfl rfl rfl
  · have c1 := jne2 c1
    iterate 2 refine mj_T.pl rfl rfl rfl rfl ?_
    refine jT.putI 14 2 o rfl kp0 (by decide) rfl rfl rfl (Or.inr ⟨rfl, rfl⟩) (by show 0 ≤ 1; omega) (by show 1 ≤ 1; omega) (fun h1 oh1 wh1 uh1 => ?_)
    refine mj_T.pl rfl rfl rfl rfl ?_
    refine jT.call rfl rfl (Nat.le_of_ble_eq_true rfl) (Nat.le_of_ble_eq_true rfl) rfl rfl (mj_Ok.up (Nat.add_le_add_left (by decide) D) (jc_165 (D := D) ty hg oh1 kp2)) rfl rfl (fun v2 h3 qv2 oh3 => ?_)
    obtain rfl : v2 = none := qv2
    refine mj_T.eq (pc2 := 13) (st2 := []) ?_ rfl rfl rfl rfl
    exact jT.ret oh3 rfl rfl rfl rfl
