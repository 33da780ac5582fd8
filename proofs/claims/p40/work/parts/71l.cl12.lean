/-! The class by kinds: its Reader. -/
-- PolyRegisters$Reader.readFactor(I)I
theorem jc_52x {D n : Nat} {tm : Int} {h g : mj_H} {K L : Nat → Nat} {R : Nat → Nat → Nat} {p0 : Nat} {p1 : Int} (ty : jTY K L R) (hg : g.length ≤ n) (o : jO K L R g n tm h) (kp0 : K p0 = 14) (rp1 : -2147483648 ≤ p1 ∧ p1 ≤ 2147483647) (hrec : ∀ (z : Int) (h1 : mj_H), p1 < 8 → z = p1 + 1 → jO K L R g n tm h1 → mj_Ok D 49 [.ref p0, .int (jn z)] h1 (jQ K L R g n tm [] jV0)) : mj_Ok (D + 4) 52 [.ref p0, .int (jn p1)] h (jQ K L R g n tm [] (jVi (-2147483648) 2147483647)) := by
  refine mj_Ok.of (M := mj_m52) (loc := [some (.ref p0), some (.int (jn p1))]) rfl rfl rfl ?_
  refine mj_T.pl rfl rfl rfl rfl ?_
  refine jT.getR 14 102 2 ty o rfl kp0 (by decide) rfl rfl rfl (fun k1 => ?_)
  refine jT.call rfl rfl (Nat.le_of_ble_eq_true rfl) (Nat.le_of_ble_eq_true rfl) rfl rfl (mj_Ok.up (Nat.add_le_add_left (by decide) D) (jc_165 (D := D) ty hg o k1)) rfl rfl (fun v2 h3 qv2 oh3 => ?_)
  obtain rfl : v2 = none := qv2
  refine mj_T.eq (pc2 := 7) (st2 := []) ?_ rfl rfl rfl rfl
  refine mj_T.pl rfl rfl rfl rfl ?_
  refine jT.call rfl rfl (Nat.le_of_ble_eq_true rfl) (Nat.le_of_ble_eq_true rfl) (jrv_of oh3 kp0 (by decide) rfl (by decide) rfl _) rfl (mj_Ok.up (Nat.add_le_add_left (by decide) D) (jc_56 (D := D) ty hg oh3 kp0)) rfl rfl (fun v4 h5 qv4 oh5 => ?_)
  obtain rfl : v4 = none := qv4
  refine mj_T.eq (pc2 := 11) (st2 := []) ?_ rfl rfl rfl rfl
  refine mj_T.pl rfl rfl rfl rfl ?_
  refine jT.getT oh5 rfl kp0 (fun b6 kb6 => ?_)
  refine mj_T.pl rfl rfl rfl rfl ?_
  refine jT.getI 14 0 oh5 rfl kp0 (by decide) rfl rfl rfl (fun z7 (az7 : (-2147483648) ≤ z7) (bz7 : z7 ≤ 2147483647) fz7 => ?_)
  have rz7 : -2147483648 ≤ z7 ∧ z7 ≤ 2147483647 := ⟨by omega, by omega⟩
  refine jT.callp rfl rfl (Nat.le_of_ble_eq_true rfl) (Nat.le_of_ble_eq_true rfl) (jrv_ofE oh5 kb6 (by decide) rfl _) rfl (mj_Ok.up (Nat.add_le_add_left (by decide) D) (jc_79 (D := D) ty hg oh5 kb6 rz7)) rfl rfl (fun v8 qv8 => ?_)
  obtain ⟨z9, az9, bz9, rfl⟩ := qv8
  have rz9 : -2147483648 ≤ z9 ∧ z9 ≤ 2147483647 := ⟨by omega, by omega⟩
  refine mj_T.eq (pc2 := 22) (st2 := [.int (jn z9)]) ?_ rfl rfl rfl rfl
  refine jT.callp rfl rfl (Nat.le_of_ble_eq_true rfl) (Nat.le_of_ble_eq_true rfl) rfl rfl (mj_Ok.up (Nat.add_le_add_left (by decide) D) (jc_55 (D := D) ty hg oh5 rz9)) rfl rfl (fun v10 qv10 => ?_)
  obtain ⟨z11, az11, bz11, rfl⟩ := qv10
  have rz11 : -2147483648 ≤ z11 ∧ z11 ≤ 2147483647 := ⟨by omega, by omega⟩
  refine mj_T.eq (pc2 := 25) (st2 := [.int (jn z11)]) ?_ rfl rfl rfl rfl
  have t135_13 : ∀ (h12 : mj_H), (jO K L R g n tm h12) → mj_T (D + 3) mj_m52 135 [some (.ref p0), some (.int (jn p1))] [] h12 (jQ K L R g n tm [] (jVi (-2147483648) 2147483647)) := by
    intro h12 oh12
    refine mj_T.pl rfl rfl rfl rfl ?_
    refine jT.getI 14 0 oh12 rfl kp0 (by decide) rfl rfl rfl (fun z14 (az14 : (-2147483648) ≤ z14) (bz14 : z14 ≤ 2147483647) fz14 => ?_)
    have rz14 : -2147483648 ≤ z14 ∧ z14 ≤ 2147483647 := ⟨by omega, by omega⟩
    refine mj_T.pl rfl rfl rfl rfl ?_
    refine jT.icmp rfl rz14 ⟨by decide, by decide⟩ (fun c140 => ?_) (fun c140 => ?_)
    · have c140 := jne1 c140
      refine mj_T.pl rfl rfl rfl rfl ?_
      exact jT.ret oh12 rfl rfl rfl ⟨(-1), by omega, by omega, rfl⟩
    · have c140 := jne2 c140
      iterate 2 refine mj_T.pl rfl rfl rfl rfl ?_
      refine jT.call rfl rfl (Nat.le_of_ble_eq_true rfl) (Nat.le_of_ble_eq_true rfl) (jrv_of oh12 kp0 (by decide) rfl (by decide) rfl _) rfl (mj_Ok.up (Nat.add_le_add_left (by decide) D) (jc_57 (D := D) ty hg oh12 kp0 ⟨by decide, by decide⟩)) rfl rfl (fun v15 h16 qv15 oh16 => ?_)
      obtain ⟨z17, az17, bz17, rfl⟩ := qv15
      have rz17 : -2147483648 ≤ z17 ∧ z17 ≤ 2147483647 := ⟨by omega, by omega⟩
      refine mj_T.eq (pc2 := 149) (st2 := [.int (jn z17)]) ?_ rfl rfl rfl rfl
      refine jT.if0 rfl rz17 (fun c149 => ?_) (fun c149 => ?_)
      · have c149 := of_decide_eq_true c149
        refine mj_T.pl rfl rfl rfl rfl ?_
        exact jT.ret oh16 rfl rfl rfl ⟨(-1), by omega, by omega, rfl⟩
      · have c149 := of_decide_eq_false c149
        refine mj_T.pl rfl rfl rfl rfl ?_
        refine jT.call rfl rfl (Nat.le_of_ble_eq_true rfl) (Nat.le_of_ble_eq_true rfl) (jrv_of oh16 kp0 (by decide) rfl (by decide) rfl _) rfl (mj_Ok.up (Nat.add_le_add_left (by decide) D) (jc_53 (D := D) ty hg oh16 kp0)) rfl rfl (fun v18 h19 qv18 oh19 => ?_)
        obtain ⟨z20, az20, bz20, rfl⟩ := qv18
        have rz20 : -2147483648 ≤ z20 ∧ z20 ≤ 2147483647 := ⟨by omega, by omega⟩
        refine mj_T.eq (pc2 := 156) (st2 := [.int (jn z20)]) ?_ rfl rfl rfl rfl
        refine mj_T.pl rfl rfl rfl rfl ?_
        exact jT.ret oh19 rfl rfl rfl ⟨z20, by omega, by omega, rfl⟩
  refine jT.if0 rfl rz11 (fun c25 => ?_) (fun c25 => ?_)
  · have c25 := of_decide_eq_true c25
    iterate 2 refine mj_T.pl rfl rfl rfl rfl ?_
    refine jT.call rfl rfl (Nat.le_of_ble_eq_true rfl) (Nat.le_of_ble_eq_true rfl) (jrv_of oh5 kp0 (by decide) rfl (by decide) rfl _) rfl (mj_Ok.up (Nat.add_le_add_left (by decide) D) (jc_57 (D := D) ty hg oh5 kp0 ⟨by decide, by decide⟩)) rfl rfl (fun v21 h22 qv21 oh22 => ?_)
    obtain ⟨z23, az23, bz23, rfl⟩ := qv21
    have rz23 : -2147483648 ≤ z23 ∧ z23 ≤ 2147483647 := ⟨by omega, by omega⟩
    refine mj_T.eq (pc2 := 47) (st2 := [.int (jn z23)]) ?_ rfl rfl rfl rfl
    refine jT.if0 rfl rz23 (fun c47 => ?_) (fun c47 => ?_)
    · have c47 := of_decide_eq_true c47
      iterate 2 refine mj_T.pl rfl rfl rfl rfl ?_
      have t127_25 : ∀ (h24 : mj_H), (jO K L R g n tm h24) → mj_T (D + 3) mj_m52 127 [some (.ref p0), some (.int (jn p1))] [] h24 (jQ K L R g n tm [] (jVi (-2147483648) 2147483647)) := by
        intro h24 oh24
        iterate 2 refine mj_T.pl rfl rfl rfl rfl ?_
        refine jT.getI 14 0 oh24 rfl kp0 (by decide) rfl rfl rfl (fun z26 (az26 : (-2147483648) ≤ z26) (bz26 : z26 ≤ 2147483647) fz26 => ?_)
        have rz26 : -2147483648 ≤ z26 ∧ z26 ≤ 2147483647 := ⟨by omega, by omega⟩
        refine jT.putI 14 0 oh24 rfl kp0 (by decide) rfl rfl rfl (Or.inl rfl) (by show (-2147483648) ≤ z26; omega) (by show z26 ≤ 2147483647; omega) (fun h27 oh27 wh27 uh27 => ?_)
        exact t135_13 h27 oh27
      refine jT.icmp rfl rp1 ⟨by decide, by decide⟩ (fun c63 => ?_) (fun c63 => ?_)
      · have c63 := of_decide_eq_true c63
        exact t127_25 h22 oh22
      · have c63 := of_decide_eq_false c63
        iterate 2 refine mj_T.pl rfl rfl rfl rfl ?_
        refine jT.call rfl rfl (Nat.le_of_ble_eq_true rfl) (Nat.le_of_ble_eq_true rfl) (jrv_of oh22 kp0 (by decide) rfl (by decide) rfl _) rfl (mj_Ok.up (Nat.add_le_add_left (by decide) D) (jc_57 (D := D) ty hg oh22 kp0 ⟨by decide, by decide⟩)) rfl rfl (fun v28 h29 qv28 oh29 => ?_)
        obtain ⟨z30, az30, bz30, rfl⟩ := qv28
        have rz30 : -2147483648 ≤ z30 ∧ z30 ≤ 2147483647 := ⟨by omega, by omega⟩
        refine mj_T.eq (pc2 := 72) (st2 := [.int (jn z30)]) ?_ rfl rfl rfl rfl
        refine jT.if0 rfl rz30 (fun c72 => ?_) (fun c72 => ?_)
        · have c72 := of_decide_eq_true c72
          exact t127_25 h29 oh29
        · have c72 := of_decide_eq_false c72
          iterate 3 refine mj_T.pl rfl rfl rfl rfl ?_
          refine jT.iadd rfl (fun z31 rz31 ez31 => ?_)
          replace ez31 := ez31 ⟨by omega, by omega⟩
          refine jT.call rfl rfl (Nat.le_of_ble_eq_true rfl) (Nat.le_of_ble_eq_true rfl) (jrv_of oh29 kp0 (by decide) rfl (by decide) rfl _) rfl (mj_Ok.up (Nat.le_add_right D _) (hrec _ _ (by omega) (by omega) oh29)) rfl rfl (fun v32 h33 qv32 oh33 => ?_)
          obtain rfl : v32 = none := qv32
          refine mj_T.eq (pc2 := 82) (st2 := []) ?_ rfl rfl rfl rfl
          refine mj_T.pl rfl rfl rfl rfl ?_
          refine jT.getI 14 0 oh33 rfl kp0 (by decide) rfl rfl rfl (fun z34 (az34 : (-2147483648) ≤ z34) (bz34 : z34 ≤ 2147483647) fz34 => ?_)
          have rz34 : -2147483648 ≤ z34 ∧ z34 ≤ 2147483647 := ⟨by omega, by omega⟩
          refine mj_T.pl rfl rfl rfl rfl ?_
          have t107_36 : ∀ (h35 : mj_H), (jO K L R g n tm h35) → mj_T (D + 3) mj_m52 107 [some (.ref p0), some (.int (jn p1))] [] h35 (jQ K L R g n tm [] (jVi (-2147483648) 2147483647)) := by
            intro h35 oh35
            refine mj_T.pl rfl rfl rfl rfl ?_
            refine jT.getR 14 106 6 ty oh35 rfl kp0 (by decide) rfl rfl rfl (fun k37 => ?_)
            iterate 2 refine mj_T.pl rfl rfl rfl rfl ?_
            refine jT.iadd rfl (fun z38 rz38 ez38 => ?_)
            replace ez38 := ez38 ⟨by omega, by omega⟩
            refine jT.callp rfl rfl (Nat.le_of_ble_eq_true rfl) (Nat.le_of_ble_eq_true rfl) rfl rfl (mj_Ok.up (Nat.add_le_add_left (by decide) D) (jc_48 (D := D) ty hg oh35 k37 rz38)) rfl rfl (fun v39 qv39 => ?_)
            obtain ⟨a40, ka40, rfl⟩ := qv39
            refine mj_T.eq (pc2 := 117) (st2 := [.ref a40]) ?_ rfl rfl rfl rfl
            refine mj_T.pl rfl rfl rfl rfl ?_
            refine jT.getR 14 102 2 ty oh35 rfl kp0 (by decide) rfl rfl rfl (fun k41 => ?_)
            refine jT.call rfl rfl (Nat.le_of_ble_eq_true rfl) (Nat.le_of_ble_eq_true rfl) rfl rfl (mj_Ok.up (Nat.add_le_add_left (by decide) D) (jc_164 (D := D) ty hg oh35 ka40 k41)) rfl rfl (fun v42 h43 qv42 oh43 => ?_)
            obtain rfl : v42 = none := qv42
            refine mj_T.eq (pc2 := 124) (st2 := []) ?_ rfl rfl rfl rfl
            refine mj_T.pl rfl rfl rfl rfl ?_
            exact t135_13 h43 oh43
          refine jT.icmp rfl rz34 ⟨by decide, by decide⟩ (fun c87 => ?_) (fun c87 => ?_)
          · have c87 := jne1 c87
            exact t107_36 h33 oh33
          · have c87 := jne2 c87
            iterate 2 refine mj_T.pl rfl rfl rfl rfl ?_
            refine jT.call rfl rfl (Nat.le_of_ble_eq_true rfl) (Nat.le_of_ble_eq_true rfl) (jrv_of oh33 kp0 (by decide) rfl (by decide) rfl _) rfl (mj_Ok.up (Nat.add_le_add_left (by decide) D) (jc_57 (D := D) ty hg oh33 kp0 ⟨by decide, by decide⟩)) rfl rfl (fun v44 h45 qv44 oh45 => ?_)
            obtain ⟨z46, az46, bz46, rfl⟩ := qv44
            have rz46 : -2147483648 ≤ z46 ∧ z46 ≤ 2147483647 := ⟨by omega, by omega⟩
            refine mj_T.eq (pc2 := 96) (st2 := [.int (jn z46)]) ?_ rfl rfl rfl rfl
            refine jT.if0 rfl rz46 (fun c96 => ?_) (fun c96 => ?_)
            · have c96 := jne1 c96
              exact t107_36 h45 oh45
            · have c96 := jne2 c96
              iterate 2 refine mj_T.pl rfl rfl rfl rfl ?_
              refine jT.getI 14 0 oh45 rfl kp0 (by decide) rfl rfl rfl (fun z47 (az47 : (-2147483648) ≤ z47) (bz47 : z47 ≤ 2147483647) fz47 => ?_)
              have rz47 : -2147483648 ≤ z47 ∧ z47 ≤ 2147483647 := ⟨by omega, by omega⟩
              refine jT.putI 14 0 oh45 rfl kp0 (by decide) rfl rfl rfl (Or.inl rfl) (by show (-2147483648) ≤ z47; omega) (by show z47 ≤ 2147483647; omega) (fun h48 oh48 wh48 uh48 => ?_)
              exact t107_36 h48 oh48
    · have c47 := of_decide_eq_false c47
      refine mj_T.pl rfl rfl rfl rfl ?_
      refine jT.getR 14 102 2 ty oh22 rfl kp0 (by decide) rfl rfl rfl (fun k49 => ?_)
      refine mj_T.pl rfl rfl rfl rfl ?_
      refine jT.lc 1 rfl rfl ?_
      have l50 : 13 ≤ (L (R p0 7) : Int) ∧ (L (R p0 7) : Int) ≤ 13 := jlen 2 ty k49 (by decide) (by decide)
      refine jT.last oh22 rfl k49 ⟨by decide, by decide⟩ ⟨by omega, by omega⟩ ⟨by decide, by decide⟩ (fun h51 oh51 uh51 => ?_)
      refine mj_T.pl rfl rfl rfl rfl ?_
      exact t135_13 h51 oh51
  · have c25 := of_decide_eq_false c25
    refine mj_T.pl rfl rfl rfl rfl ?_
    refine jT.getR 14 102 2 ty oh5 rfl kp0 (by decide) rfl rfl rfl (fun k52 => ?_)
    iterate 2 refine mj_T.pl rfl rfl rfl rfl ?_
    refine jT.call rfl rfl (Nat.le_of_ble_eq_true rfl) (Nat.le_of_ble_eq_true rfl) (jrv_of oh5 kp0 (by decide) rfl (by decide) rfl _) rfl (mj_Ok.up (Nat.add_le_add_left (by decide) D) (jc_54 (D := D) ty hg oh5 kp0)) rfl rfl (fun v53 h54 qv53 oh54 => ?_)
    obtain ⟨z55, jz55, rfl⟩ := qv53
    refine mj_T.eq (pc2 := 37) (st2 := [.long (jl z55), .int (jn 0), .ref (R p0 7)]) ?_ rfl rfl rfl rfl
    have l56 : 13 ≤ (L (R p0 7) : Int) ∧ (L (R p0 7) : Int) ≤ 13 := jlen 2 ty k52 (by decide) (by decide)
    refine jT.last oh54 rfl k52 ⟨by decide, by decide⟩ ⟨by omega, by omega⟩ jz55 (fun h57 oh57 uh57 => ?_)
    refine mj_T.pl rfl rfl rfl rfl ?_
    exact t135_13 h57 oh57
-- PolyRegisters$Reader.readProduct(I)V
theorem jc_50x {D n : Nat} {tm : Int} {h g : mj_H} {K L : Nat → Nat} {R : Nat → Nat → Nat} {p0 : Nat} {p1 : Int} (ty : jTY K L R) (hg : g.length ≤ n) (o : jO K L R g n tm h) (kp0 : K p0 = 14) (rp1 : -2147483648 ≤ p1 ∧ p1 ≤ 2147483647) (hrec : ∀ (z : Int) (h1 : mj_H), p1 < 8 → z = p1 + 1 → jO K L R g n tm h1 → mj_Ok D 49 [.ref p0, .int (jn z)] h1 (jQ K L R g n tm [] jV0)) : mj_Ok (D + 5) 50 [.ref p0, .int (jn p1)] h (jQ K L R g n tm [] jV0) := by
  refine mj_Ok.of (M := mj_m50) (loc := [some (.ref p0), some (.int (jn p1)), none, none, none]) rfl rfl rfl ?_
  refine mj_T.pl rfl rfl rfl rfl ?_
  refine jT.getR 14 106 6 ty o rfl kp0 (by decide) rfl rfl rfl (fun k1 => ?_)
  refine mj_T.pl rfl rfl rfl rfl ?_
  refine jT.callp rfl rfl (Nat.le_of_ble_eq_true rfl) (Nat.le_of_ble_eq_true rfl) rfl rfl (mj_Ok.up (Nat.add_le_add_left (by decide) D) (jc_48 (D := D) ty hg o k1 rp1)) rfl rfl (fun v2 qv2 => ?_)
  obtain ⟨a3, ka3, rfl⟩ := qv2
  refine mj_T.eq (pc2 := 8) (st2 := [.ref a3]) ?_ rfl rfl rfl rfl
  refine mj_T.pl (loc' := [some (.ref p0), some (.int (jn p1)), some (.ref a3), none, none]) rfl rfl rfl rfl ?_
  refine mj_T.pl rfl rfl rfl rfl ?_
  refine jT.call rfl rfl (Nat.le_of_ble_eq_true rfl) (Nat.le_of_ble_eq_true rfl) rfl rfl (mj_Ok.up (Nat.add_le_add_left (by decide) D) (jc_165 (D := D) ty hg o ka3)) rfl rfl (fun v4 h5 qv4 oh5 => ?_)
  obtain rfl : v4 = none := qv4
  refine mj_T.eq (pc2 := 13) (st2 := []) ?_ rfl rfl rfl rfl
  iterate 2 refine mj_T.pl rfl rfl rfl rfl ?_
  refine jT.lc 1 rfl rfl ?_
  have l6 : 13 ≤ (L a3 : Int) ∧ (L a3 : Int) ≤ 13 := jlen 2 ty ka3 (by decide) (by decide)
  refine jT.last oh5 rfl ka3 ⟨by decide, by decide⟩ ⟨by omega, by omega⟩ ⟨by decide, by decide⟩ (fun h7 oh7 uh7 => ?_)
  refine mj_T.pl rfl rfl rfl rfl ?_
  refine mj_T.pl (loc' := [some (.ref p0), some (.int (jn p1)), some (.ref a3), some (.int (jn 0)), none]) rfl rfl rfl rfl ?_
  have t19_11 : ∀ (k12 : Nat) (x8 : Int) (w9 : Option Value) (h10 : mj_H), (-2147483648 ≤ x8 ∧ x8 ≤ 2147483647) → (jO K L R g n tm h10) → (0 ≤ x8) → (2147483647 - x8 : Int).toNat = k12 → mj_T (D + 4) mj_m50 19 [some (.ref p0), some (.int (jn p1)), some (.ref a3), some (.int (jn x8)), w9] [] h10 (jQ K L R g n tm [] jV0) := by
    refine jInd (fun k12 ih13 => ?_)
    intro x8 w9 h10 rx8 oh10 ix8 hm14
    refine mj_T.pl rfl rfl rfl rfl ?_
    refine mj_T.pl rfl rfl rfl rfl ?_
    refine jT.getT oh10 rfl kp0 (fun b15 kb15 => ?_)
    refine jT.getE oh10 rfl kb15 (fun z16 (az16 : 0 ≤ z16) (bz16 : z16 ≤ 340) fz16 => ?_)
    have rz16 : -2147483648 ≤ z16 ∧ z16 ≤ 2147483647 := ⟨by omega, by omega⟩
    refine jT.icmp rfl rx8 rz16 (fun c27 => ?_) (fun c27 => ?_)
    · have c27 := of_decide_eq_true c27
      exact jT.ret oh10 rfl rfl rfl rfl
    · have c27 := of_decide_eq_false c27
      iterate 2 refine mj_T.pl rfl rfl rfl rfl ?_
      refine jT.call rfl rfl (Nat.le_of_ble_eq_true rfl) (Nat.le_of_ble_eq_true rfl) (jrv_of oh10 kp0 (by decide) rfl (by decide) rfl _) rfl (mj_Ok.up (Nat.add_le_add_left (by decide) D) (jc_52x (D := D) ty hg oh10 kp0 rp1 hrec)) rfl rfl (fun v17 h18 qv17 oh18 => ?_)
      obtain ⟨z19, az19, bz19, rfl⟩ := qv17
      have rz19 : -2147483648 ≤ z19 ∧ z19 ≤ 2147483647 := ⟨by omega, by omega⟩
      refine mj_T.eq (pc2 := 35) (st2 := [.int (jn z19)]) ?_ rfl rfl rfl rfl
      refine mj_T.pl (loc' := [some (.ref p0), some (.int (jn p1)), some (.ref a3), some (.int (jn x8)), some (.int (jn z19))]) rfl rfl rfl rfl ?_
      refine mj_T.pl rfl rfl rfl rfl ?_
      refine jT.getI 14 0 oh18 rfl kp0 (by decide) rfl rfl rfl (fun z20 (az20 : (-2147483648) ≤ z20) (bz20 : z20 ≤ 2147483647) fz20 => ?_)
      have rz20 : -2147483648 ≤ z20 ∧ z20 ≤ 2147483647 := ⟨by omega, by omega⟩
      refine mj_T.pl rfl rfl rfl rfl ?_
      refine jT.icmp rfl rz20 ⟨by decide, by decide⟩ (fun c42 => ?_) (fun c42 => ?_)
      · have c42 := of_decide_eq_true c42
        iterate 2 refine mj_T.pl rfl rfl rfl rfl ?_
        have t77_22 : ∀ (h21 : mj_H), (jO K L R g n tm h21) → mj_T (D + 4) mj_m50 77 [some (.ref p0), some (.int (jn p1)), some (.ref a3), some (.int (jn x8)), some (.int (jn z19))] [] h21 (jQ K L R g n tm [] jV0) := by
          intro h21 oh21
          iterate 2 refine mj_T.pl rfl rfl rfl rfl ?_
          refine jT.getR 14 111 11 ty oh21 rfl kp0 (by decide) rfl rfl rfl (fun k23 => ?_)
          iterate 2 refine mj_T.pl rfl rfl rfl rfl ?_
          refine jT.getR 14 102 2 ty oh21 rfl kp0 (by decide) rfl rfl rfl (fun k24 => ?_)
          refine mj_T.pl rfl rfl rfl rfl ?_
          refine jT.call rfl rfl (Nat.le_of_ble_eq_true rfl) (Nat.le_of_ble_eq_true rfl) (jrv_of oh21 k23 (by decide) rfl (by decide) rfl _) rfl (mj_Ok.up (Nat.add_le_add_left (by decide) D) (jc_11 (D := D) ty hg oh21 k23 ka3 k24 ka3)) rfl rfl (fun v25 h26 qv25 oh26 => ?_)
          obtain ⟨z27, az27, bz27, rfl⟩ := qv25
          have rz27 : -2147483648 ≤ z27 ∧ z27 ≤ 2147483647 := ⟨by omega, by omega⟩
          refine mj_T.eq (pc2 := 91) (st2 := [.int (jn z27), .ref p0]) ?_ rfl rfl rfl rfl
          refine mj_T.pl rfl rfl rfl rfl ?_
          refine jT.call rfl rfl (Nat.le_of_ble_eq_true rfl) (Nat.le_of_ble_eq_true rfl) (jrv_of oh26 kp0 (by decide) rfl (by decide) rfl _) rfl (mj_Ok.up (Nat.add_le_add_left (by decide) D) (jc_51 (D := D) ty hg oh26 kp0 ⟨by omega, by omega⟩ ka3)) rfl rfl (fun v28 h29 qv28 oh29 => ?_)
          obtain rfl : v28 = none := qv28
          refine mj_T.eq (pc2 := 95) (st2 := []) ?_ rfl rfl rfl rfl
          iterate 2 refine mj_T.pl rfl rfl rfl rfl ?_
          refine jT.call rfl rfl (Nat.le_of_ble_eq_true rfl) (Nat.le_of_ble_eq_true rfl) (jrv_of oh29 kp0 (by decide) rfl (by decide) rfl _) rfl (mj_Ok.up (Nat.add_le_add_left (by decide) D) (jc_57 (D := D) ty hg oh29 kp0 ⟨by decide, by decide⟩)) rfl rfl (fun v30 h31 qv30 oh31 => ?_)
          obtain ⟨z32, az32, bz32, rfl⟩ := qv30
          have rz32 : -2147483648 ≤ z32 ∧ z32 ≤ 2147483647 := ⟨by omega, by omega⟩
          refine mj_T.eq (pc2 := 101) (st2 := [.int (jn z32)]) ?_ rfl rfl rfl rfl
          refine jT.if0 rfl rz32 (fun c101 => ?_) (fun c101 => ?_)
          · have c101 := jne1 c101
            refine jT.iinc rfl rfl (fun z33 rz33 ez33 => ?_)
            replace ez33 := ez33 ⟨by omega, by omega⟩
            refine mj_T.eq (loc2 := [some (.ref p0), some (.int (jn p1)), some (.ref a3), some (.int (jn z33)), some (.int (jn z19))]) ?_ rfl rfl rfl rfl
            refine mj_T.pl rfl rfl rfl rfl ?_
            exact ih13 ((2147483647 - z33 : Int).toNat) (by omega) z33 (some (.int (jn z19))) h31 rz33 oh31 (by omega) rfl
          · have c101 := jne2 c101
            exact jT.ret oh31 rfl rfl rfl rfl
        refine jT.icmp rfl rz19 ⟨by decide, by decide⟩ (fun c49 => ?_) (fun c49 => ?_)
        · have c49 := of_decide_eq_true c49
          exact t77_22 h18 oh18
        · have c49 := of_decide_eq_false c49
          iterate 2 refine mj_T.pl rfl rfl rfl rfl ?_
          refine jT.getR 14 111 11 ty oh18 rfl kp0 (by decide) rfl rfl rfl (fun k34 => ?_)
          refine mj_T.pl rfl rfl rfl rfl ?_
          refine jT.getR 14 102 2 ty oh18 rfl kp0 (by decide) rfl rfl rfl (fun k35 => ?_)
          iterate 2 refine mj_T.pl rfl rfl rfl rfl ?_
          refine jT.getR 14 102 2 ty oh18 rfl kp0 (by decide) rfl rfl rfl (fun k36 => ?_)
          refine jT.call rfl rfl (Nat.le_of_ble_eq_true rfl) (Nat.le_of_ble_eq_true rfl) (jrv_of oh18 k34 (by decide) rfl (by decide) rfl _) rfl (mj_Ok.up (Nat.add_le_add_left (by decide) D) (jc_12 (D := D) ty hg oh18 k34 k35 rz19 k36)) rfl rfl (fun v37 h38 qv37 oh38 => ?_)
          obtain ⟨z39, az39, bz39, rfl⟩ := qv37
          have rz39 : -2147483648 ≤ z39 ∧ z39 ≤ 2147483647 := ⟨by omega, by omega⟩
          refine mj_T.eq (pc2 := 70) (st2 := [.int (jn z39), .ref p0]) ?_ rfl rfl rfl rfl
          refine mj_T.pl rfl rfl rfl rfl ?_
          refine jT.getR 14 102 2 ty oh38 rfl kp0 (by decide) rfl rfl rfl (fun k40 => ?_)
          refine jT.call rfl rfl (Nat.le_of_ble_eq_true rfl) (Nat.le_of_ble_eq_true rfl) (jrv_of oh38 kp0 (by decide) rfl (by decide) rfl _) rfl (mj_Ok.up (Nat.add_le_add_left (by decide) D) (jc_51 (D := D) ty hg oh38 kp0 ⟨by omega, by omega⟩ k40)) rfl rfl (fun v41 h42 qv41 oh42 => ?_)
          obtain rfl : v41 = none := qv41
          refine mj_T.eq (pc2 := 77) (st2 := []) ?_ rfl rfl rfl rfl
          exact t77_22 h42 oh42
      · have c42 := of_decide_eq_false c42
        exact jT.ret oh18 rfl rfl rfl rfl
  exact t19_11 _ 0 none h7 ⟨by decide, by decide⟩ oh7 (by omega) rfl
-- PolyRegisters$Reader.readSum(I)V
theorem jc_49x {D n : Nat} {tm : Int} {h g : mj_H} {K L : Nat → Nat} {R : Nat → Nat → Nat} {p0 : Nat} {p1 : Int} (ty : jTY K L R) (hg : g.length ≤ n) (o : jO K L R g n tm h) (kp0 : K p0 = 14) (rp1 : -2147483648 ≤ p1 ∧ p1 ≤ 2147483647) (hrec : ∀ (z : Int) (h1 : mj_H), p1 < 8 → z = p1 + 1 → jO K L R g n tm h1 → mj_Ok D 49 [.ref p0, .int (jn z)] h1 (jQ K L R g n tm [] jV0)) : mj_Ok (D + 6) 49 [.ref p0, .int (jn p1)] h (jQ K L R g n tm [] jV0) := by
  refine mj_Ok.of (M := mj_m49) (loc := [some (.ref p0), some (.int (jn p1)), none, none, none, none]) rfl rfl rfl ?_
  refine mj_T.pl rfl rfl rfl rfl ?_
  refine jT.getR 14 106 6 ty o rfl kp0 (by decide) rfl rfl rfl (fun k1 => ?_)
  refine mj_T.pl rfl rfl rfl rfl ?_
  refine jT.callp rfl rfl (Nat.le_of_ble_eq_true rfl) (Nat.le_of_ble_eq_true rfl) rfl rfl (mj_Ok.up (Nat.add_le_add_left (by decide) D) (jc_48 (D := D) ty hg o k1 rp1)) rfl rfl (fun v2 qv2 => ?_)
  obtain ⟨a3, ka3, rfl⟩ := qv2
  refine mj_T.eq (pc2 := 8) (st2 := [.ref a3]) ?_ rfl rfl rfl rfl
  refine mj_T.pl (loc' := [some (.ref p0), some (.int (jn p1)), some (.ref a3), none, none, none]) rfl rfl rfl rfl ?_
  refine mj_T.pl rfl rfl rfl rfl ?_
  refine jT.call rfl rfl (Nat.le_of_ble_eq_true rfl) (Nat.le_of_ble_eq_true rfl) rfl rfl (mj_Ok.up (Nat.add_le_add_left (by decide) D) (jc_165 (D := D) ty hg o ka3)) rfl rfl (fun v4 h5 qv4 oh5 => ?_)
  obtain rfl : v4 = none := qv4
  refine mj_T.eq (pc2 := 13) (st2 := []) ?_ rfl rfl rfl rfl
  iterate 2 refine mj_T.pl rfl rfl rfl rfl ?_
  refine jT.call rfl rfl (Nat.le_of_ble_eq_true rfl) (Nat.le_of_ble_eq_true rfl) (jrv_of oh5 kp0 (by decide) rfl (by decide) rfl _) rfl (mj_Ok.up (Nat.add_le_add_left (by decide) D) (jc_57 (D := D) ty hg oh5 kp0 ⟨by decide, by decide⟩)) rfl rfl (fun v6 h7 qv6 oh7 => ?_)
  obtain ⟨z8, az8, bz8, rfl⟩ := qv6
  have rz8 : -2147483648 ≤ z8 ∧ z8 ≤ 2147483647 := ⟨by omega, by omega⟩
  refine mj_T.eq (pc2 := 19) (st2 := [.int (jn z8)]) ?_ rfl rfl rfl rfl
  refine jT.if0 rfl rz8 (fun c19 => ?_) (fun c19 => ?_)
  · have c19 := of_decide_eq_true c19
    refine mj_T.pl rfl rfl rfl rfl ?_
    refine mj_T.pl (loc' := [some (.ref p0), some (.int (jn p1)), some (.ref a3), some (.int (jn 1)), none, none]) rfl rfl rfl rfl ?_
    refine mj_T.pl rfl rfl rfl rfl ?_
    refine mj_T.pl (loc' := [some (.ref p0), some (.int (jn p1)), some (.ref a3), some (.int (jn 1)), some (.int (jn 0)), none]) rfl rfl rfl rfl ?_
    have t31_13 : ∀ (k14 : Nat) (x9 : Int) (x10 : Int) (w11 : Option Value) (h12 : mj_H), (-2147483648 ≤ x9 ∧ x9 ≤ 2147483647) → (-2147483648 ≤ x10 ∧ x10 ≤ 2147483647) → (jO K L R g n tm h12) → (0 ≤ x10) → (2147483647 - x10 : Int).toNat = k14 → mj_T (D + 5) mj_m49 31 [some (.ref p0), some (.int (jn p1)), some (.ref a3), some (.int (jn x9)), some (.int (jn x10)), w11] [] h12 (jQ K L R g n tm [] jV0) := by
      refine jInd (fun k14 ih15 => ?_)
      intro x9 x10 w11 h12 rx9 rx10 oh12 ix10 hm16
      refine mj_T.pl rfl rfl rfl rfl ?_
      refine mj_T.pl rfl rfl rfl rfl ?_
      refine jT.getT oh12 rfl kp0 (fun b17 kb17 => ?_)
      refine jT.getE oh12 rfl kb17 (fun z18 (az18 : 0 ≤ z18) (bz18 : z18 ≤ 340) fz18 => ?_)
      have rz18 : -2147483648 ≤ z18 ∧ z18 ≤ 2147483647 := ⟨by omega, by omega⟩
      refine jT.icmp rfl rx10 rz18 (fun c40 => ?_) (fun c40 => ?_)
      · have c40 := of_decide_eq_true c40
        exact jT.ret oh12 rfl rfl rfl rfl
      · have c40 := of_decide_eq_false c40
        iterate 2 refine mj_T.pl rfl rfl rfl rfl ?_
        refine jT.call rfl rfl (Nat.le_of_ble_eq_true rfl) (Nat.le_of_ble_eq_true rfl) (jrv_of oh12 kp0 (by decide) rfl (by decide) rfl _) rfl (mj_Ok.up (Nat.add_le_add_left (by decide) D) (jc_50x (D := D) ty hg oh12 kp0 rp1 hrec)) rfl rfl (fun v19 h20 qv19 oh20 => ?_)
        obtain rfl : v19 = none := qv19
        refine mj_T.eq (pc2 := 48) (st2 := []) ?_ rfl rfl rfl rfl
        refine mj_T.pl rfl rfl rfl rfl ?_
        refine jT.getI 14 0 oh20 rfl kp0 (by decide) rfl rfl rfl (fun z21 (az21 : (-2147483648) ≤ z21) (bz21 : z21 ≤ 2147483647) fz21 => ?_)
        have rz21 : -2147483648 ≤ z21 ∧ z21 ≤ 2147483647 := ⟨by omega, by omega⟩
        refine mj_T.pl rfl rfl rfl rfl ?_
        refine jT.icmp rfl rz21 ⟨by decide, by decide⟩ (fun c53 => ?_) (fun c53 => ?_)
        · have c53 := of_decide_eq_true c53
          iterate 3 refine mj_T.pl rfl rfl rfl rfl ?_
          refine jT.getR 14 106 6 ty oh20 rfl kp0 (by decide) rfl rfl rfl (fun k22 => ?_)
          refine mj_T.pl rfl rfl rfl rfl ?_
          refine jT.callp rfl rfl (Nat.le_of_ble_eq_true rfl) (Nat.le_of_ble_eq_true rfl) rfl rfl (mj_Ok.up (Nat.add_le_add_left (by decide) D) (jc_48 (D := D) ty hg oh20 k22 rp1)) rfl rfl (fun v23 qv23 => ?_)
          obtain ⟨a24, ka24, rfl⟩ := qv23
          refine mj_T.eq (pc2 := 67) (st2 := [.ref a24, .ref a3, .ref p0]) ?_ rfl rfl rfl rfl
          iterate 2 refine mj_T.pl rfl rfl rfl rfl ?_
          refine jT.call rfl rfl (Nat.le_of_ble_eq_true rfl) (Nat.le_of_ble_eq_true rfl) rfl rfl (mj_Ok.up (Nat.add_le_add_left (by decide) D) (jc_167 (D := D) ty hg oh20 ka3 ka24 rx9 ka3)) rfl rfl (fun v25 h26 qv25 oh26 => ?_)
          obtain ⟨z27, az27, bz27, rfl⟩ := qv25
          have rz27 : -2147483648 ≤ z27 ∧ z27 ≤ 2147483647 := ⟨by omega, by omega⟩
          refine mj_T.eq (pc2 := 72) (st2 := [.int (jn z27), .ref p0]) ?_ rfl rfl rfl rfl
          refine mj_T.pl rfl rfl rfl rfl ?_
          refine jT.call rfl rfl (Nat.le_of_ble_eq_true rfl) (Nat.le_of_ble_eq_true rfl) (jrv_of oh26 kp0 (by decide) rfl (by decide) rfl _) rfl (mj_Ok.up (Nat.add_le_add_left (by decide) D) (jc_51 (D := D) ty hg oh26 kp0 ⟨by omega, by omega⟩ ka3)) rfl rfl (fun v28 h29 qv28 oh29 => ?_)
          obtain rfl : v28 = none := qv28
          refine mj_T.eq (pc2 := 76) (st2 := []) ?_ rfl rfl rfl rfl
          iterate 2 refine mj_T.pl rfl rfl rfl rfl ?_
          refine jT.call rfl rfl (Nat.le_of_ble_eq_true rfl) (Nat.le_of_ble_eq_true rfl) (jrv_of oh29 kp0 (by decide) rfl (by decide) rfl _) rfl (mj_Ok.up (Nat.add_le_add_left (by decide) D) (jc_57 (D := D) ty hg oh29 kp0 ⟨by decide, by decide⟩)) rfl rfl (fun v30 h31 qv30 oh31 => ?_)
          obtain ⟨z32, az32, bz32, rfl⟩ := qv30
          have rz32 : -2147483648 ≤ z32 ∧ z32 ≤ 2147483647 := ⟨by omega, by omega⟩
          refine mj_T.eq (pc2 := 82) (st2 := [.int (jn z32)]) ?_ rfl rfl rfl rfl
          refine mj_T.pl (loc' := [some (.ref p0), some (.int (jn p1)), some (.ref a3), some (.int (jn x9)), some (.int (jn x10)), some (.int (jn z32))]) rfl rfl rfl rfl ?_
          refine mj_T.pl rfl rfl rfl rfl ?_
          have t99_34 : ∀ (h33 : mj_H), (jO K L R g n tm h33) → mj_T (D + 5) mj_m49 99 [some (.ref p0), some (.int (jn p1)), some (.ref a3), some (.int (jn x9)), some (.int (jn x10)), some (.int (jn z32))] [] h33 (jQ K L R g n tm [] jV0) := by
            intro h33 oh33
            refine mj_T.pl rfl rfl rfl rfl ?_
            refine jT.if0 rfl rz32 (fun c101 => ?_) (fun c101 => ?_)
            · have c101 := of_decide_eq_true c101
              refine mj_T.pl rfl rfl rfl rfl ?_
              refine mj_T.pl (loc' := [some (.ref p0), some (.int (jn p1)), some (.ref a3), some (.int (jn (-1))), some (.int (jn x10)), some (.int (jn z32))]) rfl rfl rfl rfl ?_
              refine jT.iinc rfl rfl (fun z35 rz35 ez35 => ?_)
              replace ez35 := ez35 ⟨by omega, by omega⟩
              refine mj_T.eq (loc2 := [some (.ref p0), some (.int (jn p1)), some (.ref a3), some (.int (jn (-1))), some (.int (jn z35)), some (.int (jn z32))]) ?_ rfl rfl rfl rfl
              refine mj_T.pl rfl rfl rfl rfl ?_
              exact ih15 ((2147483647 - z35 : Int).toNat) (by omega) (-1) z35 (some (.int (jn z32))) h33 ⟨by decide, by decide⟩ rz35 oh33 (by omega) rfl
            · have c101 := of_decide_eq_false c101
              iterate 2 refine mj_T.pl rfl rfl rfl rfl ?_
              refine mj_T.pl (loc' := [some (.ref p0), some (.int (jn p1)), some (.ref a3), some (.int (jn 1)), some (.int (jn x10)), some (.int (jn z32))]) rfl rfl rfl rfl ?_
              refine jT.iinc rfl rfl (fun z36 rz36 ez36 => ?_)
              replace ez36 := ez36 ⟨by omega, by omega⟩
              refine mj_T.eq (loc2 := [some (.ref p0), some (.int (jn p1)), some (.ref a3), some (.int (jn 1)), some (.int (jn z36)), some (.int (jn z32))]) ?_ rfl rfl rfl rfl
              refine mj_T.pl rfl rfl rfl rfl ?_
              exact ih15 ((2147483647 - z36 : Int).toNat) (by omega) 1 z36 (some (.int (jn z32))) h33 ⟨by decide, by decide⟩ rz36 oh33 (by omega) rfl
          refine jT.if0 rfl rz32 (fun c86 => ?_) (fun c86 => ?_)
          · have c86 := jne1 c86
            exact t99_34 h31 oh31
          · have c86 := jne2 c86
            iterate 2 refine mj_T.pl rfl rfl rfl rfl ?_
            refine jT.call rfl rfl (Nat.le_of_ble_eq_true rfl) (Nat.le_of_ble_eq_true rfl) (jrv_of oh31 kp0 (by decide) rfl (by decide) rfl _) rfl (mj_Ok.up (Nat.add_le_add_left (by decide) D) (jc_57 (D := D) ty hg oh31 kp0 ⟨by decide, by decide⟩)) rfl rfl (fun v37 h38 qv37 oh38 => ?_)
            obtain ⟨z39, az39, bz39, rfl⟩ := qv37
            have rz39 : -2147483648 ≤ z39 ∧ z39 ≤ 2147483647 := ⟨by omega, by omega⟩
            refine mj_T.eq (pc2 := 95) (st2 := [.int (jn z39)]) ?_ rfl rfl rfl rfl
            refine jT.if0 rfl rz39 (fun c95 => ?_) (fun c95 => ?_)
            · have c95 := jne1 c95
              exact t99_34 h38 oh38
            · have c95 := jne2 c95
              exact jT.ret oh38 rfl rfl rfl rfl
        · have c53 := of_decide_eq_false c53
          exact jT.ret oh20 rfl rfl rfl rfl
    exact t31_13 _ 1 0 none h7 ⟨by decide, by decide⟩ ⟨by decide, by decide⟩ oh7 (by omega) rfl
  · have c19 := of_decide_eq_false c19
    iterate 2 refine mj_T.pl rfl rfl rfl rfl ?_
    refine mj_T.pl (loc' := [some (.ref p0), some (.int (jn p1)), some (.ref a3), some (.int (jn (-1))), none, none]) rfl rfl rfl rfl ?_
    refine mj_T.pl rfl rfl rfl rfl ?_
    refine mj_T.pl (loc' := [some (.ref p0), some (.int (jn p1)), some (.ref a3), some (.int (jn (-1))), some (.int (jn 0)), none]) rfl rfl rfl rfl ?_
    have t31_44 : ∀ (k45 : Nat) (x40 : Int) (x41 : Int) (w42 : Option Value) (h43 : mj_H), (-2147483648 ≤ x40 ∧ x40 ≤ 2147483647) → (-2147483648 ≤ x41 ∧ x41 ≤ 2147483647) → (jO K L R g n tm h43) → (0 ≤ x41) → (2147483647 - x41 : Int).toNat = k45 → mj_T (D + 5) mj_m49 31 [some (.ref p0), some (.int (jn p1)), some (.ref a3), some (.int (jn x40)), some (.int (jn x41)), w42] [] h43 (jQ K L R g n tm [] jV0) := by
      refine jInd (fun k45 ih46 => ?_)
      intro x40 x41 w42 h43 rx40 rx41 oh43 ix41 hm47
      refine mj_T.pl rfl rfl rfl rfl ?_
      refine mj_T.pl rfl rfl rfl rfl ?_
      refine jT.getT oh43 rfl kp0 (fun b48 kb48 => ?_)
      refine jT.getE oh43 rfl kb48 (fun z49 (az49 : 0 ≤ z49) (bz49 : z49 ≤ 340) fz49 => ?_)
      have rz49 : -2147483648 ≤ z49 ∧ z49 ≤ 2147483647 := ⟨by omega, by omega⟩
      refine jT.icmp rfl rx41 rz49 (fun c40 => ?_) (fun c40 => ?_)
      · have c40 := of_decide_eq_true c40
        exact jT.ret oh43 rfl rfl rfl rfl
      · have c40 := of_decide_eq_false c40
        iterate 2 refine mj_T.pl rfl rfl rfl rfl ?_
        refine jT.call rfl rfl (Nat.le_of_ble_eq_true rfl) (Nat.le_of_ble_eq_true rfl) (jrv_of oh43 kp0 (by decide) rfl (by decide) rfl _) rfl (mj_Ok.up (Nat.add_le_add_left (by decide) D) (jc_50x (D := D) ty hg oh43 kp0 rp1 hrec)) rfl rfl (fun v50 h51 qv50 oh51 => ?_)
        obtain rfl : v50 = none := qv50
        refine mj_T.eq (pc2 := 48) (st2 := []) ?_ rfl rfl rfl rfl
        refine mj_T.pl rfl rfl rfl rfl ?_
        refine jT.getI 14 0 oh51 rfl kp0 (by decide) rfl rfl rfl (fun z52 (az52 : (-2147483648) ≤ z52) (bz52 : z52 ≤ 2147483647) fz52 => ?_)
        have rz52 : -2147483648 ≤ z52 ∧ z52 ≤ 2147483647 := ⟨by omega, by omega⟩
        refine mj_T.pl rfl rfl rfl rfl ?_
        refine jT.icmp rfl rz52 ⟨by decide, by decide⟩ (fun c53 => ?_) (fun c53 => ?_)
        · have c53 := of_decide_eq_true c53
          iterate 3 refine mj_T.pl rfl rfl rfl rfl ?_
          refine jT.getR 14 106 6 ty oh51 rfl kp0 (by decide) rfl rfl rfl (fun k53 => ?_)
          refine mj_T.pl rfl rfl rfl rfl ?_
          refine jT.callp rfl rfl (Nat.le_of_ble_eq_true rfl) (Nat.le_of_ble_eq_true rfl) rfl rfl (mj_Ok.up (Nat.add_le_add_left (by decide) D) (jc_48 (D := D) ty hg oh51 k53 rp1)) rfl rfl (fun v54 qv54 => ?_)
          obtain ⟨a55, ka55, rfl⟩ := qv54
          refine mj_T.eq (pc2 := 67) (st2 := [.ref a55, .ref a3, .ref p0]) ?_ rfl rfl rfl rfl
          iterate 2 refine mj_T.pl rfl rfl rfl rfl ?_
          refine jT.call rfl rfl (Nat.le_of_ble_eq_true rfl) (Nat.le_of_ble_eq_true rfl) rfl rfl (mj_Ok.up (Nat.add_le_add_left (by decide) D) (jc_167 (D := D) ty hg oh51 ka3 ka55 rx40 ka3)) rfl rfl (fun v56 h57 qv56 oh57 => ?_)
          obtain ⟨z58, az58, bz58, rfl⟩ := qv56
          have rz58 : -2147483648 ≤ z58 ∧ z58 ≤ 2147483647 := ⟨by omega, by omega⟩
          refine mj_T.eq (pc2 := 72) (st2 := [.int (jn z58), .ref p0]) ?_ rfl rfl rfl rfl
          refine mj_T.pl rfl rfl rfl rfl ?_
          refine jT.call rfl rfl (Nat.le_of_ble_eq_true rfl) (Nat.le_of_ble_eq_true rfl) (jrv_of oh57 kp0 (by decide) rfl (by decide) rfl _) rfl (mj_Ok.up (Nat.add_le_add_left (by decide) D) (jc_51 (D := D) ty hg oh57 kp0 ⟨by omega, by omega⟩ ka3)) rfl rfl (fun v59 h60 qv59 oh60 => ?_)
          obtain rfl : v59 = none := qv59
          refine mj_T.eq (pc2 := 76) (st2 := []) ?_ rfl rfl rfl rfl
          iterate 2 refine mj_T.pl rfl rfl rfl rfl ?_
          refine jT.call rfl rfl (Nat.le_of_ble_eq_true rfl) (Nat.le_of_ble_eq_true rfl) (jrv_of oh60 kp0 (by decide) rfl (by decide) rfl _) rfl (mj_Ok.up (Nat.add_le_add_left (by decide) D) (jc_57 (D := D) ty hg oh60 kp0 ⟨by decide, by decide⟩)) rfl rfl (fun v61 h62 qv61 oh62 => ?_)
          obtain ⟨z63, az63, bz63, rfl⟩ := qv61
          have rz63 : -2147483648 ≤ z63 ∧ z63 ≤ 2147483647 := ⟨by omega, by omega⟩
          refine mj_T.eq (pc2 := 82) (st2 := [.int (jn z63)]) ?_ rfl rfl rfl rfl
          refine mj_T.pl (loc' := [some (.ref p0), some (.int (jn p1)), some (.ref a3), some (.int (jn x40)), some (.int (jn x41)), some (.int (jn z63))]) rfl rfl rfl rfl ?_
          refine mj_T.pl rfl rfl rfl rfl ?_
          have t99_65 : ∀ (h64 : mj_H), (jO K L R g n tm h64) → mj_T (D + 5) mj_m49 99 [some (.ref p0), some (.int (jn p1)), some (.ref a3), some (.int (jn x40)), some (.int (jn x41)), some (.int (jn z63))] [] h64 (jQ K L R g n tm [] jV0) := by
            intro h64 oh64
            refine mj_T.pl rfl rfl rfl rfl ?_
            refine jT.if0 rfl rz63 (fun c101 => ?_) (fun c101 => ?_)
            · have c101 := of_decide_eq_true c101
              refine mj_T.pl rfl rfl rfl rfl ?_
              refine mj_T.pl (loc' := [some (.ref p0), some (.int (jn p1)), some (.ref a3), some (.int (jn (-1))), some (.int (jn x41)), some (.int (jn z63))]) rfl rfl rfl rfl ?_
              refine jT.iinc rfl rfl (fun z66 rz66 ez66 => ?_)
              replace ez66 := ez66 ⟨by omega, by omega⟩
              refine mj_T.eq (loc2 := [some (.ref p0), some (.int (jn p1)), some (.ref a3), some (.int (jn (-1))), some (.int (jn z66)), some (.int (jn z63))]) ?_ rfl rfl rfl rfl
              refine mj_T.pl rfl rfl rfl rfl ?_
              exact ih46 ((2147483647 - z66 : Int).toNat) (by omega) (-1) z66 (some (.int (jn z63))) h64 ⟨by decide, by decide⟩ rz66 oh64 (by omega) rfl
            · have c101 := of_decide_eq_false c101
              iterate 2 refine mj_T.pl rfl rfl rfl rfl ?_
              refine mj_T.pl (loc' := [some (.ref p0), some (.int (jn p1)), some (.ref a3), some (.int (jn 1)), some (.int (jn x41)), some (.int (jn z63))]) rfl rfl rfl rfl ?_
              refine jT.iinc rfl rfl (fun z67 rz67 ez67 => ?_)
              replace ez67 := ez67 ⟨by omega, by omega⟩
              refine mj_T.eq (loc2 := [some (.ref p0), some (.int (jn p1)), some (.ref a3), some (.int (jn 1)), some (.int (jn z67)), some (.int (jn z63))]) ?_ rfl rfl rfl rfl
              refine mj_T.pl rfl rfl rfl rfl ?_
              exact ih46 ((2147483647 - z67 : Int).toNat) (by omega) 1 z67 (some (.int (jn z63))) h64 ⟨by decide, by decide⟩ rz67 oh64 (by omega) rfl
          refine jT.if0 rfl rz63 (fun c86 => ?_) (fun c86 => ?_)
          · have c86 := jne1 c86
            exact t99_65 h62 oh62
          · have c86 := jne2 c86
            iterate 2 refine mj_T.pl rfl rfl rfl rfl ?_
            refine jT.call rfl rfl (Nat.le_of_ble_eq_true rfl) (Nat.le_of_ble_eq_true rfl) (jrv_of oh62 kp0 (by decide) rfl (by decide) rfl _) rfl (mj_Ok.up (Nat.add_le_add_left (by decide) D) (jc_57 (D := D) ty hg oh62 kp0 ⟨by decide, by decide⟩)) rfl rfl (fun v68 h69 qv68 oh69 => ?_)
            obtain ⟨z70, az70, bz70, rfl⟩ := qv68
            have rz70 : -2147483648 ≤ z70 ∧ z70 ≤ 2147483647 := ⟨by omega, by omega⟩
            refine mj_T.eq (pc2 := 95) (st2 := [.int (jn z70)]) ?_ rfl rfl rfl rfl
            refine jT.if0 rfl rz70 (fun c95 => ?_) (fun c95 => ?_)
            · have c95 := jne1 c95
              exact t99_65 h69 oh69
            · have c95 := jne2 c95
              exact jT.ret oh69 rfl rfl rfl rfl
        · have c53 := of_decide_eq_false c53
          exact jT.ret oh51 rfl rfl rfl rfl
    exact t31_44 _ (-1) 0 none h7 ⟨by decide, by decide⟩ ⟨by decide, by decide⟩ oh7 (by omega) rfl
theorem jc_49 {n : Nat} {tm : Int} {g : mj_H} {K L : Nat → Nat} {R : Nat → Nat → Nat} {p0 : Nat} (ty : jTY K L R) (hg : g.length ≤ n) (kp0 : K p0 = 14) : ∀ (k : Nat) {D : Nat} {p1 : Int} {h : mj_H}, 8 - p1 ≤ k → (-2147483648 ≤ p1 ∧ p1 ≤ 2147483647) → jO K L R g n tm h → mj_Ok (D + 6 * (k + 1)) 49 [.ref p0, .int (jn p1)] h (jQ K L R g n tm [] jV0)
  | 0, D, p1, h, hk, hr, o => jc_49x ty hg o kp0 hr (fun z h1 q _ _ => absurd q (by omega))
  | k + 1, D, p1, h, hk, hr, o => jc_49x (D := D + 6 * (k + 1)) ty hg o kp0 hr (fun z h1 q e o1 => jc_49 ty hg kp0 k (by omega) ⟨by omega, by omega⟩ o1)
-- PolyRegisters$Reader.accepts(LPolyRegisters$Text;)Z
theorem jc_46 {D n : Nat} {tm : Int} {h g : mj_H} {K L : Nat → Nat} {R : Nat → Nat → Nat} {p0 : Nat} {p1 : Nat} (ty : jTY K L R) (hg : g.length ≤ n) (o : jO K L R g n tm h) (kp0 : K p0 = 14) (kp1 : K p1 = 17 ∨ K p1 = 27) : mj_Ok (D + 55) 46 [.ref p0, .ref p1] h (jQ K L R g n tm [] (jVi 0 1)) := by
  refine mj_Ok.of (M := mj_m46) (loc := [some (.ref p0), some (.ref p1)]) rfl rfl rfl ?_
  iterate 2 refine mj_T.pl rfl rfl rfl rfl ?_
  refine jT.putT o rfl kp0 kp1 (fun h1 oh1 uh1 => ?_)
  iterate 2 refine mj_T.pl rfl rfl rfl rfl ?_
  refine jT.putI 14 0 oh1 rfl kp0 (by decide) rfl rfl rfl (Or.inl rfl) (by show (-2147483648) ≤ 0; omega) (by show 0 ≤ 2147483647; omega) (fun h2 oh2 wh2 uh2 => ?_)
  iterate 2 refine mj_T.pl rfl rfl rfl rfl ?_
  refine jT.putI 14 0 oh2 rfl kp0 (by decide) rfl rfl rfl (Or.inl rfl) (by show (-2147483648) ≤ (-1); omega) (by show (-1) ≤ 2147483647; omega) (fun h3 oh3 wh3 uh3 => ?_)
  iterate 2 refine mj_T.pl rfl rfl rfl rfl ?_
  refine jT.putI 14 2 oh3 rfl kp0 (by decide) rfl rfl rfl (Or.inr ⟨rfl, rfl⟩) (by show 0 ≤ 0; omega) (by show 0 ≤ 1; omega) (fun h4 oh4 wh4 uh4 => ?_)
  iterate 2 refine mj_T.pl rfl rfl rfl rfl ?_
  refine jT.call rfl rfl (Nat.le_of_ble_eq_true rfl) (Nat.le_of_ble_eq_true rfl) (jrv_of oh4 kp0 (by decide) rfl (by decide) rfl _) rfl (mj_Ok.up (Nat.add_le_add_left (by decide) D) (jc_49 ty hg kp0 8 (D := D) (by omega) ⟨by decide, by decide⟩ oh4)) rfl rfl (fun v5 h6 qv5 oh6 => ?_)
  obtain rfl : v5 = none := qv5
  refine mj_T.eq (pc2 := 25) (st2 := []) ?_ rfl rfl rfl rfl
  refine mj_T.pl rfl rfl rfl rfl ?_
  refine jT.getI 14 0 oh6 rfl kp0 (by decide) rfl rfl rfl (fun z7 (az7 : (-2147483648) ≤ z7) (bz7 : z7 ≤ 2147483647) fz7 => ?_)
  have rz7 : -2147483648 ≤ z7 ∧ z7 ≤ 2147483647 := ⟨by omega, by omega⟩
  refine mj_T.pl rfl rfl rfl rfl ?_
  have t55_9 : ∀ (h8 : mj_H), (jO K L R g n tm h8) → mj_T (D + 54) mj_m46 55 [some (.ref p0), some (.ref p1)] [] h8 (jQ K L R g n tm [] (jVi 0 1)) := by
    intro h8 oh8
    refine mj_T.pl rfl rfl rfl rfl ?_
    refine jT.getI 14 0 oh8 rfl kp0 (by decide) rfl rfl rfl (fun z10 (az10 : (-2147483648) ≤ z10) (bz10 : z10 ≤ 2147483647) fz10 => ?_)
    have rz10 : -2147483648 ≤ z10 ∧ z10 ≤ 2147483647 := ⟨by omega, by omega⟩
    refine mj_T.pl rfl rfl rfl rfl ?_
    refine jT.icmp rfl rz10 ⟨by decide, by decide⟩ (fun c60 => ?_) (fun c60 => ?_)
    · have c60 := jne1 c60
      refine mj_T.pl rfl rfl rfl rfl ?_
      exact jT.retb oh8 rfl rfl (by omega) (by omega)
    · have c60 := jne2 c60
      iterate 2 refine mj_T.pl rfl rfl rfl rfl ?_
      exact jT.retb oh8 rfl rfl (by omega) (by omega)
  refine jT.icmp rfl rz7 ⟨by decide, by decide⟩ (fun c30 => ?_) (fun c30 => ?_)
  · have c30 := jne1 c30
    exact t55_9 h6 oh6
  · have c30 := jne2 c30
    refine mj_T.pl rfl rfl rfl rfl ?_
    refine jT.getI 14 0 oh6 rfl kp0 (by decide) rfl rfl rfl (fun z11 (az11 : (-2147483648) ≤ z11) (bz11 : z11 ≤ 2147483647) fz11 => ?_)
    have rz11 : -2147483648 ≤ z11 ∧ z11 ≤ 2147483647 := ⟨by omega, by omega⟩
    refine mj_T.pl rfl rfl rfl rfl ?_
    refine jT.getT oh6 rfl kp0 (fun b12 kb12 => ?_)
    refine jT.getE oh6 rfl kb12 (fun z13 (az13 : 0 ≤ z13) (bz13 : z13 ≤ 340) fz13 => ?_)
    have rz13 : -2147483648 ≤ z13 ∧ z13 ≤ 2147483647 := ⟨by omega, by omega⟩
    refine jT.icmp rfl rz11 rz13 (fun c44 => ?_) (fun c44 => ?_)
    · have c44 := of_decide_eq_true c44
      exact t55_9 h6 oh6
    · have c44 := of_decide_eq_false c44
      iterate 2 refine mj_T.pl rfl rfl rfl rfl ?_
      refine jT.getK 14 0 oh6 rfl kp0 (by decide) rfl rfl rfl fz11.symm ?_
      refine jT.putI 14 0 oh6 rfl kp0 (by decide) rfl rfl rfl (Or.inl rfl) (by show (-2147483648) ≤ z11; omega) (by show z11 ≤ 2147483647; omega) (fun h14 oh14 wh14 uh14 => ?_)
      exact t55_9 h14 oh14
