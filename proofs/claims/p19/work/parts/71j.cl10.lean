/-! The class by kinds: its methods. -/
-- PolyRegisters$Roots.takePrimitive(LPolyRegisters$Poly;J)V
theorem jc_60 {D n : Nat} {tm : Int} {h g : mj_H} {K L : Nat → Nat} {R : Nat → Nat → Nat} {p0 : Nat} {p1 : Nat} {p2 : Int} (ty : jTY K L R) (hg : g.length ≤ n) (o : jO K L R g n tm h) (kp0 : K p0 = 15) (kp1 : K p1 = 13) (jp2 : jR p2) : mj_Ok (D + 5) 60 [.ref p0, .ref p1, .long (jl p2)] h (jQ K L R g n tm [] jV0) := by
  refine mj_Ok.of (M := mj_m60) (loc := [some (.ref p0), some (.ref p1), some (.long (jl p2)), none, none]) rfl rfl rfl ?_
  refine mj_T.pl rfl rfl rfl rfl ?_
  refine jT.getR 15 111 11 ty o rfl kp0 (by decide) rfl rfl rfl (fun k1 => ?_)
  refine jT.getR 11 113 13 ty o rfl k1 (by decide) rfl rfl rfl (fun k2 => ?_)
  refine jT.call rfl rfl (Nat.le_of_ble_eq_true rfl) (Nat.le_of_ble_eq_true rfl) (jrv_of o k2 (by decide) rfl (by decide) rfl _) rfl (mj_Ok.up (Nat.add_le_add_left (by decide) D) (jc_39 (D := D) ty hg o k2)) rfl rfl (fun v3 h4 qv3 oh4 => ?_)
  obtain rfl : v3 = none := qv3
  refine mj_T.eq (pc2 := 10) (st2 := []) ?_ rfl rfl rfl rfl
  refine mj_T.pl rfl rfl rfl rfl ?_
  refine jT.getR 15 111 11 ty oh4 rfl kp0 (by decide) rfl rfl rfl (fun k5 => ?_)
  refine jT.getR 11 112 12 ty oh4 rfl k5 (by decide) rfl rfl rfl (fun k6 => ?_)
  refine mj_T.pl rfl rfl rfl rfl ?_
  refine jT.callp rfl rfl (Nat.le_of_ble_eq_true rfl) (Nat.le_of_ble_eq_true rfl) (jrv_of oh4 kp1 (by decide) rfl (by decide) rfl _) rfl (mj_Ok.up (Nat.add_le_add_left (by decide) D) (jc_37 (D := D) ty hg oh4 kp1)) rfl rfl (fun v7 qv7 => ?_)
  obtain ⟨a8, ka8, rfl⟩ := qv7
  refine mj_T.eq (pc2 := 21) (st2 := [.ref a8, .ref (R (R p0 0) 7)]) ?_ rfl rfl rfl rfl
  refine jT.call rfl rfl (Nat.le_of_ble_eq_true rfl) (Nat.le_of_ble_eq_true rfl) (jrv_of oh4 k6 (by decide) rfl (by decide) rfl _) rfl (mj_Ok.up (Nat.add_le_add_left (by decide) D) (jc_30 (D := D) ty hg oh4 k6 ka8)) rfl rfl (fun v9 h10 qv9 oh10 => ?_)
  obtain rfl : v9 = none := qv9
  refine mj_T.eq (pc2 := 24) (st2 := []) ?_ rfl rfl rfl rfl
  refine mj_T.pl rfl rfl rfl rfl ?_
  refine mj_T.pl (loc' := [some (.ref p0), some (.ref p1), some (.long (jl p2)), none, some (.int (jn 0))]) rfl rfl rfl rfl ?_
  have t27_13 : ∀ (k14 : Nat) (x11 : Int) (h12 : mj_H), (-2147483648 ≤ x11 ∧ x11 ≤ 2147483647) → (jO K L R g n tm h12) → (0 ≤ x11) → (2147483647 - x11 : Int).toNat = k14 → mj_T (D + 4) mj_m60 27 [some (.ref p0), some (.ref p1), some (.long (jl p2)), none, some (.int (jn x11))] [] h12 (jQ K L R g n tm [] jV0) := by
    refine jInd (fun k14 ih15 => ?_)
    intro x11 h12 rx11 oh12 ix11 hm16
    refine mj_T.pl rfl rfl rfl rfl ?_
    refine mj_T.pl rfl rfl rfl rfl ?_
    refine jT.getI 13 6 oh12 rfl kp1 (by decide) rfl rfl rfl (fun z17 (az17 : (-1) ≤ z17) (bz17 : z17 ≤ 30) fz17 => ?_)
    have rz17 : -2147483648 ≤ z17 ∧ z17 ≤ 2147483647 := ⟨by omega, by omega⟩
    refine jT.icmp rfl rx11 rz17 (fun c33 => ?_) (fun c33 => ?_)
    · have c33 := of_decide_eq_true c33
      refine mj_T.pl rfl rfl rfl rfl ?_
      refine jT.getR 15 111 11 ty oh12 rfl kp0 (by decide) rfl rfl rfl (fun k18 => ?_)
      refine jT.getR 11 113 13 ty oh12 rfl k18 (by decide) rfl rfl rfl (fun k19 => ?_)
      refine jT.call rfl rfl (Nat.le_of_ble_eq_true rfl) (Nat.le_of_ble_eq_true rfl) (jrv_of oh12 k19 (by decide) rfl (by decide) rfl _) rfl (mj_Ok.up (Nat.add_le_add_left (by decide) D) (jc_42 (D := D) ty hg oh12 k19)) rfl rfl (fun v20 h21 qv20 oh21 => ?_)
      obtain rfl : v20 = none := qv20
      refine mj_T.eq (pc2 := 112) (st2 := []) ?_ rfl rfl rfl rfl
      refine mj_T.pl rfl rfl rfl rfl ?_
      refine jT.getR 15 111 11 ty oh21 rfl kp0 (by decide) rfl rfl rfl (fun k22 => ?_)
      refine mj_T.pl rfl rfl rfl rfl ?_
      refine jT.call rfl rfl (Nat.le_of_ble_eq_true rfl) (Nat.le_of_ble_eq_true rfl) (jrv_of oh21 k22 (by decide) rfl (by decide) rfl _) rfl (mj_Ok.up (Nat.add_le_add_left (by decide) D) (jc_22 (D := D) ty hg oh21 k22 jp2)) rfl rfl (fun v23 h24 qv23 oh24 => ?_)
      obtain ⟨z25, jz25, rfl⟩ := qv23
      refine mj_T.eq (pc2 := 120) (st2 := [.long (jl z25)]) ?_ rfl rfl rfl rfl
      refine mj_T.pl rfl rfl rfl rfl ?_
      exact jT.ret oh24 rfl rfl rfl rfl
    · have c33 := of_decide_eq_false c33
      refine mj_T.pl rfl rfl rfl rfl ?_
      refine jT.getR 15 111 11 ty oh12 rfl kp0 (by decide) rfl rfl rfl (fun k26 => ?_)
      refine jT.getR 11 118 18 ty oh12 rfl k26 (by decide) rfl rfl rfl (fun k27 => ?_)
      iterate 2 refine mj_T.pl rfl rfl rfl rfl ?_
      refine jT.callp rfl rfl (Nat.le_of_ble_eq_true rfl) (Nat.le_of_ble_eq_true rfl) (jrv_of oh12 kp1 (by decide) rfl (by decide) rfl _) rfl (mj_Ok.up (Nat.add_le_add_left (by decide) D) (jc_36 (D := D) ty hg oh12 kp1 rx11)) rfl rfl (fun v28 qv28 => ?_)
      obtain ⟨a29, ka29, rfl⟩ := qv28
      refine mj_T.eq (pc2 := 49) (st2 := [.ref a29, .ref (R (R p0 0) 5)]) ?_ rfl rfl rfl rfl
      refine jT.call rfl rfl (Nat.le_of_ble_eq_true rfl) (Nat.le_of_ble_eq_true rfl) (jrv_of oh12 k27 (by decide) rfl (by decide) rfl _) rfl (mj_Ok.up (Nat.add_le_add_left (by decide) D) (jc_87 (D := D) ty hg oh12 k27 ka29)) rfl rfl (fun v30 h31 qv30 oh31 => ?_)
      obtain rfl : v30 = none := qv30
      refine mj_T.eq (pc2 := 52) (st2 := []) ?_ rfl rfl rfl rfl
      refine mj_T.pl rfl rfl rfl rfl ?_
      refine jT.getR 15 111 11 ty oh31 rfl kp0 (by decide) rfl rfl rfl (fun k32 => ?_)
      refine mj_T.pl rfl rfl rfl rfl ?_
      refine jT.getR 15 111 11 ty oh31 rfl kp0 (by decide) rfl rfl rfl (fun k33 => ?_)
      refine jT.getR 11 118 18 ty oh31 rfl k33 (by decide) rfl rfl rfl (fun k34 => ?_)
      refine mj_T.pl rfl rfl rfl rfl ?_
      refine jT.call rfl rfl (Nat.le_of_ble_eq_true rfl) (Nat.le_of_ble_eq_true rfl) (jrv_of oh31 k32 (by decide) rfl (by decide) rfl _) rfl (mj_Ok.up (Nat.add_le_add_left (by decide) D) (jc_24 (D := D) ty hg oh31 k32 k34 jp2)) rfl rfl (fun v35 h36 qv35 oh36 => ?_)
      obtain rfl : v35 = none := qv35
      refine mj_T.eq (pc2 := 67) (st2 := []) ?_ rfl rfl rfl rfl
      refine mj_T.pl rfl rfl rfl rfl ?_
      refine jT.getR 15 111 11 ty oh36 rfl kp0 (by decide) rfl rfl rfl (fun k37 => ?_)
      refine jT.getR 11 112 12 ty oh36 rfl k37 (by decide) rfl rfl rfl (fun k38 => ?_)
      refine mj_T.pl rfl rfl rfl rfl ?_
      refine jT.getR 15 111 11 ty oh36 rfl kp0 (by decide) rfl rfl rfl (fun k39 => ?_)
      refine jT.getR 11 118 18 ty oh36 rfl k39 (by decide) rfl rfl rfl (fun k40 => ?_)
      refine mj_T.pl rfl rfl rfl rfl ?_
      refine jT.getR 15 111 11 ty oh36 rfl kp0 (by decide) rfl rfl rfl (fun k41 => ?_)
      refine jT.getR 11 113 13 ty oh36 rfl k41 (by decide) rfl rfl rfl (fun k42 => ?_)
      refine mj_T.pl rfl rfl rfl rfl ?_
      refine jT.callp rfl rfl (Nat.le_of_ble_eq_true rfl) (Nat.le_of_ble_eq_true rfl) (jrv_of oh36 k42 (by decide) rfl (by decide) rfl _) rfl (mj_Ok.up (Nat.add_le_add_left (by decide) D) (jc_36 (D := D) ty hg oh36 k42 rx11)) rfl rfl (fun v43 qv43 => ?_)
      obtain ⟨a44, ka44, rfl⟩ := qv43
      refine mj_T.eq (pc2 := 93) (st2 := [.ref a44, .ref (R (R p0 0) 5), .ref (R (R p0 0) 7)]) ?_ rfl rfl rfl rfl
      refine jT.call rfl rfl (Nat.le_of_ble_eq_true rfl) (Nat.le_of_ble_eq_true rfl) (jrv_of oh36 k38 (by decide) rfl (by decide) rfl _) rfl (mj_Ok.up (Nat.add_le_add_left (by decide) D) (jc_31 (D := D) ty hg oh36 k38 k40 ka44)) rfl rfl (fun v45 h46 qv45 oh46 => ?_)
      obtain rfl : v45 = none := qv45
      refine mj_T.eq (pc2 := 96) (st2 := []) ?_ rfl rfl rfl rfl
      refine jT.iinc rfl rfl (fun z47 rz47 ez47 => ?_)
      replace ez47 := ez47 ⟨by omega, by omega⟩
      refine mj_T.eq (loc2 := [some (.ref p0), some (.ref p1), some (.long (jl p2)), none, some (.int (jn z47))]) ?_ rfl rfl rfl rfl
      refine mj_T.pl rfl rfl rfl rfl ?_
      exact ih15 ((2147483647 - z47 : Int).toNat) (by omega) z47 h46 rz47 oh46 (by omega) rfl
  exact t27_13 _ 0 h10 ⟨by decide, by decide⟩ oh10 (by omega) rfl
-- PolyRegisters$Roots.shareRows([J[J[J)Z
theorem jc_59 {D n : Nat} {tm : Int} {h g : mj_H} {K L : Nat → Nat} {R : Nat → Nat → Nat} {p0 : Nat} {p1 : Nat} {p2 : Nat} {p3 : Nat} (ty : jTY K L R) (hg : g.length ≤ n) (o : jO K L R g n tm h) (kp0 : K p0 = 15) (kp1 : K p1 = 2) (kp2 : K p2 = 2) (kp3 : K p3 = 2) : mj_Ok (D + 6) 59 [.ref p0, .ref p1, .ref p2, .ref p3] h (jQ K L R g n tm [] (jVi 0 1)) := by
  refine mj_Ok.of (M := mj_m59) (loc := [some (.ref p0), some (.ref p1), some (.ref p2), some (.ref p3), none, none, none, none, none, none]) rfl rfl rfl ?_
  refine mj_T.pl rfl rfl rfl rfl ?_
  refine jT.callp rfl rfl (Nat.le_of_ble_eq_true rfl) (Nat.le_of_ble_eq_true rfl) rfl rfl (mj_Ok.up (Nat.add_le_add_left (by decide) D) (jc_162 (D := D) ty hg o kp1)) rfl rfl (fun v1 qv1 => ?_)
  obtain ⟨z2, az2, bz2, rfl⟩ := qv1
  have rz2 : -2147483648 ≤ z2 ∧ z2 ≤ 2147483647 := ⟨by omega, by omega⟩
  refine mj_T.eq (pc2 := 4) (st2 := [.int (jn z2)]) ?_ rfl rfl rfl rfl
  refine mj_T.pl rfl rfl rfl rfl ?_
  refine jT.callp rfl rfl (Nat.le_of_ble_eq_true rfl) (Nat.le_of_ble_eq_true rfl) rfl rfl (mj_Ok.up (Nat.add_le_add_left (by decide) D) (jc_162 (D := D) ty hg o kp2)) rfl rfl (fun v3 qv3 => ?_)
  obtain ⟨z4, az4, bz4, rfl⟩ := qv3
  have rz4 : -2147483648 ≤ z4 ∧ z4 ≤ 2147483647 := ⟨by omega, by omega⟩
  refine mj_T.eq (pc2 := 8) (st2 := [.int (jn z4), .int (jn z2)]) ?_ rfl rfl rfl rfl
  have t16_6 : ∀ (a5 : Nat), (K a5 = 2) → mj_T (D + 5) mj_m59 16 [some (.ref p0), some (.ref p1), some (.ref p2), some (.ref p3), none, none, none, none, none, none] [.ref a5] h (jQ K L R g n tm [] (jVi 0 1)) := by
    intro a5 ka5
    refine mj_T.pl (loc' := [some (.ref p0), some (.ref p1), some (.ref p2), some (.ref p3), some (.ref a5), none, none, none, none, none]) rfl rfl rfl rfl ?_
    refine mj_T.pl rfl rfl rfl rfl ?_
    refine jT.callp rfl rfl (Nat.le_of_ble_eq_true rfl) (Nat.le_of_ble_eq_true rfl) rfl rfl (mj_Ok.up (Nat.add_le_add_left (by decide) D) (jc_162 (D := D) ty hg o kp1)) rfl rfl (fun v7 qv7 => ?_)
    obtain ⟨z8, az8, bz8, rfl⟩ := qv7
    have rz8 : -2147483648 ≤ z8 ∧ z8 ≤ 2147483647 := ⟨by omega, by omega⟩
    refine mj_T.eq (pc2 := 22) (st2 := [.int (jn z8)]) ?_ rfl rfl rfl rfl
    refine mj_T.pl rfl rfl rfl rfl ?_
    refine jT.callp rfl rfl (Nat.le_of_ble_eq_true rfl) (Nat.le_of_ble_eq_true rfl) rfl rfl (mj_Ok.up (Nat.add_le_add_left (by decide) D) (jc_162 (D := D) ty hg o kp2)) rfl rfl (fun v9 qv9 => ?_)
    obtain ⟨z10, az10, bz10, rfl⟩ := qv9
    have rz10 : -2147483648 ≤ z10 ∧ z10 ≤ 2147483647 := ⟨by omega, by omega⟩
    refine mj_T.eq (pc2 := 26) (st2 := [.int (jn z10), .int (jn z8)]) ?_ rfl rfl rfl rfl
    have t34_12 : ∀ (a11 : Nat), (K a11 = 2) → mj_T (D + 5) mj_m59 34 [some (.ref p0), some (.ref p1), some (.ref p2), some (.ref p3), some (.ref a5), none, none, none, none, none] [.ref a11] h (jQ K L R g n tm [] (jVi 0 1)) := by
      intro a11 ka11
      refine mj_T.pl (loc' := [some (.ref p0), some (.ref p1), some (.ref p2), some (.ref p3), some (.ref a5), some (.ref a11), none, none, none, none]) rfl rfl rfl rfl ?_
      refine mj_T.pl rfl rfl rfl rfl ?_
      refine jT.callp rfl rfl (Nat.le_of_ble_eq_true rfl) (Nat.le_of_ble_eq_true rfl) rfl rfl (mj_Ok.up (Nat.add_le_add_left (by decide) D) (jc_169 (D := D) ty hg o ka5)) rfl rfl (fun v13 qv13 => ?_)
      obtain ⟨z14, jz14, rfl⟩ := qv13
      refine mj_T.eq (pc2 := 41) (st2 := [.long (jl z14)]) ?_ rfl rfl rfl rfl
      refine mj_T.pl rfl rfl rfl rfl ?_
      refine jT.callp rfl rfl (Nat.le_of_ble_eq_true rfl) (Nat.le_of_ble_eq_true rfl) rfl rfl (mj_Ok.up (Nat.add_le_add_left (by decide) D) (jc_169 (D := D) ty hg o ka11)) rfl rfl (fun v15 qv15 => ?_)
      obtain ⟨z16, jz16, rfl⟩ := qv15
      refine mj_T.eq (pc2 := 46) (st2 := [.long (jl z16), .long (jl z14)]) ?_ rfl rfl rfl rfl
      refine jT.callp rfl rfl (Nat.le_of_ble_eq_true rfl) (Nat.le_of_ble_eq_true rfl) rfl rfl (mj_Ok.up (Nat.add_le_add_left (by decide) D) (jc_171 (D := D) ty hg o jz14 jz16)) rfl rfl (fun v17 qv17 => ?_)
      obtain ⟨z18, jz18, rfl⟩ := qv17
      refine mj_T.eq (pc2 := 49) (st2 := [.long (jl z18)]) ?_ rfl rfl rfl rfl
      refine mj_T.pl (loc' := [some (.ref p0), some (.ref p1), some (.ref p2), some (.ref p3), some (.ref a5), some (.ref a11), some (.long (jl z18)), none, none, none]) rfl rfl rfl rfl ?_
      refine mj_T.pl rfl rfl rfl rfl ?_
      refine jT.callp rfl rfl (Nat.le_of_ble_eq_true rfl) (Nat.le_of_ble_eq_true rfl) rfl rfl (mj_Ok.up (Nat.add_le_add_left (by decide) D) (jc_162 (D := D) ty hg o ka11)) rfl rfl (fun v19 qv19 => ?_)
      obtain ⟨z20, az20, bz20, rfl⟩ := qv19
      have rz20 : -2147483648 ≤ z20 ∧ z20 ≤ 2147483647 := ⟨by omega, by omega⟩
      refine mj_T.eq (pc2 := 56) (st2 := [.int (jn z20)]) ?_ rfl rfl rfl rfl
      refine jT.if0 rfl rz20 (fun c56 => ?_) (fun c56 => ?_)
      · have c56 := of_decide_eq_true c56
        refine mj_T.pl rfl rfl rfl rfl ?_
        refine jT.getR 15 116 16 ty o rfl kp0 (by decide) rfl rfl rfl (fun k21 => ?_)
        refine jT.getR 16 105 5 ty o rfl k21 (by decide) rfl rfl rfl (fun k22 => ?_)
        refine mj_T.pl rfl rfl rfl rfl ?_
        have l23 : 14 ≤ (L (R (R p0 1) 1) : Int) ∧ (L (R (R p0 1) 1) : Int) ≤ 14 := jlen 5 ty k22 (by decide) (by decide)
        refine jT.aald 5 13 ty o rfl k22 (by decide) (by decide) rfl ⟨by decide, by decide⟩ ⟨by omega, by omega⟩ (fun k24 => ?_)
        iterate 2 refine mj_T.pl rfl rfl rfl rfl ?_
        refine jT.callp rfl rfl (Nat.le_of_ble_eq_true rfl) (Nat.le_of_ble_eq_true rfl) rfl rfl (mj_Ok.up (Nat.add_le_add_left (by decide) D) (jc_170 (D := D) ty hg o ka5)) rfl rfl (fun v25 qv25 => ?_)
        obtain ⟨z26, jz26, rfl⟩ := qv25
        refine mj_T.eq (pc2 := 95) (st2 := [.long (jl z26), .ref a5, .ref (R (R (R p0 1) 1) (0 : Int).toNat)]) ?_ rfl rfl rfl rfl
        refine jT.call rfl rfl (Nat.le_of_ble_eq_true rfl) (Nat.le_of_ble_eq_true rfl) (jrv_of o k24 (by decide) rfl (by decide) rfl _) rfl (mj_Ok.up (Nat.add_le_add_left (by decide) D) (jc_40 (D := D) ty hg o k24 ka5 jz26)) rfl rfl (fun v27 h28 qv27 oh28 => ?_)
        obtain rfl : v27 = none := qv27
        refine mj_T.eq (pc2 := 98) (st2 := []) ?_ rfl rfl rfl rfl
        refine mj_T.pl rfl rfl rfl rfl ?_
        refine jT.getR 15 116 16 ty oh28 rfl kp0 (by decide) rfl rfl rfl (fun k29 => ?_)
        refine jT.getR 16 105 5 ty oh28 rfl k29 (by decide) rfl rfl rfl (fun k30 => ?_)
        refine mj_T.pl rfl rfl rfl rfl ?_
        refine jT.aald 5 13 ty oh28 rfl k30 (by decide) (by decide) rfl ⟨by decide, by decide⟩ ⟨by omega, by omega⟩ (fun k31 => ?_)
        iterate 2 refine mj_T.pl rfl rfl rfl rfl ?_
        refine jT.callp rfl rfl (Nat.le_of_ble_eq_true rfl) (Nat.le_of_ble_eq_true rfl) rfl rfl (mj_Ok.up (Nat.add_le_add_left (by decide) D) (jc_170 (D := D) ty hg oh28 ka11)) rfl rfl (fun v32 qv32 => ?_)
        obtain ⟨z33, jz33, rfl⟩ := qv32
        refine mj_T.eq (pc2 := 114) (st2 := [.long (jl z33), .ref a11, .ref (R (R (R p0 1) 1) (1 : Int).toNat)]) ?_ rfl rfl rfl rfl
        refine jT.call rfl rfl (Nat.le_of_ble_eq_true rfl) (Nat.le_of_ble_eq_true rfl) (jrv_of oh28 k31 (by decide) rfl (by decide) rfl _) rfl (mj_Ok.up (Nat.add_le_add_left (by decide) D) (jc_40 (D := D) ty hg oh28 k31 ka11 jz33)) rfl rfl (fun v34 h35 qv34 oh35 => ?_)
        obtain rfl : v34 = none := qv34
        refine mj_T.eq (pc2 := 117) (st2 := []) ?_ rfl rfl rfl rfl
        refine mj_T.pl rfl rfl rfl rfl ?_
        refine jT.getR 15 116 16 ty oh35 rfl kp0 (by decide) rfl rfl rfl (fun k36 => ?_)
        refine jT.getR 16 105 5 ty oh35 rfl k36 (by decide) rfl rfl rfl (fun k37 => ?_)
        refine mj_T.pl rfl rfl rfl rfl ?_
        refine jT.aald 5 13 ty oh35 rfl k37 (by decide) (by decide) rfl ⟨by decide, by decide⟩ ⟨by omega, by omega⟩ (fun k38 => ?_)
        refine jT.callp rfl rfl (Nat.le_of_ble_eq_true rfl) (Nat.le_of_ble_eq_true rfl) (jrv_of oh35 k38 (by decide) rfl (by decide) rfl _) rfl (mj_Ok.up (Nat.add_le_add_left (by decide) D) (jc_37 (D := D) ty hg oh35 k38)) rfl rfl (fun v39 qv39 => ?_)
        obtain ⟨a40, ka40, rfl⟩ := qv39
        refine mj_T.eq (pc2 := 129) (st2 := [.ref a40]) ?_ rfl rfl rfl rfl
        refine jT.callp rfl rfl (Nat.le_of_ble_eq_true rfl) (Nat.le_of_ble_eq_true rfl) (jrv_of oh35 ka40 (by decide) rfl (by decide) rfl _) rfl (mj_Ok.up (Nat.add_le_add_left (by decide) D) (jc_100 (D := D) ty hg oh35 ka40)) rfl rfl (fun v41 qv41 => ?_)
        obtain ⟨z42, jz42, rfl⟩ := qv41
        refine mj_T.eq (pc2 := 132) (st2 := [.long (jl z42)]) ?_ rfl rfl rfl rfl
        refine mj_T.pl rfl rfl rfl rfl ?_
        refine jT.getR 15 116 16 ty oh35 rfl kp0 (by decide) rfl rfl rfl (fun k43 => ?_)
        refine jT.getR 16 105 5 ty oh35 rfl k43 (by decide) rfl rfl rfl (fun k44 => ?_)
        refine mj_T.pl rfl rfl rfl rfl ?_
        refine jT.aald 5 13 ty oh35 rfl k44 (by decide) (by decide) rfl ⟨by decide, by decide⟩ ⟨by omega, by omega⟩ (fun k45 => ?_)
        refine jT.callp rfl rfl (Nat.le_of_ble_eq_true rfl) (Nat.le_of_ble_eq_true rfl) (jrv_of oh35 k45 (by decide) rfl (by decide) rfl _) rfl (mj_Ok.up (Nat.add_le_add_left (by decide) D) (jc_37 (D := D) ty hg oh35 k45)) rfl rfl (fun v46 qv46 => ?_)
        obtain ⟨a47, ka47, rfl⟩ := qv46
        refine mj_T.eq (pc2 := 144) (st2 := [.ref a47, .long (jl z42)]) ?_ rfl rfl rfl rfl
        refine jT.callp rfl rfl (Nat.le_of_ble_eq_true rfl) (Nat.le_of_ble_eq_true rfl) (jrv_of oh35 ka47 (by decide) rfl (by decide) rfl _) rfl (mj_Ok.up (Nat.add_le_add_left (by decide) D) (jc_100 (D := D) ty hg oh35 ka47)) rfl rfl (fun v48 qv48 => ?_)
        obtain ⟨z49, jz49, rfl⟩ := qv48
        refine mj_T.eq (pc2 := 147) (st2 := [.long (jl z49), .long (jl z42)]) ?_ rfl rfl rfl rfl
        refine jT.callp rfl rfl (Nat.le_of_ble_eq_true rfl) (Nat.le_of_ble_eq_true rfl) rfl rfl (mj_Ok.up (Nat.add_le_add_left (by decide) D) (jc_171 (D := D) ty hg oh35 jz42 jz49)) rfl rfl (fun v50 qv50 => ?_)
        obtain ⟨z51, jz51, rfl⟩ := qv50
        refine mj_T.eq (pc2 := 150) (st2 := [.long (jl z51)]) ?_ rfl rfl rfl rfl
        refine mj_T.pl (loc' := [some (.ref p0), some (.ref p1), some (.ref p2), some (.ref p3), some (.ref a5), some (.ref a11), some (.long (jl z18)), none, some (.long (jl z51)), none]) rfl rfl rfl rfl ?_
        refine mj_T.pl rfl rfl rfl rfl ?_
        refine jT.getR 15 116 16 ty oh35 rfl kp0 (by decide) rfl rfl rfl (fun k52 => ?_)
        refine jT.call rfl rfl (Nat.le_of_ble_eq_true rfl) (Nat.le_of_ble_eq_true rfl) (jrv_of oh35 k52 (by decide) rfl (by decide) rfl _) rfl (mj_Ok.up (Nat.add_le_add_left (by decide) D) (jc_70 (D := D) ty hg oh35 k52)) rfl rfl (fun v53 h54 qv53 oh54 => ?_)
        obtain rfl : v53 = none := qv53
        refine mj_T.eq (pc2 := 159) (st2 := []) ?_ rfl rfl rfl rfl
        iterate 2 refine mj_T.pl rfl rfl rfl rfl ?_
        refine jT.getR 15 116 16 ty oh54 rfl kp0 (by decide) rfl rfl rfl (fun k55 => ?_)
        refine jT.callp rfl rfl (Nat.le_of_ble_eq_true rfl) (Nat.le_of_ble_eq_true rfl) (jrv_of oh54 k55 (by decide) rfl (by decide) rfl _) rfl (mj_Ok.up (Nat.add_le_add_left (by decide) D) (jc_73 (D := D) ty hg oh54 k55)) rfl rfl (fun v56 qv56 => ?_)
        obtain ⟨a57, ka57, rfl⟩ := qv56
        refine mj_T.eq (pc2 := 167) (st2 := [.ref a57, .ref p0]) ?_ rfl rfl rfl rfl
        refine mj_T.pl rfl rfl rfl rfl ?_
        refine jT.call rfl rfl (Nat.le_of_ble_eq_true rfl) (Nat.le_of_ble_eq_true rfl) (jrv_of oh54 kp0 (by decide) rfl (by decide) rfl _) rfl (mj_Ok.up (Nat.add_le_add_left (by decide) D) (jc_60 (D := D) ty hg oh54 kp0 ka57 jz51)) rfl rfl (fun v58 h59 qv58 oh59 => ?_)
        obtain rfl : v58 = none := qv58
        refine mj_T.eq (pc2 := 172) (st2 := []) ?_ rfl rfl rfl rfl
        refine mj_T.pl rfl rfl rfl rfl ?_
        refine mj_T.pl (loc' := [some (.ref p0), some (.ref p1), some (.ref p2), some (.ref p3), some (.ref a5), some (.ref a11), some (.long (jl z18)), none, some (.int (jn 0)), none]) rfl rfl rfl rfl ?_
        have t175_62 : ∀ (k63 : Nat) (x60 : Int) (h61 : mj_H), (-2147483648 ≤ x60 ∧ x60 ≤ 2147483647) → (jO K L R g n tm h61) → (0 ≤ x60) → (2147483647 - x60 : Int).toNat = k63 → mj_T (D + 5) mj_m59 175 [some (.ref p0), some (.ref p1), some (.ref p2), some (.ref p3), some (.ref a5), some (.ref a11), some (.long (jl z18)), none, some (.int (jn x60)), none] [] h61 (jQ K L R g n tm [] (jVi 0 1)) := by
          refine jInd (fun k63 ih64 => ?_)
          intro x60 h61 rx60 oh61 ix60 hm65
          refine mj_T.pl rfl rfl rfl rfl ?_
          refine mj_T.pl rfl rfl rfl rfl ?_
          refine jT.getR 15 111 11 ty oh61 rfl kp0 (by decide) rfl rfl rfl (fun k66 => ?_)
          refine jT.getR 11 113 13 ty oh61 rfl k66 (by decide) rfl rfl rfl (fun k67 => ?_)
          refine jT.getI 13 6 oh61 rfl k67 (by decide) rfl rfl rfl (fun z68 (az68 : (-1) ≤ z68) (bz68 : z68 ≤ 30) fz68 => ?_)
          have rz68 : -2147483648 ≤ z68 ∧ z68 ≤ 2147483647 := ⟨by omega, by omega⟩
          refine jT.icmp rfl rx60 rz68 (fun c187 => ?_) (fun c187 => ?_)
          · have c187 := of_decide_eq_true c187
            refine mj_T.pl rfl rfl rfl rfl ?_
            refine jT.getR 15 111 11 ty oh61 rfl kp0 (by decide) rfl rfl rfl (fun k69 => ?_)
            refine jT.getR 11 113 13 ty oh61 rfl k69 (by decide) rfl rfl rfl (fun k70 => ?_)
            refine mj_T.pl rfl rfl rfl rfl ?_
            refine jT.call rfl rfl (Nat.le_of_ble_eq_true rfl) (Nat.le_of_ble_eq_true rfl) (jrv_of oh61 k70 (by decide) rfl (by decide) rfl _) rfl (mj_Ok.up (Nat.add_le_add_left (by decide) D) (jc_44 (D := D) ty hg oh61 k70 kp3)) rfl rfl (fun v71 h72 qv71 oh72 => ?_)
            obtain ⟨z73, az73, bz73, rfl⟩ := qv71
            have rz73 : -2147483648 ≤ z73 ∧ z73 ≤ 2147483647 := ⟨by omega, by omega⟩
            refine mj_T.eq (pc2 := 228) (st2 := [.int (jn z73)]) ?_ rfl rfl rfl rfl
            exact jT.retb oh72 rfl rfl (by omega) (by omega)
          · have c187 := of_decide_eq_false c187
            refine mj_T.pl rfl rfl rfl rfl ?_
            refine jT.getR 15 111 11 ty oh61 rfl kp0 (by decide) rfl rfl rfl (fun k74 => ?_)
            refine mj_T.pl rfl rfl rfl rfl ?_
            refine jT.getR 15 111 11 ty oh61 rfl kp0 (by decide) rfl rfl rfl (fun k75 => ?_)
            refine jT.getR 11 113 13 ty oh61 rfl k75 (by decide) rfl rfl rfl (fun k76 => ?_)
            refine mj_T.pl rfl rfl rfl rfl ?_
            refine jT.callp rfl rfl (Nat.le_of_ble_eq_true rfl) (Nat.le_of_ble_eq_true rfl) (jrv_of oh61 k76 (by decide) rfl (by decide) rfl _) rfl (mj_Ok.up (Nat.add_le_add_left (by decide) D) (jc_36 (D := D) ty hg oh61 k76 rx60)) rfl rfl (fun v77 qv77 => ?_)
            obtain ⟨a78, ka78, rfl⟩ := qv77
            refine mj_T.eq (pc2 := 206) (st2 := [.ref a78, .ref (R p0 0)]) ?_ rfl rfl rfl rfl
            refine mj_T.pl rfl rfl rfl rfl ?_
            refine jT.call rfl rfl (Nat.le_of_ble_eq_true rfl) (Nat.le_of_ble_eq_true rfl) (jrv_of oh61 k74 (by decide) rfl (by decide) rfl _) rfl (mj_Ok.up (Nat.add_le_add_left (by decide) D) (jc_24 (D := D) ty hg oh61 k74 ka78 jz18)) rfl rfl (fun v79 h80 qv79 oh80 => ?_)
            obtain rfl : v79 = none := qv79
            refine mj_T.eq (pc2 := 211) (st2 := []) ?_ rfl rfl rfl rfl
            refine jT.iinc rfl rfl (fun z81 rz81 ez81 => ?_)
            replace ez81 := ez81 ⟨by omega, by omega⟩
            refine mj_T.eq (loc2 := [some (.ref p0), some (.ref p1), some (.ref p2), some (.ref p3), some (.ref a5), some (.ref a11), some (.long (jl z18)), none, some (.int (jn z81)), none]) ?_ rfl rfl rfl rfl
            refine mj_T.pl rfl rfl rfl rfl ?_
            exact ih64 ((2147483647 - z81 : Int).toNat) (by omega) z81 h80 rz81 oh80 (by omega) rfl
        exact t175_62 _ 0 h59 ⟨by decide, by decide⟩ oh59 (by omega) rfl
      · have c56 := of_decide_eq_false c56
        refine mj_T.pl rfl rfl rfl rfl ?_
        refine jT.getR 15 111 11 ty o rfl kp0 (by decide) rfl rfl rfl (fun k82 => ?_)
        refine jT.getR 11 113 13 ty o rfl k82 (by decide) rfl rfl rfl (fun k83 => ?_)
        iterate 2 refine mj_T.pl rfl rfl rfl rfl ?_
        refine jT.callp rfl rfl (Nat.le_of_ble_eq_true rfl) (Nat.le_of_ble_eq_true rfl) rfl rfl (mj_Ok.up (Nat.add_le_add_left (by decide) D) (jc_170 (D := D) ty hg o ka5)) rfl rfl (fun v84 qv84 => ?_)
        obtain ⟨z85, jz85, rfl⟩ := qv84
        refine mj_T.eq (pc2 := 73) (st2 := [.long (jl z85), .ref a5, .ref (R (R p0 0) 0)]) ?_ rfl rfl rfl rfl
        refine jT.call rfl rfl (Nat.le_of_ble_eq_true rfl) (Nat.le_of_ble_eq_true rfl) (jrv_of o k83 (by decide) rfl (by decide) rfl _) rfl (mj_Ok.up (Nat.add_le_add_left (by decide) D) (jc_40 (D := D) ty hg o k83 ka5 jz85)) rfl rfl (fun v86 h87 qv86 oh87 => ?_)
        obtain rfl : v86 = none := qv86
        refine mj_T.eq (pc2 := 76) (st2 := []) ?_ rfl rfl rfl rfl
        iterate 2 refine mj_T.pl rfl rfl rfl rfl ?_
        refine mj_T.pl (loc' := [some (.ref p0), some (.ref p1), some (.ref p2), some (.ref p3), some (.ref a5), some (.ref a11), some (.long (jl z18)), none, some (.int (jn 0)), none]) rfl rfl rfl rfl ?_
        have t175_90 : ∀ (k91 : Nat) (x88 : Int) (h89 : mj_H), (-2147483648 ≤ x88 ∧ x88 ≤ 2147483647) → (jO K L R g n tm h89) → (0 ≤ x88) → (2147483647 - x88 : Int).toNat = k91 → mj_T (D + 5) mj_m59 175 [some (.ref p0), some (.ref p1), some (.ref p2), some (.ref p3), some (.ref a5), some (.ref a11), some (.long (jl z18)), none, some (.int (jn x88)), none] [] h89 (jQ K L R g n tm [] (jVi 0 1)) := by
          refine jInd (fun k91 ih92 => ?_)
          intro x88 h89 rx88 oh89 ix88 hm93
          refine mj_T.pl rfl rfl rfl rfl ?_
          refine mj_T.pl rfl rfl rfl rfl ?_
          refine jT.getR 15 111 11 ty oh89 rfl kp0 (by decide) rfl rfl rfl (fun k94 => ?_)
          refine jT.getR 11 113 13 ty oh89 rfl k94 (by decide) rfl rfl rfl (fun k95 => ?_)
          refine jT.getI 13 6 oh89 rfl k95 (by decide) rfl rfl rfl (fun z96 (az96 : (-1) ≤ z96) (bz96 : z96 ≤ 30) fz96 => ?_)
          have rz96 : -2147483648 ≤ z96 ∧ z96 ≤ 2147483647 := ⟨by omega, by omega⟩
          refine jT.icmp rfl rx88 rz96 (fun c187 => ?_) (fun c187 => ?_)
          · have c187 := of_decide_eq_true c187
            refine mj_T.pl rfl rfl rfl rfl ?_
            refine jT.getR 15 111 11 ty oh89 rfl kp0 (by decide) rfl rfl rfl (fun k97 => ?_)
            refine jT.getR 11 113 13 ty oh89 rfl k97 (by decide) rfl rfl rfl (fun k98 => ?_)
            refine mj_T.pl rfl rfl rfl rfl ?_
            refine jT.call rfl rfl (Nat.le_of_ble_eq_true rfl) (Nat.le_of_ble_eq_true rfl) (jrv_of oh89 k98 (by decide) rfl (by decide) rfl _) rfl (mj_Ok.up (Nat.add_le_add_left (by decide) D) (jc_44 (D := D) ty hg oh89 k98 kp3)) rfl rfl (fun v99 h100 qv99 oh100 => ?_)
            obtain ⟨z101, az101, bz101, rfl⟩ := qv99
            have rz101 : -2147483648 ≤ z101 ∧ z101 ≤ 2147483647 := ⟨by omega, by omega⟩
            refine mj_T.eq (pc2 := 228) (st2 := [.int (jn z101)]) ?_ rfl rfl rfl rfl
            exact jT.retb oh100 rfl rfl (by omega) (by omega)
          · have c187 := of_decide_eq_false c187
            refine mj_T.pl rfl rfl rfl rfl ?_
            refine jT.getR 15 111 11 ty oh89 rfl kp0 (by decide) rfl rfl rfl (fun k102 => ?_)
            refine mj_T.pl rfl rfl rfl rfl ?_
            refine jT.getR 15 111 11 ty oh89 rfl kp0 (by decide) rfl rfl rfl (fun k103 => ?_)
            refine jT.getR 11 113 13 ty oh89 rfl k103 (by decide) rfl rfl rfl (fun k104 => ?_)
            refine mj_T.pl rfl rfl rfl rfl ?_
            refine jT.callp rfl rfl (Nat.le_of_ble_eq_true rfl) (Nat.le_of_ble_eq_true rfl) (jrv_of oh89 k104 (by decide) rfl (by decide) rfl _) rfl (mj_Ok.up (Nat.add_le_add_left (by decide) D) (jc_36 (D := D) ty hg oh89 k104 rx88)) rfl rfl (fun v105 qv105 => ?_)
            obtain ⟨a106, ka106, rfl⟩ := qv105
            refine mj_T.eq (pc2 := 206) (st2 := [.ref a106, .ref (R p0 0)]) ?_ rfl rfl rfl rfl
            refine mj_T.pl rfl rfl rfl rfl ?_
            refine jT.call rfl rfl (Nat.le_of_ble_eq_true rfl) (Nat.le_of_ble_eq_true rfl) (jrv_of oh89 k102 (by decide) rfl (by decide) rfl _) rfl (mj_Ok.up (Nat.add_le_add_left (by decide) D) (jc_24 (D := D) ty hg oh89 k102 ka106 jz18)) rfl rfl (fun v107 h108 qv107 oh108 => ?_)
            obtain rfl : v107 = none := qv107
            refine mj_T.eq (pc2 := 211) (st2 := []) ?_ rfl rfl rfl rfl
            refine jT.iinc rfl rfl (fun z109 rz109 ez109 => ?_)
            replace ez109 := ez109 ⟨by omega, by omega⟩
            refine mj_T.eq (loc2 := [some (.ref p0), some (.ref p1), some (.ref p2), some (.ref p3), some (.ref a5), some (.ref a11), some (.long (jl z18)), none, some (.int (jn z109)), none]) ?_ rfl rfl rfl rfl
            refine mj_T.pl rfl rfl rfl rfl ?_
            exact ih92 ((2147483647 - z109 : Int).toNat) (by omega) z109 h108 rz109 oh108 (by omega) rfl
        exact t175_90 _ 0 h87 ⟨by decide, by decide⟩ oh87 (by omega) rfl
    refine jT.icmp rfl rz8 rz10 (fun c26 => ?_) (fun c26 => ?_)
    · have c26 := of_decide_eq_true c26
      refine mj_T.pl rfl rfl rfl rfl ?_
      exact t34_12 p1 kp1
    · have c26 := of_decide_eq_false c26
      iterate 2 refine mj_T.pl rfl rfl rfl rfl ?_
      exact t34_12 p2 kp2
  refine jT.icmp rfl rz2 rz4 (fun c8 => ?_) (fun c8 => ?_)
  · have c8 := of_decide_eq_true c8
    refine mj_T.pl rfl rfl rfl rfl ?_
    exact t16_6 p2 kp2
  · have c8 := of_decide_eq_false c8
    iterate 2 refine mj_T.pl rfl rfl rfl rfl ?_
    exact t16_6 p1 kp1
-- PolyRegisters$Roots.begin([J)V
theorem jc_61 {D n : Nat} {tm : Int} {h g : mj_H} {K L : Nat → Nat} {R : Nat → Nat → Nat} {p0 : Nat} {p1 : Nat} (ty : jTY K L R) (hg : g.length ≤ n) (o : jO K L R g n tm h) (kp0 : K p0 = 15) (kp1 : K p1 = 2) : mj_Ok (D + 6) 61 [.ref p0, .ref p1] h (jQ K L R g n tm [] jV0) := by
  refine mj_Ok.of (M := mj_m61) (loc := [some (.ref p0), some (.ref p1)]) rfl rfl rfl ?_
  refine mj_T.pl rfl rfl rfl rfl ?_
  refine jT.getR 15 116 16 ty o rfl kp0 (by decide) rfl rfl rfl (fun k1 => ?_)
  refine jT.getR 16 105 5 ty o rfl k1 (by decide) rfl rfl rfl (fun k2 => ?_)
  refine mj_T.pl rfl rfl rfl rfl ?_
  have l3 : 14 ≤ (L (R (R p0 1) 1) : Int) ∧ (L (R (R p0 1) 1) : Int) ≤ 14 := jlen 5 ty k2 (by decide) (by decide)
  refine jT.aald 5 13 ty o rfl k2 (by decide) (by decide) rfl ⟨by decide, by decide⟩ ⟨by omega, by omega⟩ (fun k4 => ?_)
  iterate 2 refine mj_T.pl rfl rfl rfl rfl ?_
  refine jT.callp rfl rfl (Nat.le_of_ble_eq_true rfl) (Nat.le_of_ble_eq_true rfl) rfl rfl (mj_Ok.up (Nat.add_le_add_left (by decide) D) (jc_170 (D := D) ty hg o kp1)) rfl rfl (fun v5 qv5 => ?_)
  obtain ⟨z6, jz6, rfl⟩ := qv5
  refine mj_T.eq (pc2 := 14) (st2 := [.long (jl z6), .ref p1, .ref (R (R (R p0 1) 1) (0 : Int).toNat)]) ?_ rfl rfl rfl rfl
  refine jT.call rfl rfl (Nat.le_of_ble_eq_true rfl) (Nat.le_of_ble_eq_true rfl) (jrv_of o k4 (by decide) rfl (by decide) rfl _) rfl (mj_Ok.up (Nat.add_le_add_left (by decide) D) (jc_40 (D := D) ty hg o k4 kp1 jz6)) rfl rfl (fun v7 h8 qv7 oh8 => ?_)
  obtain rfl : v7 = none := qv7
  refine mj_T.eq (pc2 := 17) (st2 := []) ?_ rfl rfl rfl rfl
  refine mj_T.pl rfl rfl rfl rfl ?_
  refine jT.getR 15 116 16 ty oh8 rfl kp0 (by decide) rfl rfl rfl (fun k9 => ?_)
  refine jT.call rfl rfl (Nat.le_of_ble_eq_true rfl) (Nat.le_of_ble_eq_true rfl) (jrv_of oh8 k9 (by decide) rfl (by decide) rfl _) rfl (mj_Ok.up (Nat.add_le_add_left (by decide) D) (jc_69 (D := D) ty hg oh8 k9)) rfl rfl (fun v10 h11 qv10 oh11 => ?_)
  obtain rfl : v10 = none := qv10
  refine mj_T.eq (pc2 := 24) (st2 := []) ?_ rfl rfl rfl rfl
  refine mj_T.pl rfl rfl rfl rfl ?_
  refine jT.getR 15 116 16 ty oh11 rfl kp0 (by decide) rfl rfl rfl (fun k12 => ?_)
  refine jT.call rfl rfl (Nat.le_of_ble_eq_true rfl) (Nat.le_of_ble_eq_true rfl) (jrv_of oh11 k12 (by decide) rfl (by decide) rfl _) rfl (mj_Ok.up (Nat.add_le_add_left (by decide) D) (jc_70 (D := D) ty hg oh11 k12)) rfl rfl (fun v13 h14 qv13 oh14 => ?_)
  obtain rfl : v13 = none := qv13
  refine mj_T.eq (pc2 := 31) (st2 := []) ?_ rfl rfl rfl rfl
  iterate 2 refine mj_T.pl rfl rfl rfl rfl ?_
  refine jT.getR 15 116 16 ty oh14 rfl kp0 (by decide) rfl rfl rfl (fun k15 => ?_)
  refine jT.callp rfl rfl (Nat.le_of_ble_eq_true rfl) (Nat.le_of_ble_eq_true rfl) (jrv_of oh14 k15 (by decide) rfl (by decide) rfl _) rfl (mj_Ok.up (Nat.add_le_add_left (by decide) D) (jc_73 (D := D) ty hg oh14 k15)) rfl rfl (fun v16 qv16 => ?_)
  obtain ⟨a17, ka17, rfl⟩ := qv16
  refine mj_T.eq (pc2 := 39) (st2 := [.ref a17, .ref p0]) ?_ rfl rfl rfl rfl
  refine jT.getI 13 6 oh14 rfl ka17 (by decide) rfl rfl rfl (fun z18 (az18 : (-1) ≤ z18) (bz18 : z18 ≤ 30) fz18 => ?_)
  have rz18 : -2147483648 ≤ z18 ∧ z18 ≤ 2147483647 := ⟨by omega, by omega⟩
  have t50_20 : ∀ (x19 : Int), (0 ≤ x19 ∧ x19 ≤ 1) → mj_T (D + 5) mj_m61 50 [some (.ref p0), some (.ref p1)] [.int (jn x19), .ref p0] h14 (jQ K L R g n tm [] jV0) := by
    intro x19 ax19
    have rx19 : -2147483648 ≤ x19 ∧ x19 ≤ 2147483647 := ⟨by omega, by omega⟩
    refine jT.putI 15 2 oh14 rfl kp0 (by decide) rfl rfl rfl (Or.inr ⟨rfl, rfl⟩) (by show 0 ≤ x19; omega) (by show x19 ≤ 1; omega) (fun h21 oh21 wh21 uh21 => ?_)
    refine mj_T.pl rfl rfl rfl rfl ?_
    refine jT.getK 15 2 oh21 rfl kp0 (by decide) rfl rfl rfl wh21 ?_
    refine jT.if0 rfl rx19 (fun c57 => ?_) (fun c57 => ?_)
    · have c57 := jne1 c57
      exact jT.ret oh21 rfl rfl rfl rfl
    · have c57 := jne2 c57
      iterate 2 refine mj_T.pl rfl rfl rfl rfl ?_
      refine jT.getR 15 116 16 ty oh21 rfl kp0 (by decide) rfl rfl rfl (fun k22 => ?_)
      refine jT.callp rfl rfl (Nat.le_of_ble_eq_true rfl) (Nat.le_of_ble_eq_true rfl) (jrv_of oh21 k22 (by decide) rfl (by decide) rfl _) rfl (mj_Ok.up (Nat.add_le_add_left (by decide) D) (jc_73 (D := D) ty hg oh21 k22)) rfl rfl (fun v23 qv23 => ?_)
      obtain ⟨a24, ka24, rfl⟩ := qv23
      refine mj_T.eq (pc2 := 68) (st2 := [.ref a24, .ref p0]) ?_ rfl rfl rfl rfl
      refine mj_T.pl rfl rfl rfl rfl ?_
      refine jT.getR 15 116 16 ty oh21 rfl kp0 (by decide) rfl rfl rfl (fun k25 => ?_)
      refine jT.getR 16 105 5 ty oh21 rfl k25 (by decide) rfl rfl rfl (fun k26 => ?_)
      refine mj_T.pl rfl rfl rfl rfl ?_
      refine jT.aald 5 13 ty oh21 rfl k26 (by decide) (by decide) rfl ⟨by decide, by decide⟩ ⟨by omega, by omega⟩ (fun k27 => ?_)
      refine jT.callp rfl rfl (Nat.le_of_ble_eq_true rfl) (Nat.le_of_ble_eq_true rfl) (jrv_of oh21 k27 (by decide) rfl (by decide) rfl _) rfl (mj_Ok.up (Nat.add_le_add_left (by decide) D) (jc_37 (D := D) ty hg oh21 k27)) rfl rfl (fun v28 qv28 => ?_)
      obtain ⟨a29, ka29, rfl⟩ := qv28
      refine mj_T.eq (pc2 := 80) (st2 := [.ref a29, .ref a24, .ref p0]) ?_ rfl rfl rfl rfl
      refine jT.callp rfl rfl (Nat.le_of_ble_eq_true rfl) (Nat.le_of_ble_eq_true rfl) (jrv_of oh21 ka29 (by decide) rfl (by decide) rfl _) rfl (mj_Ok.up (Nat.add_le_add_left (by decide) D) (jc_100 (D := D) ty hg oh21 ka29)) rfl rfl (fun v30 qv30 => ?_)
      obtain ⟨z31, jz31, rfl⟩ := qv30
      refine mj_T.eq (pc2 := 83) (st2 := [.long (jl z31), .ref a24, .ref p0]) ?_ rfl rfl rfl rfl
      refine jT.call rfl rfl (Nat.le_of_ble_eq_true rfl) (Nat.le_of_ble_eq_true rfl) (jrv_of oh21 kp0 (by decide) rfl (by decide) rfl _) rfl (mj_Ok.up (Nat.add_le_add_left (by decide) D) (jc_60 (D := D) ty hg oh21 kp0 ka24 jz31)) rfl rfl (fun v32 h33 qv32 oh33 => ?_)
      obtain rfl : v32 = none := qv32
      refine mj_T.eq (pc2 := 86) (st2 := []) ?_ rfl rfl rfl rfl
      refine mj_T.pl rfl rfl rfl rfl ?_
      refine jT.getR 15 111 11 ty oh33 rfl kp0 (by decide) rfl rfl rfl (fun k34 => ?_)
      refine jT.getR 11 113 13 ty oh33 rfl k34 (by decide) rfl rfl rfl (fun k35 => ?_)
      refine mj_T.pl rfl rfl rfl rfl ?_
      refine jT.getR 15 116 16 ty oh33 rfl kp0 (by decide) rfl rfl rfl (fun k36 => ?_)
      refine jT.getR 16 105 5 ty oh33 rfl k36 (by decide) rfl rfl rfl (fun k37 => ?_)
      refine mj_T.pl rfl rfl rfl rfl ?_
      refine jT.aald 5 13 ty oh33 rfl k37 (by decide) (by decide) rfl ⟨by decide, by decide⟩ ⟨by omega, by omega⟩ (fun k38 => ?_)
      refine jT.call rfl rfl (Nat.le_of_ble_eq_true rfl) (Nat.le_of_ble_eq_true rfl) (jrv_of oh33 k35 (by decide) rfl (by decide) rfl _) rfl (mj_Ok.up (Nat.add_le_add_left (by decide) D) (jc_41 (D := D) ty hg oh33 k35 k38)) rfl rfl (fun v39 h40 qv39 oh40 => ?_)
      obtain rfl : v39 = none := qv39
      refine mj_T.eq (pc2 := 105) (st2 := []) ?_ rfl rfl rfl rfl
      refine mj_T.pl rfl rfl rfl rfl ?_
      refine jT.getR 15 111 11 ty oh40 rfl kp0 (by decide) rfl rfl rfl (fun k41 => ?_)
      refine mj_T.pl rfl rfl rfl rfl ?_
      refine jT.getR 15 111 11 ty oh40 rfl kp0 (by decide) rfl rfl rfl (fun k42 => ?_)
      refine jT.getR 11 113 13 ty oh40 rfl k42 (by decide) rfl rfl rfl (fun k43 => ?_)
      refine mj_T.pl rfl rfl rfl rfl ?_
      refine jT.getR 15 111 11 ty oh40 rfl kp0 (by decide) rfl rfl rfl (fun k44 => ?_)
      refine jT.getR 11 113 13 ty oh40 rfl k44 (by decide) rfl rfl rfl (fun k45 => ?_)
      refine jT.call rfl rfl (Nat.le_of_ble_eq_true rfl) (Nat.le_of_ble_eq_true rfl) (jrv_of oh40 k41 (by decide) rfl (by decide) rfl _) rfl (mj_Ok.up (Nat.add_le_add_left (by decide) D) (jc_19 (D := D) ty hg oh40 k41 k43 k45)) rfl rfl (fun v46 h47 qv46 oh47 => ?_)
      obtain ⟨z48, az48, bz48, rfl⟩ := qv46
      have rz48 : -2147483648 ≤ z48 ∧ z48 ≤ 2147483647 := ⟨by omega, by omega⟩
      refine mj_T.eq (pc2 := 126) (st2 := [.int (jn z48)]) ?_ rfl rfl rfl rfl
      iterate 2 refine mj_T.pl rfl rfl rfl rfl ?_
      refine jT.getR 15 116 16 ty oh47 rfl kp0 (by decide) rfl rfl rfl (fun k49 => ?_)
      refine jT.getR 16 105 5 ty oh47 rfl k49 (by decide) rfl rfl rfl (fun k50 => ?_)
      refine mj_T.pl rfl rfl rfl rfl ?_
      refine jT.aald 5 13 ty oh47 rfl k50 (by decide) (by decide) rfl ⟨by decide, by decide⟩ ⟨by omega, by omega⟩ (fun k51 => ?_)
      refine mj_T.pl rfl rfl rfl rfl ?_
      refine jT.getR 15 111 11 ty oh47 rfl kp0 (by decide) rfl rfl rfl (fun k52 => ?_)
      refine jT.getR 11 113 13 ty oh47 rfl k52 (by decide) rfl rfl rfl (fun k53 => ?_)
      refine jT.call rfl rfl (Nat.le_of_ble_eq_true rfl) (Nat.le_of_ble_eq_true rfl) (jrv_of oh47 k51 (by decide) rfl (by decide) rfl _) rfl (mj_Ok.up (Nat.add_le_add_left (by decide) D) (jc_41 (D := D) ty hg oh47 k51 k53)) rfl rfl (fun v54 h55 qv54 oh55 => ?_)
      obtain rfl : v54 = none := qv54
      refine mj_T.eq (pc2 := 146) (st2 := []) ?_ rfl rfl rfl rfl
      exact jT.ret oh55 rfl rfl rfl rfl
  refine jT.if0 rfl rz18 (fun c42 => ?_) (fun c42 => ?_)
  · have c42 := of_decide_eq_true c42
    refine mj_T.pl rfl rfl rfl rfl ?_
    exact t50_20 0 ⟨by omega, by omega⟩
  · have c42 := of_decide_eq_false c42
    iterate 2 refine mj_T.pl rfl rfl rfl rfl ?_
    exact t50_20 1 ⟨by omega, by omega⟩
-- PolyRegisters$Roots.storeSimple([J)Z
theorem jc_62 {D n : Nat} {tm : Int} {h g : mj_H} {K L : Nat → Nat} {R : Nat → Nat → Nat} {p0 : Nat} {p1 : Nat} (ty : jTY K L R) (hg : g.length ≤ n) (o : jO K L R g n tm h) (kp0 : K p0 = 15) (kp1 : K p1 = 2) : mj_Ok (D + 3) 62 [.ref p0, .ref p1] h (jQ K L R g n tm [] (jVi 0 1)) := by
  refine mj_Ok.of (M := mj_m62) (loc := [some (.ref p0), some (.ref p1)]) rfl rfl rfl ?_
  refine mj_T.pl rfl rfl rfl rfl ?_
  refine jT.getR 15 116 16 ty o rfl kp0 (by decide) rfl rfl rfl (fun k1 => ?_)
  refine jT.getR 16 105 5 ty o rfl k1 (by decide) rfl rfl rfl (fun k2 => ?_)
  refine mj_T.pl rfl rfl rfl rfl ?_
  have l3 : 14 ≤ (L (R (R p0 1) 1) : Int) ∧ (L (R (R p0 1) 1) : Int) ≤ 14 := jlen 5 ty k2 (by decide) (by decide)
  refine jT.aald 5 13 ty o rfl k2 (by decide) (by decide) rfl ⟨by decide, by decide⟩ ⟨by omega, by omega⟩ (fun k4 => ?_)
  refine mj_T.pl rfl rfl rfl rfl ?_
  refine jT.call rfl rfl (Nat.le_of_ble_eq_true rfl) (Nat.le_of_ble_eq_true rfl) (jrv_of o k4 (by decide) rfl (by decide) rfl _) rfl (mj_Ok.up (Nat.add_le_add_left (by decide) D) (jc_44 (D := D) ty hg o k4 kp1)) rfl rfl (fun v5 h6 qv5 oh6 => ?_)
  obtain ⟨z7, az7, bz7, rfl⟩ := qv5
  have rz7 : -2147483648 ≤ z7 ∧ z7 ≤ 2147483647 := ⟨by omega, by omega⟩
  refine mj_T.eq (pc2 := 13) (st2 := [.int (jn z7)]) ?_ rfl rfl rfl rfl
  exact jT.retb oh6 rfl rfl (by omega) (by omega)
-- PolyRegisters$Roots.countReal()I
theorem jc_63 {D n : Nat} {tm : Int} {h g : mj_H} {K L : Nat → Nat} {R : Nat → Nat → Nat} {p0 : Nat} (ty : jTY K L R) (hg : g.length ≤ n) (o : jO K L R g n tm h) (kp0 : K p0 = 15) : mj_Ok (D + 6) 63 [.ref p0] h (jQ K L R g n tm [] (jVi (-2147483648) 2147483647)) := by
  refine mj_Ok.of (M := mj_m63) (loc := [some (.ref p0)]) rfl rfl rfl ?_
  refine mj_T.pl rfl rfl rfl rfl ?_
  refine jT.getI 15 2 o rfl kp0 (by decide) rfl rfl rfl (fun z1 (az1 : 0 ≤ z1) (bz1 : z1 ≤ 1) fz1 => ?_)
  have rz1 : -2147483648 ≤ z1 ∧ z1 ≤ 2147483647 := ⟨by omega, by omega⟩
  have t21_3 : ∀ (h2 : mj_H), (jO K L R g n tm h2) → mj_T (D + 5) mj_m63 21 [some (.ref p0)] [] h2 (jQ K L R g n tm [] (jVi (-2147483648) 2147483647)) := by
    intro h2 oh2
    iterate 2 refine mj_T.pl rfl rfl rfl rfl ?_
    refine jT.getR 15 116 16 ty oh2 rfl kp0 (by decide) rfl rfl rfl (fun k4 => ?_)
    refine mj_T.pl rfl rfl rfl rfl ?_
    refine jT.callp rfl rfl (Nat.le_of_ble_eq_true rfl) (Nat.le_of_ble_eq_true rfl) (jrv_of oh2 k4 (by decide) rfl (by decide) rfl _) rfl (mj_Ok.up (Nat.add_le_add_left (by decide) D) (jc_77 (D := D) ty hg oh2 k4 ⟨by decide, by decide⟩)) rfl rfl (fun v5 qv5 => ?_)
    obtain ⟨z6, az6, bz6, rfl⟩ := qv5
    have rz6 : -2147483648 ≤ z6 ∧ z6 ≤ 2147483647 := ⟨by omega, by omega⟩
    refine mj_T.eq (pc2 := 30) (st2 := [.int (jn z6), .ref p0]) ?_ rfl rfl rfl rfl
    refine jT.putI 15 0 oh2 rfl kp0 (by decide) rfl rfl rfl (Or.inl rfl) (by show (-2147483648) ≤ z6; omega) (by show z6 ≤ 2147483647; omega) (fun h7 oh7 wh7 uh7 => ?_)
    iterate 2 refine mj_T.pl rfl rfl rfl rfl ?_
    refine jT.getK 15 0 oh7 rfl kp0 (by decide) rfl rfl rfl wh7 ?_
    refine mj_T.pl rfl rfl rfl rfl ?_
    refine jT.getR 15 116 16 ty oh7 rfl kp0 (by decide) rfl rfl rfl (fun k8 => ?_)
    refine mj_T.pl rfl rfl rfl rfl ?_
    refine jT.callp rfl rfl (Nat.le_of_ble_eq_true rfl) (Nat.le_of_ble_eq_true rfl) (jrv_of oh7 k8 (by decide) rfl (by decide) rfl _) rfl (mj_Ok.up (Nat.add_le_add_left (by decide) D) (jc_77 (D := D) ty hg oh7 k8 ⟨by decide, by decide⟩)) rfl rfl (fun v9 qv9 => ?_)
    obtain ⟨z10, az10, bz10, rfl⟩ := qv9
    have rz10 : -2147483648 ≤ z10 ∧ z10 ≤ 2147483647 := ⟨by omega, by omega⟩
    refine mj_T.eq (pc2 := 46) (st2 := [.int (jn z10), .int (jn z6), .ref p0]) ?_ rfl rfl rfl rfl
    refine jT.isub rfl (fun z11 rz11 ez11 => ?_)
    clear ez11
    refine jT.putI 15 0 oh7 rfl kp0 (by decide) rfl rfl rfl (Or.inl rfl) (by show (-2147483648) ≤ z11; omega) (by show z11 ≤ 2147483647; omega) (fun h12 oh12 wh12 uh12 => ?_)
    refine mj_T.pl rfl rfl rfl rfl ?_
    refine jT.getK 15 0 oh12 rfl kp0 (by decide) rfl rfl rfl wh12 ?_
    exact jT.ret oh12 rfl rfl rfl ⟨z11, by omega, by omega, rfl⟩
  refine jT.if0 rfl rz1 (fun c4 => ?_) (fun c4 => ?_)
  · have c4 := jne1 c4
    exact t21_3 h o
  · have c4 := jne2 c4
    refine mj_T.pl rfl rfl rfl rfl ?_
    refine jT.getR 15 116 16 ty o rfl kp0 (by decide) rfl rfl rfl (fun k13 => ?_)
    refine jT.call rfl rfl (Nat.le_of_ble_eq_true rfl) (Nat.le_of_ble_eq_true rfl) (jrv_of o k13 (by decide) rfl (by decide) rfl _) rfl (mj_Ok.up (Nat.add_le_add_left (by decide) D) (jc_69 (D := D) ty hg o k13)) rfl rfl (fun v14 h15 qv14 oh15 => ?_)
    obtain rfl : v14 = none := qv14
    refine mj_T.eq (pc2 := 14) (st2 := []) ?_ rfl rfl rfl rfl
    refine mj_T.pl rfl rfl rfl rfl ?_
    refine jT.getR 15 116 16 ty oh15 rfl kp0 (by decide) rfl rfl rfl (fun k16 => ?_)
    refine jT.call rfl rfl (Nat.le_of_ble_eq_true rfl) (Nat.le_of_ble_eq_true rfl) (jrv_of oh15 k16 (by decide) rfl (by decide) rfl _) rfl (mj_Ok.up (Nat.add_le_add_left (by decide) D) (jc_70 (D := D) ty hg oh15 k16)) rfl rfl (fun v17 h18 qv17 oh18 => ?_)
    obtain rfl : v17 = none := qv17
    refine mj_T.eq (pc2 := 21) (st2 := []) ?_ rfl rfl rfl rfl
    exact t21_3 h18 oh18
-- PolyRegisters$Roots.stretch(J)V
theorem jc_64 {D n : Nat} {tm : Int} {h g : mj_H} {K L : Nat → Nat} {R : Nat → Nat → Nat} {p0 : Nat} {p1 : Int} (ty : jTY K L R) (hg : g.length ≤ n) (o : jO K L R g n tm h) (kp0 : K p0 = 15) (jp1 : jR p1) : mj_Ok (D + 4) 64 [.ref p0, .long (jl p1)] h (jQ K L R g n tm [] jV0) := by
  refine mj_Ok.of (M := mj_m64) (loc := [some (.ref p0), some (.long (jl p1)), none, none, none]) rfl rfl rfl ?_
  iterate 2 refine mj_T.pl rfl rfl rfl rfl ?_
  refine jT.putL 15 jp1 o rfl kp0 (by decide) rfl rfl (fun h1 oh1 uh1 => ?_)
  refine mj_T.pl rfl rfl rfl rfl ?_
  refine jT.getR 15 116 16 ty oh1 rfl kp0 (by decide) rfl rfl rfl (fun k2 => ?_)
  refine jT.getR 16 105 5 ty oh1 rfl k2 (by decide) rfl rfl rfl (fun k3 => ?_)
  refine mj_T.pl rfl rfl rfl rfl ?_
  have l4 : 14 ≤ (L (R (R p0 1) 1) : Int) ∧ (L (R (R p0 1) 1) : Int) ≤ 14 := jlen 5 ty k3 (by decide) (by decide)
  refine jT.aald 5 13 ty oh1 rfl k3 (by decide) (by decide) rfl ⟨by decide, by decide⟩ ⟨by omega, by omega⟩ (fun k5 => ?_)
  refine mj_T.pl (loc' := [some (.ref p0), some (.long (jl p1)), none, some (.ref (R (R (R p0 1) 1) (0 : Int).toNat)), none]) rfl rfl rfl rfl ?_
  refine mj_T.pl rfl rfl rfl rfl ?_
  refine jT.getR 15 118 18 ty oh1 rfl kp0 (by decide) rfl rfl rfl (fun k6 => ?_)
  refine jT.lc 0 rfl rfl ?_
  refine jT.call rfl rfl (Nat.le_of_ble_eq_true rfl) (Nat.le_of_ble_eq_true rfl) (jrv_of oh1 k6 (by decide) rfl (by decide) rfl _) rfl (mj_Ok.up (Nat.add_le_add_left (by decide) D) (jc_86 (D := D) ty hg oh1 k6 ⟨by decide, by decide⟩)) rfl rfl (fun v7 h8 qv7 oh8 => ?_)
  obtain rfl : v7 = none := qv7
  refine mj_T.eq (pc2 := 23) (st2 := []) ?_ rfl rfl rfl rfl
  refine mj_T.pl rfl rfl rfl rfl ?_
  refine mj_T.pl (loc' := [some (.ref p0), some (.long (jl p1)), none, some (.ref (R (R (R p0 1) 1) (0 : Int).toNat)), some (.int (jn 0))]) rfl rfl rfl rfl ?_
  have t26_11 : ∀ (k12 : Nat) (x9 : Int) (h10 : mj_H), (-2147483648 ≤ x9 ∧ x9 ≤ 2147483647) → (jO K L R g n tm h10) → (0 ≤ x9) → (2147483647 - x9 : Int).toNat = k12 → mj_T (D + 3) mj_m64 26 [some (.ref p0), some (.long (jl p1)), none, some (.ref (R (R (R p0 1) 1) (0 : Int).toNat)), some (.int (jn x9))] [] h10 (jQ K L R g n tm [] jV0) := by
    refine jInd (fun k12 ih13 => ?_)
    intro x9 h10 rx9 oh10 ix9 hm14
    refine mj_T.pl rfl rfl rfl rfl ?_
    refine mj_T.pl rfl rfl rfl rfl ?_
    refine jT.getI 13 6 oh10 rfl k5 (by decide) rfl rfl rfl (fun z15 (az15 : (-1) ≤ z15) (bz15 : z15 ≤ 30) fz15 => ?_)
    have rz15 : -2147483648 ≤ z15 ∧ z15 ≤ 2147483647 := ⟨by omega, by omega⟩
    refine jT.icmp rfl rx9 rz15 (fun c32 => ?_) (fun c32 => ?_)
    · have c32 := of_decide_eq_true c32
      refine mj_T.pl rfl rfl rfl rfl ?_
      refine jT.getR 15 111 11 ty oh10 rfl kp0 (by decide) rfl rfl rfl (fun k16 => ?_)
      refine mj_T.pl rfl rfl rfl rfl ?_
      refine jT.getR 15 118 18 ty oh10 rfl kp0 (by decide) rfl rfl rfl (fun k17 => ?_)
      refine mj_T.pl rfl rfl rfl rfl ?_
      refine jT.call rfl rfl (Nat.le_of_ble_eq_true rfl) (Nat.le_of_ble_eq_true rfl) (jrv_of oh10 k16 (by decide) rfl (by decide) rfl _) rfl (mj_Ok.up (Nat.add_le_add_left (by decide) D) (jc_24 (D := D) ty hg oh10 k16 k17 jp1)) rfl rfl (fun v18 h19 qv18 oh19 => ?_)
      obtain rfl : v18 = none := qv18
      refine mj_T.eq (pc2 := 75) (st2 := []) ?_ rfl rfl rfl rfl
      refine mj_T.pl rfl rfl rfl rfl ?_
      refine jT.getR 15 118 18 ty oh19 rfl kp0 (by decide) rfl rfl rfl (fun k20 => ?_)
      refine jT.lc 1 rfl rfl ?_
      refine jT.call rfl rfl (Nat.le_of_ble_eq_true rfl) (Nat.le_of_ble_eq_true rfl) (jrv_of oh19 k20 (by decide) rfl (by decide) rfl _) rfl (mj_Ok.up (Nat.add_le_add_left (by decide) D) (jc_86 (D := D) ty hg oh19 k20 ⟨by decide, by decide⟩)) rfl rfl (fun v21 h22 qv21 oh22 => ?_)
      obtain rfl : v21 = none := qv21
      refine mj_T.eq (pc2 := 83) (st2 := []) ?_ rfl rfl rfl rfl
      refine mj_T.pl rfl rfl rfl rfl ?_
      refine jT.getR 15 118 18 ty oh22 rfl kp0 (by decide) rfl rfl rfl (fun k23 => ?_)
      refine mj_T.pl rfl rfl rfl rfl ?_
      refine jT.callp rfl rfl (Nat.le_of_ble_eq_true rfl) (Nat.le_of_ble_eq_true rfl) (jrv_of oh22 k5 (by decide) rfl (by decide) rfl _) rfl (mj_Ok.up (Nat.add_le_add_left (by decide) D) (jc_37 (D := D) ty hg oh22 k5)) rfl rfl (fun v24 qv24 => ?_)
      obtain ⟨a25, ka25, rfl⟩ := qv24
      refine mj_T.eq (pc2 := 91) (st2 := [.ref a25, .ref (R p0 9)]) ?_ rfl rfl rfl rfl
      refine jT.call rfl rfl (Nat.le_of_ble_eq_true rfl) (Nat.le_of_ble_eq_true rfl) (jrv_of oh22 k23 (by decide) rfl (by decide) rfl _) rfl (mj_Ok.up (Nat.add_le_add_left (by decide) D) (jc_87 (D := D) ty hg oh22 k23 ka25)) rfl rfl (fun v26 h27 qv26 oh27 => ?_)
      obtain rfl : v26 = none := qv26
      refine mj_T.eq (pc2 := 94) (st2 := []) ?_ rfl rfl rfl rfl
      refine mj_T.pl rfl rfl rfl rfl ?_
      refine mj_T.pl (loc' := [some (.ref p0), some (.long (jl p1)), none, some (.ref (R (R (R p0 1) 1) (0 : Int).toNat)), some (.int (jn 0))]) rfl rfl rfl rfl ?_
      have t97_30 : ∀ (k31 : Nat) (x28 : Int) (h29 : mj_H), (-2147483648 ≤ x28 ∧ x28 ≤ 2147483647) → (jO K L R g n tm h29) → (0 ≤ x28) → (2147483647 - x28 : Int).toNat = k31 → mj_T (D + 3) mj_m64 97 [some (.ref p0), some (.long (jl p1)), none, some (.ref (R (R (R p0 1) 1) (0 : Int).toNat)), some (.int (jn x28))] [] h29 (jQ K L R g n tm [] jV0) := by
        refine jInd (fun k31 ih32 => ?_)
        intro x28 h29 rx28 oh29 ix28 hm33
        refine mj_T.pl rfl rfl rfl rfl ?_
        refine mj_T.pl rfl rfl rfl rfl ?_
        refine jT.icmp rfl rx28 ⟨by decide, by decide⟩ (fun c102 => ?_) (fun c102 => ?_)
        · have c102 := of_decide_eq_true c102
          refine mj_T.pl rfl rfl rfl rfl ?_
          refine jT.getR 15 116 16 ty oh29 rfl kp0 (by decide) rfl rfl rfl (fun k34 => ?_)
          refine mj_T.pl rfl rfl rfl rfl ?_
          refine jT.call rfl rfl (Nat.le_of_ble_eq_true rfl) (Nat.le_of_ble_eq_true rfl) (jrv_of oh29 k34 (by decide) rfl (by decide) rfl _) rfl (mj_Ok.up (Nat.add_le_add_left (by decide) D) (jc_74 (D := D) ty hg oh29 k34 jp1)) rfl rfl (fun v35 h36 qv35 oh36 => ?_)
          obtain rfl : v35 = none := qv35
          refine mj_T.eq (pc2 := 179) (st2 := []) ?_ rfl rfl rfl rfl
          exact jT.ret oh36 rfl rfl rfl rfl
        · have c102 := of_decide_eq_false c102
          refine mj_T.pl rfl rfl rfl rfl ?_
          refine jT.getR 15 118 18 ty oh29 rfl kp0 (by decide) rfl rfl rfl (fun k37 => ?_)
          refine mj_T.pl rfl rfl rfl rfl ?_
          refine jT.getR 15 118 18 ty oh29 rfl kp0 (by decide) rfl rfl rfl (fun k38 => ?_)
          refine jT.call rfl rfl (Nat.le_of_ble_eq_true rfl) (Nat.le_of_ble_eq_true rfl) (jrv_of oh29 k37 (by decide) rfl (by decide) rfl _) rfl (mj_Ok.up (Nat.add_le_add_left (by decide) D) (jc_87 (D := D) ty hg oh29 k37 k38)) rfl rfl (fun v39 h40 qv39 oh40 => ?_)
          obtain rfl : v39 = none := qv39
          refine mj_T.eq (pc2 := 116) (st2 := []) ?_ rfl rfl rfl rfl
          refine mj_T.pl rfl rfl rfl rfl ?_
          refine jT.getR 15 118 18 ty oh40 rfl kp0 (by decide) rfl rfl rfl (fun k41 => ?_)
          refine mj_T.pl rfl rfl rfl rfl ?_
          refine jT.getR 15 118 18 ty oh40 rfl kp0 (by decide) rfl rfl rfl (fun k42 => ?_)
          refine mj_T.pl rfl rfl rfl rfl ?_
          refine jT.call rfl rfl (Nat.le_of_ble_eq_true rfl) (Nat.le_of_ble_eq_true rfl) (jrv_of oh40 k41 (by decide) rfl (by decide) rfl _) rfl (mj_Ok.up (Nat.add_le_add_left (by decide) D) (jc_91 (D := D) ty hg oh40 k41 k42 ⟨by decide, by decide⟩)) rfl rfl (fun v43 h44 qv43 oh44 => ?_)
          obtain rfl : v43 = none := qv43
          refine mj_T.eq (pc2 := 128) (st2 := []) ?_ rfl rfl rfl rfl
          refine mj_T.pl rfl rfl rfl rfl ?_
          refine jT.getR 15 118 18 ty oh44 rfl kp0 (by decide) rfl rfl rfl (fun k45 => ?_)
          refine jT.getI 18 0 oh44 rfl k45 (by decide) rfl rfl rfl (fun z46 (az46 : (-2147483648) ≤ z46) (bz46 : z46 ≤ 2147483647) fz46 => ?_)
          have rz46 : -2147483648 ≤ z46 ∧ z46 ≤ 2147483647 := ⟨by omega, by omega⟩
          refine jT.if0 rfl rz46 (fun c135 => ?_) (fun c135 => ?_)
          · have c135 := of_decide_eq_true c135
            refine mj_T.pl rfl rfl rfl rfl ?_
            refine jT.getR 15 118 18 ty oh44 rfl kp0 (by decide) rfl rfl rfl (fun k47 => ?_)
            refine mj_T.pl rfl rfl rfl rfl ?_
            refine jT.getR 15 118 18 ty oh44 rfl kp0 (by decide) rfl rfl rfl (fun k48 => ?_)
            refine mj_T.pl rfl rfl rfl rfl ?_
            refine jT.call rfl rfl (Nat.le_of_ble_eq_true rfl) (Nat.le_of_ble_eq_true rfl) (jrv_of oh44 k47 (by decide) rfl (by decide) rfl _) rfl (mj_Ok.up (Nat.add_le_add_left (by decide) D) (jc_91 (D := D) ty hg oh44 k47 k48 ⟨by decide, by decide⟩)) rfl rfl (fun v49 h50 qv49 oh50 => ?_)
            obtain rfl : v49 = none := qv49
            refine mj_T.eq (pc2 := 153) (st2 := []) ?_ rfl rfl rfl rfl
            refine mj_T.pl rfl rfl rfl rfl ?_
            refine jT.getR 15 118 18 ty oh50 rfl kp0 (by decide) rfl rfl rfl (fun k51 => ?_)
            refine mj_T.pl rfl rfl rfl rfl ?_
            refine jT.getR 15 118 18 ty oh50 rfl kp0 (by decide) rfl rfl rfl (fun k52 => ?_)
            refine mj_T.pl rfl rfl rfl rfl ?_
            refine jT.call rfl rfl (Nat.le_of_ble_eq_true rfl) (Nat.le_of_ble_eq_true rfl) (jrv_of oh50 k51 (by decide) rfl (by decide) rfl _) rfl (mj_Ok.up (Nat.add_le_add_left (by decide) D) (jc_91 (D := D) ty hg oh50 k51 k52 ⟨by decide, by decide⟩)) rfl rfl (fun v53 h54 qv53 oh54 => ?_)
            obtain rfl : v53 = none := qv53
            refine mj_T.eq (pc2 := 165) (st2 := []) ?_ rfl rfl rfl rfl
            refine jT.iinc rfl rfl (fun z55 rz55 ez55 => ?_)
            replace ez55 := ez55 ⟨by omega, by omega⟩
            refine mj_T.eq (loc2 := [some (.ref p0), some (.long (jl p1)), none, some (.ref (R (R (R p0 1) 1) (0 : Int).toNat)), some (.int (jn z55))]) ?_ rfl rfl rfl rfl
            refine mj_T.pl rfl rfl rfl rfl ?_
            exact ih32 ((2147483647 - z55 : Int).toNat) (by omega) z55 h54 rz55 oh54 (by omega) rfl
          · have c135 := of_decide_eq_false c135
            iterate 2 refine mj_T.pl rfl rfl rfl rfl ?_
            refine jT.getR 15 116 16 ty oh44 rfl kp0 (by decide) rfl rfl rfl (fun k56 => ?_)
            refine mj_T.pl rfl rfl rfl rfl ?_
            refine jT.call rfl rfl (Nat.le_of_ble_eq_true rfl) (Nat.le_of_ble_eq_true rfl) (jrv_of oh44 k56 (by decide) rfl (by decide) rfl _) rfl (mj_Ok.up (Nat.add_le_add_left (by decide) D) (jc_74 (D := D) ty hg oh44 k56 jp1)) rfl rfl (fun v57 h58 qv57 oh58 => ?_)
            obtain rfl : v57 = none := qv57
            refine mj_T.eq (pc2 := 179) (st2 := []) ?_ rfl rfl rfl rfl
            exact jT.ret oh58 rfl rfl rfl rfl
      exact t97_30 _ 0 h27 ⟨by decide, by decide⟩ oh27 (by omega) rfl
    · have c32 := of_decide_eq_false c32
      refine mj_T.pl rfl rfl rfl rfl ?_
      refine jT.getR 15 118 18 ty oh10 rfl kp0 (by decide) rfl rfl rfl (fun k59 => ?_)
      iterate 2 refine mj_T.pl rfl rfl rfl rfl ?_
      refine jT.callp rfl rfl (Nat.le_of_ble_eq_true rfl) (Nat.le_of_ble_eq_true rfl) (jrv_of oh10 k5 (by decide) rfl (by decide) rfl _) rfl (mj_Ok.up (Nat.add_le_add_left (by decide) D) (jc_36 (D := D) ty hg oh10 k5 rx9)) rfl rfl (fun v60 qv60 => ?_)
      obtain ⟨a61, ka61, rfl⟩ := qv60
      refine mj_T.eq (pc2 := 45) (st2 := [.ref a61, .ref (R p0 10)]) ?_ rfl rfl rfl rfl
      iterate 2 refine mj_T.pl rfl rfl rfl rfl ?_
      refine jT.callp rfl rfl (Nat.le_of_ble_eq_true rfl) (Nat.le_of_ble_eq_true rfl) (jrv_of oh10 k5 (by decide) rfl (by decide) rfl _) rfl (mj_Ok.up (Nat.add_le_add_left (by decide) D) (jc_36 (D := D) ty hg oh10 k5 rx9)) rfl rfl (fun v62 qv62 => ?_)
      obtain ⟨a63, ka63, rfl⟩ := qv62
      refine mj_T.eq (pc2 := 51) (st2 := [.ref a63, .ref a61, .ref (R p0 10)]) ?_ rfl rfl rfl rfl
      refine jT.getI 18 0 oh10 rfl ka63 (by decide) rfl rfl rfl (fun z64 (az64 : (-2147483648) ≤ z64) (bz64 : z64 ≤ 2147483647) fz64 => ?_)
      have rz64 : -2147483648 ≤ z64 ∧ z64 ≤ 2147483647 := ⟨by omega, by omega⟩
      refine jT.call rfl rfl (Nat.le_of_ble_eq_true rfl) (Nat.le_of_ble_eq_true rfl) (jrv_of oh10 k59 (by decide) rfl (by decide) rfl _) rfl (mj_Ok.up (Nat.add_le_add_left (by decide) D) (jc_91 (D := D) ty hg oh10 k59 ka61 rz64)) rfl rfl (fun v65 h66 qv65 oh66 => ?_)
      obtain rfl : v65 = none := qv65
      refine mj_T.eq (pc2 := 57) (st2 := []) ?_ rfl rfl rfl rfl
      refine jT.iinc rfl rfl (fun z67 rz67 ez67 => ?_)
      replace ez67 := ez67 ⟨by omega, by omega⟩
      refine mj_T.eq (loc2 := [some (.ref p0), some (.long (jl p1)), none, some (.ref (R (R (R p0 1) 1) (0 : Int).toNat)), some (.int (jn z67))]) ?_ rfl rfl rfl rfl
      refine mj_T.pl rfl rfl rfl rfl ?_
      exact ih13 ((2147483647 - z67 : Int).toNat) (by omega) z67 h66 rz67 oh66 (by omega) rfl
  exact t26_11 _ 0 h8 ⟨by decide, by decide⟩ oh8 (by omega) rfl
-- PolyRegisters$Roots.locate(I)V
theorem jc_65 {D n : Nat} {tm : Int} {h g : mj_H} {K L : Nat → Nat} {R : Nat → Nat → Nat} {p0 : Nat} {p1 : Int} (ty : jTY K L R) (hg : g.length ≤ n) (o : jO K L R g n tm h) (kp0 : K p0 = 15) (rp1 : -2147483648 ≤ p1 ∧ p1 ≤ 2147483647) : mj_Ok (D + 5) 65 [.ref p0, .int (jn p1)] h (jQ K L R g n tm [] jV0) := by
  refine mj_Ok.of (M := mj_m65) (loc := [some (.ref p0), some (.int (jn p1)), none, none, none, none, none, none]) rfl rfl rfl ?_
  refine mj_T.pl rfl rfl rfl rfl ?_
  refine jT.getR 15 116 16 ty o rfl kp0 (by decide) rfl rfl rfl (fun k1 => ?_)
  refine jT.getR 16 105 5 ty o rfl k1 (by decide) rfl rfl rfl (fun k2 => ?_)
  refine mj_T.pl rfl rfl rfl rfl ?_
  have l3 : 14 ≤ (L (R (R p0 1) 1) : Int) ∧ (L (R (R p0 1) 1) : Int) ≤ 14 := jlen 5 ty k2 (by decide) (by decide)
  refine jT.aald 5 13 ty o rfl k2 (by decide) (by decide) rfl ⟨by decide, by decide⟩ ⟨by omega, by omega⟩ (fun k4 => ?_)
  refine mj_T.pl (loc' := [some (.ref p0), some (.int (jn p1)), some (.ref (R (R (R p0 1) 1) (0 : Int).toNat)), none, none, none, none, none]) rfl rfl rfl rfl ?_
  refine mj_T.pl rfl rfl rfl rfl ?_
  refine mj_T.pl (loc' := [some (.ref p0), some (.int (jn p1)), some (.ref (R (R (R p0 1) 1) (0 : Int).toNat)), some (.int (jn 0)), none, none, none, none]) rfl rfl rfl rfl ?_
  refine mj_T.pl rfl rfl rfl rfl ?_
  refine jT.getI 15 0 o rfl kp0 (by decide) rfl rfl rfl (fun z5 (az5 : (-2147483648) ≤ z5) (bz5 : z5 ≤ 2147483647) fz5 => ?_)
  have rz5 : -2147483648 ≤ z5 ∧ z5 ≤ 2147483647 := ⟨by omega, by omega⟩
  refine mj_T.pl (loc' := [some (.ref p0), some (.int (jn p1)), some (.ref (R (R (R p0 1) 1) (0 : Int).toNat)), some (.int (jn 0)), some (.int (jn z5)), none, none, none]) rfl rfl rfl rfl ?_
  refine mj_T.pl rfl rfl rfl rfl ?_
  refine jT.getK 15 0 o rfl kp0 (by decide) rfl rfl rfl fz5.symm ?_
  refine mj_T.pl rfl rfl rfl rfl ?_
  refine jT.isub rfl (fun z6 rz6 ez6 => ?_)
  clear ez6
  refine mj_T.pl rfl rfl rfl rfl ?_
  refine jT.irem rfl ⟨by decide, by decide⟩ (by decide) (fun z7 rz7 => ?_)
  have t34_9 : ∀ (x8 : Int), (-2147483648 ≤ x8 ∧ x8 ≤ 2147483647) → mj_T (D + 4) mj_m65 34 [some (.ref p0), some (.int (jn p1)), some (.ref (R (R (R p0 1) 1) (0 : Int).toNat)), some (.int (jn 0)), some (.int (jn z5)), none, none, none] [.int (jn x8)] h (jQ K L R g n tm [] jV0) := by
    intro x8 rx8
    refine mj_T.pl (loc' := [some (.ref p0), some (.int (jn p1)), some (.ref (R (R (R p0 1) 1) (0 : Int).toNat)), some (.int (jn 0)), some (.int (jn z5)), some (.int (jn x8)), none, none]) rfl rfl rfl rfl ?_
    refine mj_T.pl rfl rfl rfl rfl ?_
    refine jT.getR 15 118 18 ty o rfl kp0 (by decide) rfl rfl rfl (fun k10 => ?_)
    refine mj_T.pl rfl rfl rfl rfl ?_
    refine jT.getR 15 118 18 ty o rfl kp0 (by decide) rfl rfl rfl (fun k11 => ?_)
    refine jT.call rfl rfl (Nat.le_of_ble_eq_true rfl) (Nat.le_of_ble_eq_true rfl) (jrv_of o k10 (by decide) rfl (by decide) rfl _) rfl (mj_Ok.up (Nat.add_le_add_left (by decide) D) (jc_87 (D := D) ty hg o k10 k11)) rfl rfl (fun v12 h13 qv12 oh13 => ?_)
    obtain rfl : v12 = none := qv12
    refine mj_T.eq (pc2 := 47) (st2 := []) ?_ rfl rfl rfl rfl
    refine mj_T.pl rfl rfl rfl rfl ?_
    refine jT.getR 15 118 18 ty oh13 rfl kp0 (by decide) rfl rfl rfl (fun k14 => ?_)
    refine mj_T.pl rfl rfl rfl rfl ?_
    refine jT.putI 18 0 oh13 rfl k14 (by decide) rfl rfl rfl (Or.inl rfl) (by show (-2147483648) ≤ (-1); omega) (by show (-1) ≤ 2147483647; omega) (fun h15 oh15 wh15 uh15 => ?_)
    refine mj_T.pl rfl rfl rfl rfl ?_
    refine jT.getR 15 118 18 ty oh15 rfl kp0 (by decide) rfl rfl rfl (fun k16 => ?_)
    refine mj_T.pl rfl rfl rfl rfl ?_
    refine jT.getR 15 118 18 ty oh15 rfl kp0 (by decide) rfl rfl rfl (fun k17 => ?_)
    refine jT.call rfl rfl (Nat.le_of_ble_eq_true rfl) (Nat.le_of_ble_eq_true rfl) (jrv_of oh15 k16 (by decide) rfl (by decide) rfl _) rfl (mj_Ok.up (Nat.add_le_add_left (by decide) D) (jc_87 (D := D) ty hg oh15 k16 k17)) rfl rfl (fun v18 h19 qv18 oh19 => ?_)
    obtain rfl : v18 = none := qv18
    refine mj_T.eq (pc2 := 66) (st2 := []) ?_ rfl rfl rfl rfl
    refine mj_T.pl rfl rfl rfl rfl ?_
    refine mj_T.pl (loc' := [some (.ref p0), some (.int (jn p1)), some (.ref (R (R (R p0 1) 1) (0 : Int).toNat)), some (.int (jn 0)), some (.int (jn z5)), some (.int (jn x8)), some (.int (jn 0)), none]) rfl rfl rfl rfl ?_
    have t69_25 : ∀ (k26 : Nat) (x20 : Int) (x21 : Int) (x22 : Int) (w23 : Option Value) (h24 : mj_H), (-2147483648 ≤ x20 ∧ x20 ≤ 2147483647) → (-2147483648 ≤ x21 ∧ x21 ≤ 2147483647) → (-2147483648 ≤ x22 ∧ x22 ≤ 2147483647) → (jO K L R g n tm h24) → (0 ≤ x22) → (2147483647 - x22 : Int).toNat = k26 → mj_T (D + 4) mj_m65 69 [some (.ref p0), some (.int (jn p1)), some (.ref (R (R (R p0 1) 1) (0 : Int).toNat)), some (.int (jn x20)), some (.int (jn x21)), some (.int (jn x8)), some (.int (jn x22)), w23] [] h24 (jQ K L R g n tm [] jV0) := by
      refine jInd (fun k26 ih27 => ?_)
      intro x20 x21 x22 w23 h24 rx20 rx21 rx22 oh24 ix22 hm28
      refine mj_T.pl rfl rfl rfl rfl ?_
      refine mj_T.pl rfl rfl rfl rfl ?_
      have t210_29 : mj_T (D + 4) mj_m65 210 [some (.ref p0), some (.int (jn p1)), some (.ref (R (R (R p0 1) 1) (0 : Int).toNat)), some (.int (jn x20)), some (.int (jn x21)), some (.int (jn x8)), some (.int (jn x22)), w23] [] h24 (jQ K L R g n tm [] jV0) := by
        refine mj_T.pl rfl rfl rfl rfl ?_
        refine jT.getR 15 118 18 ty oh24 rfl kp0 (by decide) rfl rfl rfl (fun k30 => ?_)
        refine mj_T.pl rfl rfl rfl rfl ?_
        refine jT.getR 15 118 18 ty oh24 rfl kp0 (by decide) rfl rfl rfl (fun k31 => ?_)
        refine jT.call rfl rfl (Nat.le_of_ble_eq_true rfl) (Nat.le_of_ble_eq_true rfl) (jrv_of oh24 k30 (by decide) rfl (by decide) rfl _) rfl (mj_Ok.up (Nat.add_le_add_left (by decide) D) (jc_87 (D := D) ty hg oh24 k30 k31)) rfl rfl (fun v32 h33 qv32 oh33 => ?_)
        obtain rfl : v32 = none := qv32
        refine mj_T.eq (pc2 := 221) (st2 := []) ?_ rfl rfl rfl rfl
        refine mj_T.pl rfl rfl rfl rfl ?_
        refine jT.getR 15 118 18 ty oh33 rfl kp0 (by decide) rfl rfl rfl (fun k34 => ?_)
        refine mj_T.pl rfl rfl rfl rfl ?_
        refine jT.getR 15 118 18 ty oh33 rfl kp0 (by decide) rfl rfl rfl (fun k35 => ?_)
        refine mj_T.pl rfl rfl rfl rfl ?_
        refine jT.call rfl rfl (Nat.le_of_ble_eq_true rfl) (Nat.le_of_ble_eq_true rfl) (jrv_of oh33 k34 (by decide) rfl (by decide) rfl _) rfl (mj_Ok.up (Nat.add_le_add_left (by decide) D) (jc_91 (D := D) ty hg oh33 k34 k35 ⟨by decide, by decide⟩)) rfl rfl (fun v36 h37 qv36 oh37 => ?_)
        obtain rfl : v36 = none := qv36
        refine mj_T.eq (pc2 := 233) (st2 := []) ?_ rfl rfl rfl rfl
        iterate 4 refine mj_T.pl rfl rfl rfl rfl ?_
        refine jT.iadd rfl (fun z38 rz38 ez38 => ?_)
        clear ez38
        have t262_41 : ∀ (x39 : Int) (h40 : mj_H), (0 ≤ x39 ∧ x39 ≤ 1) → (jO K L R g n tm h40) → mj_T (D + 4) mj_m65 262 [some (.ref p0), some (.int (jn p1)), some (.ref (R (R (R p0 1) 1) (0 : Int).toNat)), some (.int (jn x20)), some (.int (jn x21)), some (.int (jn x8)), some (.int (jn x22)), w23] [.int (jn x39), .ref p0] h40 (jQ K L R g n tm [] jV0) := by
          intro x39 h40 ax39 oh40
          have rx39 : -2147483648 ≤ x39 ∧ x39 ≤ 2147483647 := ⟨by omega, by omega⟩
          refine jT.putI 15 2 oh40 rfl kp0 (by decide) rfl rfl rfl (Or.inr ⟨rfl, rfl⟩) (by show 0 ≤ x39; omega) (by show x39 ≤ 1; omega) (fun h42 oh42 wh42 uh42 => ?_)
          refine mj_T.pl rfl rfl rfl rfl ?_
          refine jT.getK 15 2 oh42 rfl kp0 (by decide) rfl rfl rfl wh42 ?_
          refine jT.if0 rfl rx39 (fun c269 => ?_) (fun c269 => ?_)
          · have c269 := of_decide_eq_true c269
            exact jT.ret oh42 rfl rfl rfl rfl
          · have c269 := of_decide_eq_false c269
            refine mj_T.pl rfl rfl rfl rfl ?_
            refine jT.getR 15 118 18 ty oh42 rfl kp0 (by decide) rfl rfl rfl (fun k43 => ?_)
            refine mj_T.pl rfl rfl rfl rfl ?_
            refine jT.getR 15 118 18 ty oh42 rfl kp0 (by decide) rfl rfl rfl (fun k44 => ?_)
            refine jT.call rfl rfl (Nat.le_of_ble_eq_true rfl) (Nat.le_of_ble_eq_true rfl) (jrv_of oh42 k43 (by decide) rfl (by decide) rfl _) rfl (mj_Ok.up (Nat.add_le_add_left (by decide) D) (jc_87 (D := D) ty hg oh42 k43 k44)) rfl rfl (fun v45 h46 qv45 oh46 => ?_)
            obtain rfl : v45 = none := qv45
            refine mj_T.eq (pc2 := 283) (st2 := []) ?_ rfl rfl rfl rfl
            exact jT.ret oh46 rfl rfl rfl rfl
        have t261_48 : ∀ (h47 : mj_H), (jO K L R g n tm h47) → mj_T (D + 4) mj_m65 261 [some (.ref p0), some (.int (jn p1)), some (.ref (R (R (R p0 1) 1) (0 : Int).toNat)), some (.int (jn x20)), some (.int (jn x21)), some (.int (jn x8)), some (.int (jn x22)), w23] [.ref p0] h47 (jQ K L R g n tm [] jV0) := by
          intro h47 oh47
          refine mj_T.pl rfl rfl rfl rfl ?_
          exact t262_41 0 h47 ⟨by omega, by omega⟩ oh47
        refine jT.icmp rfl rx21 rz38 (fun c239 => ?_) (fun c239 => ?_)
        · have c239 := jne1 c239
          exact t261_48 h37 oh37
        · have c239 := jne2 c239
          refine mj_T.pl rfl rfl rfl rfl ?_
          refine jT.getR 15 111 11 ty oh37 rfl kp0 (by decide) rfl rfl rfl (fun k49 => ?_)
          iterate 2 refine mj_T.pl rfl rfl rfl rfl ?_
          refine jT.getR 15 118 18 ty oh37 rfl kp0 (by decide) rfl rfl rfl (fun k50 => ?_)
          refine jT.call rfl rfl (Nat.le_of_ble_eq_true rfl) (Nat.le_of_ble_eq_true rfl) (jrv_of oh37 k49 (by decide) rfl (by decide) rfl _) rfl (mj_Ok.up (Nat.add_le_add_left (by decide) D) (jc_28 (D := D) ty hg oh37 k49 k4 k50)) rfl rfl (fun v51 h52 qv51 oh52 => ?_)
          obtain ⟨z53, az53, bz53, rfl⟩ := qv51
          have rz53 : -2147483648 ≤ z53 ∧ z53 ≤ 2147483647 := ⟨by omega, by omega⟩
          refine mj_T.eq (pc2 := 254) (st2 := [.int (jn z53), .ref p0]) ?_ rfl rfl rfl rfl
          refine jT.if0 rfl rz53 (fun c254 => ?_) (fun c254 => ?_)
          · have c254 := jne1 c254
            exact t261_48 h52 oh52
          · have c254 := jne2 c254
            iterate 2 refine mj_T.pl rfl rfl rfl rfl ?_
            exact t262_41 1 h52 ⟨by omega, by omega⟩ oh52
      refine jT.icmp rfl rx22 ⟨by decide, by decide⟩ (fun c74 => ?_) (fun c74 => ?_)
      · have c74 := of_decide_eq_true c74
        exact t210_29 
      · have c74 := of_decide_eq_false c74
        refine mj_T.pl rfl rfl rfl rfl ?_
        refine jT.getR 15 118 18 ty oh24 rfl kp0 (by decide) rfl rfl rfl (fun k54 => ?_)
        refine jT.getI 18 0 oh24 rfl k54 (by decide) rfl rfl rfl (fun z55 (az55 : (-2147483648) ≤ z55) (bz55 : z55 ≤ 2147483647) fz55 => ?_)
        have rz55 : -2147483648 ≤ z55 ∧ z55 ≤ 2147483647 := ⟨by omega, by omega⟩
        refine jT.if0 rfl rz55 (fun c84 => ?_) (fun c84 => ?_)
        · have c84 := of_decide_eq_true c84
          exact t210_29 
        · have c84 := of_decide_eq_false c84
          refine mj_T.pl rfl rfl rfl rfl ?_
          refine jT.getR 15 118 18 ty oh24 rfl kp0 (by decide) rfl rfl rfl (fun k56 => ?_)
          refine mj_T.pl rfl rfl rfl rfl ?_
          refine jT.getR 15 118 18 ty oh24 rfl kp0 (by decide) rfl rfl rfl (fun k57 => ?_)
          refine jT.call rfl rfl (Nat.le_of_ble_eq_true rfl) (Nat.le_of_ble_eq_true rfl) (jrv_of oh24 k56 (by decide) rfl (by decide) rfl _) rfl (mj_Ok.up (Nat.add_le_add_left (by decide) D) (jc_87 (D := D) ty hg oh24 k56 k57)) rfl rfl (fun v58 h59 qv58 oh59 => ?_)
          obtain rfl : v58 = none := qv58
          refine mj_T.eq (pc2 := 98) (st2 := []) ?_ rfl rfl rfl rfl
          refine mj_T.pl rfl rfl rfl rfl ?_
          refine jT.getR 15 118 18 ty oh59 rfl kp0 (by decide) rfl rfl rfl (fun k60 => ?_)
          refine mj_T.pl rfl rfl rfl rfl ?_
          refine jT.getR 15 118 18 ty oh59 rfl kp0 (by decide) rfl rfl rfl (fun k61 => ?_)
          refine mj_T.pl rfl rfl rfl rfl ?_
          refine jT.call rfl rfl (Nat.le_of_ble_eq_true rfl) (Nat.le_of_ble_eq_true rfl) (jrv_of oh59 k60 (by decide) rfl (by decide) rfl _) rfl (mj_Ok.up (Nat.add_le_add_left (by decide) D) (jc_91 (D := D) ty hg oh59 k60 k61 ⟨by decide, by decide⟩)) rfl rfl (fun v62 h63 qv62 oh63 => ?_)
          obtain rfl : v62 = none := qv62
          refine mj_T.eq (pc2 := 110) (st2 := []) ?_ rfl rfl rfl rfl
          iterate 2 refine mj_T.pl rfl rfl rfl rfl ?_
          refine jT.isub rfl (fun z64 rz64 ez64 => ?_)
          clear ez64
          refine mj_T.pl rfl rfl rfl rfl ?_
          refine jT.icmp rfl rz64 ⟨by decide, by decide⟩ (fun c115 => ?_) (fun c115 => ?_)
          · have c115 := of_decide_eq_true c115
            refine mj_T.pl rfl rfl rfl rfl ?_
            refine jT.getI 15 0 oh63 rfl kp0 (by decide) rfl rfl rfl (fun z65 (az65 : (-2147483648) ≤ z65) (bz65 : z65 ≤ 2147483647) fz65 => ?_)
            have rz65 : -2147483648 ≤ z65 ∧ z65 ≤ 2147483647 := ⟨by omega, by omega⟩
            refine mj_T.pl rfl rfl rfl rfl ?_
            refine jT.getR 15 116 16 ty oh63 rfl kp0 (by decide) rfl rfl rfl (fun k66 => ?_)
            refine mj_T.pl rfl rfl rfl rfl ?_
            refine jT.getR 15 118 18 ty oh63 rfl kp0 (by decide) rfl rfl rfl (fun k67 => ?_)
            refine jT.call rfl rfl (Nat.le_of_ble_eq_true rfl) (Nat.le_of_ble_eq_true rfl) (jrv_of oh63 k66 (by decide) rfl (by decide) rfl _) rfl (mj_Ok.up (Nat.add_le_add_left (by decide) D) (jc_76 (D := D) ty hg oh63 k66 k67)) rfl rfl (fun v68 h69 qv68 oh69 => ?_)
            obtain ⟨z70, az70, bz70, rfl⟩ := qv68
            have rz70 : -2147483648 ≤ z70 ∧ z70 ≤ 2147483647 := ⟨by omega, by omega⟩
            refine mj_T.eq (pc2 := 164) (st2 := [.int (jn z70), .int (jn z65)]) ?_ rfl rfl rfl rfl
            refine jT.isub rfl (fun z71 rz71 ez71 => ?_)
            clear ez71
            refine mj_T.pl (loc' := [some (.ref p0), some (.int (jn p1)), some (.ref (R (R (R p0 1) 1) (0 : Int).toNat)), some (.int (jn x20)), some (.int (jn x21)), some (.int (jn x8)), some (.int (jn x22)), some (.int (jn z71))]) rfl rfl rfl rfl ?_
            iterate 2 refine mj_T.pl rfl rfl rfl rfl ?_
            refine jT.icmp rfl rz71 rp1 (fun c170 => ?_) (fun c170 => ?_)
            · have c170 := of_decide_eq_true c170
              refine mj_T.pl rfl rfl rfl rfl ?_
              refine mj_T.pl (loc' := [some (.ref p0), some (.int (jn p1)), some (.ref (R (R (R p0 1) 1) (0 : Int).toNat)), some (.int (jn x20)), some (.int (jn z71)), some (.int (jn x8)), some (.int (jn x22)), some (.int (jn z71))]) rfl rfl rfl rfl ?_
              refine mj_T.pl rfl rfl rfl rfl ?_
              refine jT.getR 15 118 18 ty oh69 rfl kp0 (by decide) rfl rfl rfl (fun k72 => ?_)
              refine jT.ldcL rfl ?_
              refine jT.call rfl rfl (Nat.le_of_ble_eq_true rfl) (Nat.le_of_ble_eq_true rfl) (jrv_of oh69 k72 (by decide) rfl (by decide) rfl _) rfl (mj_Ok.up (Nat.add_le_add_left (by decide) D) (jc_97 (D := D) ty hg oh69 k72 ⟨by decide, by decide⟩)) rfl rfl (fun v73 h74 qv73 oh74 => ?_)
              obtain rfl : v73 = none := qv73
              refine mj_T.eq (pc2 := 204) (st2 := []) ?_ rfl rfl rfl rfl
              refine jT.iinc rfl rfl (fun z75 rz75 ez75 => ?_)
              replace ez75 := ez75 ⟨by omega, by omega⟩
              refine mj_T.eq (loc2 := [some (.ref p0), some (.int (jn p1)), some (.ref (R (R (R p0 1) 1) (0 : Int).toNat)), some (.int (jn x20)), some (.int (jn z71)), some (.int (jn x8)), some (.int (jn z75)), some (.int (jn z71))]) ?_ rfl rfl rfl rfl
              refine mj_T.pl rfl rfl rfl rfl ?_
              exact ih27 ((2147483647 - z75 : Int).toNat) (by omega) x20 z71 z75 (some (.int (jn z71))) h74 rx20 rz71 rz75 oh74 (by omega) rfl
            · have c170 := of_decide_eq_false c170
              refine mj_T.pl rfl rfl rfl rfl ?_
              refine jT.getR 15 118 18 ty oh69 rfl kp0 (by decide) rfl rfl rfl (fun k76 => ?_)
              refine mj_T.pl rfl rfl rfl rfl ?_
              refine jT.getR 15 118 18 ty oh69 rfl kp0 (by decide) rfl rfl rfl (fun k77 => ?_)
              refine jT.call rfl rfl (Nat.le_of_ble_eq_true rfl) (Nat.le_of_ble_eq_true rfl) (jrv_of oh69 k76 (by decide) rfl (by decide) rfl _) rfl (mj_Ok.up (Nat.add_le_add_left (by decide) D) (jc_87 (D := D) ty hg oh69 k76 k77)) rfl rfl (fun v78 h79 qv78 oh79 => ?_)
              obtain rfl : v78 = none := qv78
              refine mj_T.eq (pc2 := 184) (st2 := []) ?_ rfl rfl rfl rfl
              refine mj_T.pl rfl rfl rfl rfl ?_
              refine mj_T.pl (loc' := [some (.ref p0), some (.int (jn p1)), some (.ref (R (R (R p0 1) 1) (0 : Int).toNat)), some (.int (jn z71)), some (.int (jn x21)), some (.int (jn x8)), some (.int (jn x22)), some (.int (jn z71))]) rfl rfl rfl rfl ?_
              iterate 2 refine mj_T.pl rfl rfl rfl rfl ?_
              refine jT.getR 15 118 18 ty oh79 rfl kp0 (by decide) rfl rfl rfl (fun k80 => ?_)
              refine jT.ldcL rfl ?_
              refine jT.call rfl rfl (Nat.le_of_ble_eq_true rfl) (Nat.le_of_ble_eq_true rfl) (jrv_of oh79 k80 (by decide) rfl (by decide) rfl _) rfl (mj_Ok.up (Nat.add_le_add_left (by decide) D) (jc_97 (D := D) ty hg oh79 k80 ⟨by decide, by decide⟩)) rfl rfl (fun v81 h82 qv81 oh82 => ?_)
              obtain rfl : v81 = none := qv81
              refine mj_T.eq (pc2 := 204) (st2 := []) ?_ rfl rfl rfl rfl
              refine jT.iinc rfl rfl (fun z83 rz83 ez83 => ?_)
              replace ez83 := ez83 ⟨by omega, by omega⟩
              refine mj_T.eq (loc2 := [some (.ref p0), some (.int (jn p1)), some (.ref (R (R (R p0 1) 1) (0 : Int).toNat)), some (.int (jn z71)), some (.int (jn x21)), some (.int (jn x8)), some (.int (jn z83)), some (.int (jn z71))]) ?_ rfl rfl rfl rfl
              refine mj_T.pl rfl rfl rfl rfl ?_
              exact ih27 ((2147483647 - z83 : Int).toNat) (by omega) z71 x21 z83 (some (.int (jn z71))) h82 rz71 rx21 rz83 oh82 (by omega) rfl
          · have c115 := of_decide_eq_false c115
            refine mj_T.pl rfl rfl rfl rfl ?_
            refine jT.getR 15 111 11 ty oh63 rfl kp0 (by decide) rfl rfl rfl (fun k84 => ?_)
            iterate 2 refine mj_T.pl rfl rfl rfl rfl ?_
            refine jT.getR 15 118 18 ty oh63 rfl kp0 (by decide) rfl rfl rfl (fun k85 => ?_)
            refine jT.call rfl rfl (Nat.le_of_ble_eq_true rfl) (Nat.le_of_ble_eq_true rfl) (jrv_of oh63 k84 (by decide) rfl (by decide) rfl _) rfl (mj_Ok.up (Nat.add_le_add_left (by decide) D) (jc_28 (D := D) ty hg oh63 k84 k4 k85)) rfl rfl (fun v86 h87 qv86 oh87 => ?_)
            obtain ⟨z88, az88, bz88, rfl⟩ := qv86
            have rz88 : -2147483648 ≤ z88 ∧ z88 ≤ 2147483647 := ⟨by omega, by omega⟩
            refine mj_T.eq (pc2 := 130) (st2 := [.int (jn z88)]) ?_ rfl rfl rfl rfl
            refine mj_T.pl rfl rfl rfl rfl ?_
            refine jT.icmp rfl rz88 rx8 (fun c132 => ?_) (fun c132 => ?_)
            · have c132 := jne1 c132
              refine mj_T.pl rfl rfl rfl rfl ?_
              refine jT.getR 15 118 18 ty oh87 rfl kp0 (by decide) rfl rfl rfl (fun k89 => ?_)
              refine jT.ldcL rfl ?_
              refine jT.call rfl rfl (Nat.le_of_ble_eq_true rfl) (Nat.le_of_ble_eq_true rfl) (jrv_of oh87 k89 (by decide) rfl (by decide) rfl _) rfl (mj_Ok.up (Nat.add_le_add_left (by decide) D) (jc_97 (D := D) ty hg oh87 k89 ⟨by decide, by decide⟩)) rfl rfl (fun v90 h91 qv90 oh91 => ?_)
              obtain rfl : v90 = none := qv90
              refine mj_T.eq (pc2 := 204) (st2 := []) ?_ rfl rfl rfl rfl
              refine jT.iinc rfl rfl (fun z92 rz92 ez92 => ?_)
              replace ez92 := ez92 ⟨by omega, by omega⟩
              refine mj_T.eq (loc2 := [some (.ref p0), some (.int (jn p1)), some (.ref (R (R (R p0 1) 1) (0 : Int).toNat)), some (.int (jn x20)), some (.int (jn x21)), some (.int (jn x8)), some (.int (jn z92)), w23]) ?_ rfl rfl rfl rfl
              refine mj_T.pl rfl rfl rfl rfl ?_
              exact ih27 ((2147483647 - z92 : Int).toNat) (by omega) x20 x21 z92 w23 h91 rx20 rx21 rz92 oh91 (by omega) rfl
            · have c132 := jne2 c132
              refine mj_T.pl rfl rfl rfl rfl ?_
              refine jT.getR 15 118 18 ty oh87 rfl kp0 (by decide) rfl rfl rfl (fun k93 => ?_)
              refine mj_T.pl rfl rfl rfl rfl ?_
              refine jT.getR 15 118 18 ty oh87 rfl kp0 (by decide) rfl rfl rfl (fun k94 => ?_)
              refine jT.call rfl rfl (Nat.le_of_ble_eq_true rfl) (Nat.le_of_ble_eq_true rfl) (jrv_of oh87 k93 (by decide) rfl (by decide) rfl _) rfl (mj_Ok.up (Nat.add_le_add_left (by decide) D) (jc_87 (D := D) ty hg oh87 k93 k94)) rfl rfl (fun v95 h96 qv95 oh96 => ?_)
              obtain rfl : v95 = none := qv95
              refine mj_T.eq (pc2 := 146) (st2 := []) ?_ rfl rfl rfl rfl
              iterate 2 refine mj_T.pl rfl rfl rfl rfl ?_
              refine jT.getR 15 118 18 ty oh96 rfl kp0 (by decide) rfl rfl rfl (fun k97 => ?_)
              refine jT.ldcL rfl ?_
              refine jT.call rfl rfl (Nat.le_of_ble_eq_true rfl) (Nat.le_of_ble_eq_true rfl) (jrv_of oh96 k97 (by decide) rfl (by decide) rfl _) rfl (mj_Ok.up (Nat.add_le_add_left (by decide) D) (jc_97 (D := D) ty hg oh96 k97 ⟨by decide, by decide⟩)) rfl rfl (fun v98 h99 qv98 oh99 => ?_)
              obtain rfl : v98 = none := qv98
              refine mj_T.eq (pc2 := 204) (st2 := []) ?_ rfl rfl rfl rfl
              refine jT.iinc rfl rfl (fun z100 rz100 ez100 => ?_)
              replace ez100 := ez100 ⟨by omega, by omega⟩
              refine mj_T.eq (loc2 := [some (.ref p0), some (.int (jn p1)), some (.ref (R (R (R p0 1) 1) (0 : Int).toNat)), some (.int (jn x20)), some (.int (jn x21)), some (.int (jn x8)), some (.int (jn z100)), w23]) ?_ rfl rfl rfl rfl
              refine mj_T.pl rfl rfl rfl rfl ?_
              exact ih27 ((2147483647 - z100 : Int).toNat) (by omega) x20 x21 z100 w23 h99 rx20 rx21 rz100 oh99 (by omega) rfl
    exact t69_25 _ 0 z5 0 none h19 ⟨by decide, by decide⟩ rz5 ⟨by decide, by decide⟩ oh19 (by omega) rfl
  refine jT.if0 rfl rz7 (fun c26 => ?_) (fun c26 => ?_)
  · have c26 := jne1 c26
    refine mj_T.pl rfl rfl rfl rfl ?_
    exact t34_9 (-1) ⟨by decide, by decide⟩
  · have c26 := jne2 c26
    iterate 2 refine mj_T.pl rfl rfl rfl rfl ?_
    exact t34_9 1 ⟨by decide, by decide⟩
-- PolyRegisters$Roots.countFractions(I)I
theorem jc_66 {D n : Nat} {tm : Int} {h g : mj_H} {K L : Nat → Nat} {R : Nat → Nat → Nat} {p0 : Nat} {p1 : Int} (ty : jTY K L R) (hg : g.length ≤ n) (o : jO K L R g n tm h) (kp0 : K p0 = 15) (rp1 : -2147483648 ≤ p1 ∧ p1 ≤ 2147483647) : mj_Ok (D + 6) 66 [.ref p0, .int (jn p1)] h (jQ K L R g n tm [] (jVi (-2147483648) 2147483647)) := by
  refine mj_Ok.of (M := mj_m66) (loc := [some (.ref p0), some (.int (jn p1)), none, none]) rfl rfl rfl ?_
  iterate 2 refine mj_T.pl rfl rfl rfl rfl ?_
  refine jT.getR 15 116 16 ty o rfl kp0 (by decide) rfl rfl rfl (fun k1 => ?_)
  refine jT.getR 16 105 5 ty o rfl k1 (by decide) rfl rfl rfl (fun k2 => ?_)
  refine mj_T.pl rfl rfl rfl rfl ?_
  have l3 : 14 ≤ (L (R (R p0 1) 1) : Int) ∧ (L (R (R p0 1) 1) : Int) ≤ 14 := jlen 5 ty k2 (by decide) (by decide)
  refine jT.aald 5 13 ty o rfl k2 (by decide) (by decide) rfl ⟨by decide, by decide⟩ ⟨by omega, by omega⟩ (fun k4 => ?_)
  refine jT.callp rfl rfl (Nat.le_of_ble_eq_true rfl) (Nat.le_of_ble_eq_true rfl) (jrv_of o k4 (by decide) rfl (by decide) rfl _) rfl (mj_Ok.up (Nat.add_le_add_left (by decide) D) (jc_37 (D := D) ty hg o k4)) rfl rfl (fun v5 qv5 => ?_)
  obtain ⟨a6, ka6, rfl⟩ := qv5
  refine mj_T.eq (pc2 := 13) (st2 := [.ref a6, .ref p0]) ?_ rfl rfl rfl rfl
  refine jT.callp rfl rfl (Nat.le_of_ble_eq_true rfl) (Nat.le_of_ble_eq_true rfl) (jrv_of o ka6 (by decide) rfl (by decide) rfl _) rfl (mj_Ok.up (Nat.add_le_add_left (by decide) D) (jc_100 (D := D) ty hg o ka6)) rfl rfl (fun v7 qv7 => ?_)
  obtain ⟨z8, jz8, rfl⟩ := qv7
  refine mj_T.eq (pc2 := 16) (st2 := [.long (jl z8), .ref p0]) ?_ rfl rfl rfl rfl
  refine jT.call rfl rfl (Nat.le_of_ble_eq_true rfl) (Nat.le_of_ble_eq_true rfl) (jrv_of o kp0 (by decide) rfl (by decide) rfl _) rfl (mj_Ok.up (Nat.add_le_add_left (by decide) D) (jc_64 (D := D) ty hg o kp0 jz8)) rfl rfl (fun v9 h10 qv9 oh10 => ?_)
  obtain rfl : v9 = none := qv9
  refine mj_T.eq (pc2 := 19) (st2 := []) ?_ rfl rfl rfl rfl
  refine mj_T.pl rfl rfl rfl rfl ?_
  refine mj_T.pl (loc' := [some (.ref p0), some (.int (jn p1)), some (.int (jn 0)), none]) rfl rfl rfl rfl ?_
  refine mj_T.pl rfl rfl rfl rfl ?_
  refine mj_T.pl (loc' := [some (.ref p0), some (.int (jn p1)), some (.int (jn 0)), some (.int (jn 0))]) rfl rfl rfl rfl ?_
  have t23_14 : ∀ (k15 : Nat) (x11 : Int) (x12 : Int) (h13 : mj_H), (-2147483648 ≤ x11 ∧ x11 ≤ 2147483647) → (-2147483648 ≤ x12 ∧ x12 ≤ 2147483647) → (jO K L R g n tm h13) → (0 ≤ x12) → (2147483647 - x12 : Int).toNat = k15 → mj_T (D + 5) mj_m66 23 [some (.ref p0), some (.int (jn p1)), some (.int (jn x11)), some (.int (jn x12))] [] h13 (jQ K L R g n tm [] (jVi (-2147483648) 2147483647)) := by
    refine jInd (fun k15 ih16 => ?_)
    intro x11 x12 h13 rx11 rx12 oh13 ix12 hm17
    refine mj_T.pl rfl rfl rfl rfl ?_
    refine mj_T.pl rfl rfl rfl rfl ?_
    refine jT.getI 15 0 oh13 rfl kp0 (by decide) rfl rfl rfl (fun z18 (az18 : (-2147483648) ≤ z18) (bz18 : z18 ≤ 2147483647) fz18 => ?_)
    have rz18 : -2147483648 ≤ z18 ∧ z18 ≤ 2147483647 := ⟨by omega, by omega⟩
    refine jT.icmp rfl rx12 rz18 (fun c28 => ?_) (fun c28 => ?_)
    · have c28 := of_decide_eq_true c28
      refine mj_T.pl rfl rfl rfl rfl ?_
      exact jT.ret oh13 rfl rfl rfl ⟨x11, by omega, by omega, rfl⟩
    · have c28 := of_decide_eq_false c28
      iterate 2 refine mj_T.pl rfl rfl rfl rfl ?_
      refine jT.icmp rfl rx11 rp1 (fun c33 => ?_) (fun c33 => ?_)
      · have c33 := of_decide_eq_true c33
        refine mj_T.pl rfl rfl rfl rfl ?_
        exact jT.ret oh13 rfl rfl rfl ⟨x11, by omega, by omega, rfl⟩
      · have c33 := of_decide_eq_false c33
        iterate 2 refine mj_T.pl rfl rfl rfl rfl ?_
        refine jT.call rfl rfl (Nat.le_of_ble_eq_true rfl) (Nat.le_of_ble_eq_true rfl) (jrv_of oh13 kp0 (by decide) rfl (by decide) rfl _) rfl (mj_Ok.up (Nat.add_le_add_left (by decide) D) (jc_65 (D := D) ty hg oh13 kp0 rx12)) rfl rfl (fun v19 h20 qv19 oh20 => ?_)
        obtain rfl : v19 = none := qv19
        refine mj_T.eq (pc2 := 41) (st2 := []) ?_ rfl rfl rfl rfl
        iterate 2 refine mj_T.pl rfl rfl rfl rfl ?_
        refine jT.getI 15 2 oh20 rfl kp0 (by decide) rfl rfl rfl (fun z21 (az21 : 0 ≤ z21) (bz21 : z21 ≤ 1) fz21 => ?_)
        have rz21 : -2147483648 ≤ z21 ∧ z21 ≤ 2147483647 := ⟨by omega, by omega⟩
        refine jT.if0 rfl rz21 (fun c46 => ?_) (fun c46 => ?_)
        · have c46 := of_decide_eq_true c46
          refine mj_T.pl rfl rfl rfl rfl ?_
          refine jT.iadd rfl (fun z22 rz22 ez22 => ?_)
          replace ez22 := ez22 ⟨by omega, by omega⟩
          refine mj_T.pl (loc' := [some (.ref p0), some (.int (jn p1)), some (.int (jn z22)), some (.int (jn x12))]) rfl rfl rfl rfl ?_
          refine jT.iinc rfl rfl (fun z23 rz23 ez23 => ?_)
          replace ez23 := ez23 ⟨by omega, by omega⟩
          refine mj_T.eq (loc2 := [some (.ref p0), some (.int (jn p1)), some (.int (jn z22)), some (.int (jn z23))]) ?_ rfl rfl rfl rfl
          refine mj_T.pl rfl rfl rfl rfl ?_
          exact ih16 ((2147483647 - z23 : Int).toNat) (by omega) z22 z23 h20 rz22 rz23 oh20 (by omega) rfl
        · have c46 := of_decide_eq_false c46
          iterate 2 refine mj_T.pl rfl rfl rfl rfl ?_
          refine jT.iadd rfl (fun z24 rz24 ez24 => ?_)
          replace ez24 := ez24 ⟨by omega, by omega⟩
          refine mj_T.pl (loc' := [some (.ref p0), some (.int (jn p1)), some (.int (jn z24)), some (.int (jn x12))]) rfl rfl rfl rfl ?_
          refine jT.iinc rfl rfl (fun z25 rz25 ez25 => ?_)
          replace ez25 := ez25 ⟨by omega, by omega⟩
          refine mj_T.eq (loc2 := [some (.ref p0), some (.int (jn p1)), some (.int (jn z24)), some (.int (jn z25))]) ?_ rfl rfl rfl rfl
          refine mj_T.pl rfl rfl rfl rfl ?_
          exact ih16 ((2147483647 - z25 : Int).toNat) (by omega) z24 z25 h20 rz24 rz25 oh20 (by omega) rfl
  exact t23_14 _ 0 0 h10 ⟨by decide, by decide⟩ ⟨by decide, by decide⟩ oh10 (by omega) rfl
