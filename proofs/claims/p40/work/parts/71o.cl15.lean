/-! The class by kinds: what others call. -/
-- PolyRegisters.interpolate(I)J
theorem jc_117 {D n : Nat} {tm : Int} {h g : mj_H} {K L : Nat → Nat} {R : Nat → Nat → Nat} {p0 : Nat} {p1 : Int} (ty : jTY K L R) (hg : g.length ≤ n) (o : jO K L R g n tm h) (kp0 : K p0 = 19) (rp1 : -2147483648 ≤ p1 ∧ p1 ≤ 2147483647) : mj_Ok (D + 5) 117 [.ref p0, .int (jn p1)] h (jQ K L R g n tm [0, 1] jVl) := by
  refine mj_Ok.of (M := mj_m117) (loc := [some (.ref p0), some (.int (jn p1)), none, none, none, none, none]) rfl rfl rfl ?_
  iterate 2 refine mj_T.pl rfl rfl rfl rfl ?_
  refine jT.callp rfl rfl (Nat.le_of_ble_eq_true rfl) (Nat.le_of_ble_eq_true rfl) (jrv_of o kp0 (by decide) rfl (by decide) rfl _) rfl (mj_Ok.up (Nat.add_le_add_left (by decide) D) (jc_149 (D := D) ty hg o kp0 rp1)) rfl rfl (fun v1 qv1 => ?_)
  obtain ⟨a2, ka2, rfl⟩ := qv1
  refine mj_T.eq (pc2 := 5) (st2 := [.ref a2]) ?_ rfl rfl rfl rfl
  iterate 2 refine mj_T.pl rfl rfl rfl rfl ?_
  refine jT.getR 19 110 10 ty o rfl kp0 (by decide) rfl rfl rfl (fun k3 => ?_)
  refine jT.callp rfl rfl (Nat.le_of_ble_eq_true rfl) (Nat.le_of_ble_eq_true rfl) (jrv_of o k3 (by decide) rfl (by decide) rfl _) rfl (mj_Ok.up (Nat.add_le_add_left (by decide) D) (jc_8 (D := D) ty hg o k3)) rfl rfl (fun v4 qv4 => ?_)
  obtain ⟨z5, jz5, rfl⟩ := qv4
  refine mj_T.eq (pc2 := 13) (st2 := [.long (jl z5)]) ?_ rfl rfl rfl rfl
  refine mj_T.pl (loc' := [some (.ref p0), some (.int (jn p1)), some (.long (jl z5)), none, none, none, none]) rfl rfl rfl rfl ?_
  refine mj_T.pl rfl rfl rfl rfl ?_
  refine jT.getR 19 111 11 ty o rfl kp0 (by decide) rfl rfl rfl (fun k6 => ?_)
  refine jT.getR 11 113 13 ty o rfl k6 (by decide) rfl rfl rfl (fun k7 => ?_)
  refine jT.call rfl rfl (Nat.le_of_ble_eq_true rfl) (Nat.le_of_ble_eq_true rfl) (jrv_of o k7 (by decide) rfl (by decide) rfl _) rfl (mj_Ok.up (Nat.add_le_add_left (by decide) D) (jc_39 (D := D) ty hg o k7)) rfl rfl (fun v8 h9 qv8 oh9 => ?_)
  obtain rfl : v8 = none := qv8
  refine mj_T.eq (pc2 := 24) (st2 := []) ?_ rfl rfl rfl rfl
  refine mj_T.pl rfl rfl rfl rfl ?_
  refine mj_T.pl (loc' := [some (.ref p0), some (.int (jn p1)), some (.long (jl z5)), none, some (.int (jn 0)), none, none]) rfl rfl rfl rfl ?_
  have t27_13 : ∀ (k14 : Nat) (x10 : Int) (w11 : Option Value) (h12 : mj_H), (-2147483648 ≤ x10 ∧ x10 ≤ 2147483647) → (jO K L R g n tm h12) → (0 ≤ x10) → (2147483647 - x10 : Int).toNat = k14 → mj_T (D + 4) mj_m117 27 [some (.ref p0), some (.int (jn p1)), some (.long (jl z5)), none, some (.int (jn x10)), w11, none] [] h12 (jQ K L R g n tm [0, 1] jVl) := by
    refine jInd (fun k14 ih15 => ?_)
    intro x10 w11 h12 rx10 oh12 ix10 hm16
    refine mj_T.pl rfl rfl rfl rfl ?_
    refine mj_T.pl rfl rfl rfl rfl ?_
    refine jT.getR 19 110 10 ty oh12 rfl kp0 (by decide) rfl rfl rfl (fun k17 => ?_)
    refine jT.getI 10 9 oh12 rfl k17 (by decide) rfl rfl rfl (fun z18 (az18 : 0 ≤ z18) (bz18 : z18 ≤ 2147483647) fz18 => ?_)
    have rz18 : -2147483648 ≤ z18 ∧ z18 ≤ 2147483647 := ⟨by omega, by omega⟩
    refine jT.icmp rfl rx10 rz18 (fun c36 => ?_) (fun c36 => ?_)
    · have c36 := of_decide_eq_true c36
      refine mj_T.pl rfl rfl rfl rfl ?_
      refine jT.getR 19 111 11 ty oh12 rfl kp0 (by decide) rfl rfl rfl (fun k19 => ?_)
      refine mj_T.pl rfl rfl rfl rfl ?_
      refine jT.call rfl rfl (Nat.le_of_ble_eq_true rfl) (Nat.le_of_ble_eq_true rfl) (jrv_of oh12 k19 (by decide) rfl (by decide) rfl _) rfl (mj_Ok.up (Nat.add_le_add_left (by decide) D) (jc_22 (D := D) ty hg oh12 k19 jz5)) rfl rfl (fun v20 h21 qv20 oh21 => ?_)
      obtain ⟨z22, jz22, rfl⟩ := qv20
      refine mj_T.eq (pc2 := 114) (st2 := [.long (jl z22)]) ?_ rfl rfl rfl rfl
      refine mj_T.pl (loc' := [some (.ref p0), some (.int (jn p1)), some (.long (jl z5)), none, some (.long (jl z22)), none, none]) rfl rfl rfl rfl ?_
      refine mj_T.pl rfl rfl rfl rfl ?_
      refine jT.getR 19 111 11 ty oh21 rfl kp0 (by decide) rfl rfl rfl (fun k23 => ?_)
      refine jT.getR 11 113 13 ty oh21 rfl k23 (by decide) rfl rfl rfl (fun k24 => ?_)
      refine mj_T.pl rfl rfl rfl rfl ?_
      refine jT.getR 19 102 2 ty oh21 rfl kp0 (by decide) rfl rfl rfl (fun k25 => ?_)
      refine jT.call rfl rfl (Nat.le_of_ble_eq_true rfl) (Nat.le_of_ble_eq_true rfl) (jrv_of oh21 k24 (by decide) rfl (by decide) rfl _) rfl (mj_Ok.up (Nat.add_le_add_left (by decide) D) (jc_44 (D := D) ty hg oh21 k24 k25)) rfl rfl (fun v26 h27 qv26 oh27 => ?_)
      obtain ⟨z28, az28, bz28, rfl⟩ := qv26
      have rz28 : -2147483648 ≤ z28 ∧ z28 ≤ 2147483647 := ⟨by omega, by omega⟩
      refine mj_T.eq (pc2 := 130) (st2 := [.int (jn z28)]) ?_ rfl rfl rfl rfl
      refine jT.if0 rfl rz28 (fun c130 => ?_) (fun c130 => ?_)
      · have c130 := jne1 c130
        iterate 2 refine mj_T.pl rfl rfl rfl rfl ?_
        refine jT.call rfl rfl (Nat.le_of_ble_eq_true rfl) (Nat.le_of_ble_eq_true rfl) (jrv_of oh27 kp0 (by decide) rfl (by decide) rfl _) rfl (mj_Ok.up (Nat.add_le_add_left (by decide) D) (jc_154 (D := D) ty hg oh27 kp0 rp1)) rfl rfl (fun v29 h30 qv29 oh30 => ?_)
        obtain ⟨z31, az31, bz31, rfl⟩ := qv29
        have rz31 : -2147483648 ≤ z31 ∧ z31 ≤ 2147483647 := ⟨by omega, by omega⟩
        refine mj_T.eq (pc2 := 146) (st2 := [.int (jn z31)]) ?_ rfl rfl rfl rfl
        iterate 2 refine mj_T.pl rfl rfl rfl rfl ?_
        refine jT.lc 0 rfl rfl ?_
        refine mj_T.lif rfl rfl jz22 ⟨by decide, by decide⟩ (fun c150 => ?_) (fun c150 => ?_)
        · have c150 := jne1 c150
          iterate 2 refine mj_T.pl rfl rfl rfl rfl ?_
          refine jT.ldiv rfl jz22 (by omega) (fun z32 jz32 => ?_)
          exact jT.ret oh30 rfl rfl rfl ⟨z32, jz32, rfl⟩
        · have c150 := jne2 c150
          iterate 2 refine mj_T.pl rfl rfl rfl rfl ?_
          exact jT.ret oh30 rfl rfl rfl ⟨z5, jz5, rfl⟩
      · have c130 := jne2 c130
        exact jT.thr oh27 hg rfl rfl rfl (Nat.le_of_ble_eq_true rfl) rfl
    · have c36 := of_decide_eq_false c36
      refine mj_T.pl rfl rfl rfl rfl ?_
      refine jT.getR 19 110 10 ty oh12 rfl kp0 (by decide) rfl rfl rfl (fun k33 => ?_)
      refine mj_T.pl rfl rfl rfl rfl ?_
      refine jT.callp rfl rfl (Nat.le_of_ble_eq_true rfl) (Nat.le_of_ble_eq_true rfl) (jrv_of oh12 k33 (by decide) rfl (by decide) rfl _) rfl (mj_Ok.up (Nat.add_le_add_left (by decide) D) (jc_7 (D := D) ty hg oh12 k33 rx10)) rfl rfl (fun v34 qv34 => ?_)
      obtain ⟨z35, jz35, rfl⟩ := qv34
      refine mj_T.eq (pc2 := 48) (st2 := [.long (jl z35)]) ?_ rfl rfl rfl rfl
      refine mj_T.pl (loc' := [some (.ref p0), some (.int (jn p1)), some (.long (jl z5)), none, some (.int (jn x10)), some (.long (jl z35)), none]) rfl rfl rfl rfl ?_
      refine mj_T.pl rfl rfl rfl rfl ?_
      refine jT.getR 19 110 10 ty oh12 rfl kp0 (by decide) rfl rfl rfl (fun k36 => ?_)
      iterate 2 refine mj_T.pl rfl rfl rfl rfl ?_
      refine jT.getR 19 102 2 ty oh12 rfl kp0 (by decide) rfl rfl rfl (fun k37 => ?_)
      refine jT.call rfl rfl (Nat.le_of_ble_eq_true rfl) (Nat.le_of_ble_eq_true rfl) (jrv_of oh12 k36 (by decide) rfl (by decide) rfl _) rfl (mj_Ok.up (Nat.add_le_add_left (by decide) D) (jc_9 (D := D) ty hg oh12 k36 rx10 k37)) rfl rfl (fun v38 h39 qv38 oh39 => ?_)
      obtain rfl : v38 = none := qv38
      refine mj_T.eq (pc2 := 63) (st2 := []) ?_ rfl rfl rfl rfl
      refine mj_T.pl rfl rfl rfl rfl ?_
      refine jT.getR 19 111 11 ty oh39 rfl kp0 (by decide) rfl rfl rfl (fun k40 => ?_)
      refine mj_T.pl rfl rfl rfl rfl ?_
      refine jT.lc 0 rfl rfl ?_
      refine mj_T.lif rfl rfl jz35 ⟨by decide, by decide⟩ (fun c70 => ?_) (fun c70 => ?_)
      · have c70 := jne1 c70
        refine mj_T.pl rfl rfl rfl rfl ?_
        refine jT.getR 19 110 10 ty oh39 rfl kp0 (by decide) rfl rfl rfl (fun k41 => ?_)
        refine mj_T.pl rfl rfl rfl rfl ?_
        refine jT.callp rfl rfl (Nat.le_of_ble_eq_true rfl) (Nat.le_of_ble_eq_true rfl) (jrv_of oh39 k41 (by decide) rfl (by decide) rfl _) rfl (mj_Ok.up (Nat.add_le_add_left (by decide) D) (jc_6 (D := D) ty hg oh39 k41 rx10)) rfl rfl (fun v42 qv42 => ?_)
        obtain ⟨z43, az43, bz43, rfl⟩ := qv42
        have rz43 : -2147483648 ≤ z43 ∧ z43 ≤ 2147483647 := ⟨by omega, by omega⟩
        refine mj_T.eq (pc2 := 87) (st2 := [.int (jn z43), .ref (R p0 7)]) ?_ rfl rfl rfl rfl
        refine jT.i2l rfl rz43 ?_
        have j44 : jR z43 := ⟨by omega, by omega⟩
        iterate 2 refine mj_T.pl rfl rfl rfl rfl ?_
        refine jT.ldiv rfl jz35 (by omega) (fun z45 jz45 => ?_)
        refine jT.lmul rfl (fun z46 jz46 _ => ?_)
        refine mj_T.pl rfl rfl rfl rfl ?_
        refine jT.getR 19 102 2 ty oh39 rfl kp0 (by decide) rfl rfl rfl (fun k47 => ?_)
        refine jT.call rfl rfl (Nat.le_of_ble_eq_true rfl) (Nat.le_of_ble_eq_true rfl) (jrv_of oh39 k40 (by decide) rfl (by decide) rfl _) rfl (mj_Ok.up (Nat.add_le_add_left (by decide) D) (jc_21 (D := D) ty hg oh39 k40 jz46 k47)) rfl rfl (fun v48 h49 qv48 oh49 => ?_)
        obtain rfl : v48 = none := qv48
        refine mj_T.eq (pc2 := 100) (st2 := []) ?_ rfl rfl rfl rfl
        refine jT.iinc rfl rfl (fun z50 rz50 ez50 => ?_)
        replace ez50 := ez50 ⟨by omega, by omega⟩
        refine mj_T.eq (loc2 := [some (.ref p0), some (.int (jn p1)), some (.long (jl z5)), none, some (.int (jn z50)), some (.long (jl z35)), none]) ?_ rfl rfl rfl rfl
        refine mj_T.pl rfl rfl rfl rfl ?_
        exact ih15 ((2147483647 - z50 : Int).toNat) (by omega) z50 (some (.long (jl z35))) h49 rz50 oh49 (by omega) rfl
      · have c70 := jne2 c70
        refine jT.lc 0 rfl rfl ?_
        iterate 2 refine mj_T.pl rfl rfl rfl rfl ?_
        refine jT.getR 19 102 2 ty oh39 rfl kp0 (by decide) rfl rfl rfl (fun k51 => ?_)
        refine jT.call rfl rfl (Nat.le_of_ble_eq_true rfl) (Nat.le_of_ble_eq_true rfl) (jrv_of oh39 k40 (by decide) rfl (by decide) rfl _) rfl (mj_Ok.up (Nat.add_le_add_left (by decide) D) (jc_21 (D := D) ty hg oh39 k40 ⟨by decide, by decide⟩ k51)) rfl rfl (fun v52 h53 qv52 oh53 => ?_)
        obtain rfl : v52 = none := qv52
        refine mj_T.eq (pc2 := 100) (st2 := []) ?_ rfl rfl rfl rfl
        refine jT.iinc rfl rfl (fun z54 rz54 ez54 => ?_)
        replace ez54 := ez54 ⟨by omega, by omega⟩
        refine mj_T.eq (loc2 := [some (.ref p0), some (.int (jn p1)), some (.long (jl z5)), none, some (.int (jn z54)), some (.long (jl z35)), none]) ?_ rfl rfl rfl rfl
        refine mj_T.pl rfl rfl rfl rfl ?_
        exact ih15 ((2147483647 - z54 : Int).toNat) (by omega) z54 (some (.long (jl z35))) h53 rz54 oh53 (by omega) rfl
  exact t27_13 _ 0 none h9 ⟨by decide, by decide⟩ oh9 (by omega) rfl
-- PolyRegisters.undo()I
theorem jc_118 {D n : Nat} {tm : Int} {h g : mj_H} {K L : Nat → Nat} {R : Nat → Nat → Nat} {p0 : Nat} (ty : jTY K L R) (hg : g.length ≤ n) (o : jO K L R g n tm h) (kp0 : K p0 = 19) : mj_Ok (D + 3) 118 [.ref p0] h (jQ K L R g n tm [] (jVi (-2147483648) 2147483647)) := by
  refine mj_Ok.of (M := mj_m118) (loc := [some (.ref p0)]) rfl rfl rfl ?_
  refine mj_T.pl rfl rfl rfl rfl ?_
  refine jT.getI 19 0 o rfl kp0 (by decide) rfl rfl rfl (fun z1 (az1 : (-2147483648) ≤ z1) (bz1 : z1 ≤ 2147483647) fz1 => ?_)
  have rz1 : -2147483648 ≤ z1 ∧ z1 ≤ 2147483647 := ⟨by omega, by omega⟩
  refine jT.if0 rfl rz1 (fun c4 => ?_) (fun c4 => ?_)
  · have c4 := jne1 c4
    iterate 2 refine mj_T.pl rfl rfl rfl rfl ?_
    refine jT.getI 19 0 o rfl kp0 (by decide) rfl rfl rfl (fun z2 (az2 : (-2147483648) ≤ z2) (bz2 : z2 ≤ 2147483647) fz2 => ?_)
    have rz2 : -2147483648 ≤ z2 ∧ z2 ≤ 2147483647 := ⟨by omega, by omega⟩
    refine mj_T.pl rfl rfl rfl rfl ?_
    refine jT.iadd rfl (fun z3 rz3 ez3 => ?_)
    clear ez3
    refine mj_T.pl rfl rfl rfl rfl ?_
    refine jT.isub rfl (fun z4 rz4 ez4 => ?_)
    clear ez4
    refine mj_T.pl rfl rfl rfl rfl ?_
    refine jT.irem rfl ⟨by decide, by decide⟩ (by decide) (fun z5 rz5 => ?_)
    refine jT.putI 19 0 o rfl kp0 (by decide) rfl rfl rfl (Or.inl rfl) (by show (-2147483648) ≤ z5; omega) (by show z5 ≤ 2147483647; omega) (fun h6 oh6 wh6 uh6 => ?_)
    iterate 2 refine mj_T.pl rfl rfl rfl rfl ?_
    refine jT.getK 19 0 oh6 rfl kp0 (by decide) rfl rfl rfl ((uh6 p0 2 (Or.inr (by decide))).trans fz1.symm) ?_
    refine mj_T.pl rfl rfl rfl rfl ?_
    refine jT.isub rfl (fun z7 rz7 ez7 => ?_)
    clear ez7
    refine jT.putI 19 0 oh6 rfl kp0 (by decide) rfl rfl rfl (Or.inl rfl) (by show (-2147483648) ≤ z7; omega) (by show z7 ≤ 2147483647; omega) (fun h8 oh8 wh8 uh8 => ?_)
    refine mj_T.pl rfl rfl rfl rfl ?_
    refine jT.getR 19 110 10 ty oh8 rfl kp0 (by decide) rfl rfl rfl (fun k9 => ?_)
    refine mj_T.pl rfl rfl rfl rfl ?_
    refine jT.callp rfl rfl (Nat.le_of_ble_eq_true rfl) (Nat.le_of_ble_eq_true rfl) (jrv_of oh8 kp0 (by decide) rfl (by decide) rfl _) rfl (mj_Ok.up (Nat.add_le_add_left (by decide) D) (jc_155 (D := D) ty hg oh8 kp0)) rfl rfl (fun v10 qv10 => ?_)
    obtain ⟨a11, ka11, rfl⟩ := qv10
    refine mj_T.eq (pc2 := 43) (st2 := [.ref a11, .ref (R p0 0)]) ?_ rfl rfl rfl rfl
    refine jT.call rfl rfl (Nat.le_of_ble_eq_true rfl) (Nat.le_of_ble_eq_true rfl) (jrv_of oh8 k9 (by decide) rfl (by decide) rfl _) rfl (mj_Ok.up (Nat.add_le_add_left (by decide) D) (jc_2 (D := D) ty hg oh8 k9 ka11)) rfl rfl (fun v12 h13 qv12 oh13 => ?_)
    obtain rfl : v12 = none := qv12
    refine mj_T.eq (pc2 := 46) (st2 := []) ?_ rfl rfl rfl rfl
    refine mj_T.pl rfl rfl rfl rfl ?_
    refine jT.getI 19 0 oh13 rfl kp0 (by decide) rfl rfl rfl (fun z14 (az14 : (-2147483648) ≤ z14) (bz14 : z14 ≤ 2147483647) fz14 => ?_)
    have rz14 : -2147483648 ≤ z14 ∧ z14 ≤ 2147483647 := ⟨by omega, by omega⟩
    exact jT.ret oh13 rfl rfl rfl ⟨z14, by omega, by omega, rfl⟩
  · have c4 := jne2 c4
    refine mj_T.pl rfl rfl rfl rfl ?_
    exact jT.ret o rfl rfl rfl ⟨(-1), by omega, by omega, rfl⟩
-- PolyRegisters.degree(I)I
theorem jc_119 {D n : Nat} {tm : Int} {h g : mj_H} {K L : Nat → Nat} {R : Nat → Nat → Nat} {p0 : Nat} {p1 : Int} (ty : jTY K L R) (hg : g.length ≤ n) (o : jO K L R g n tm h) (kp0 : K p0 = 19) (rp1 : -2147483648 ≤ p1 ∧ p1 ≤ 2147483647) : mj_Ok (D + 2) 119 [.ref p0, .int (jn p1)] h (jQp K L R g n tm h [0] (jVi (-2147483648) 2147483647)) := by
  refine mj_Ok.of (M := mj_m119) (loc := [some (.ref p0), some (.int (jn p1))]) rfl rfl rfl ?_
  iterate 2 refine mj_T.pl rfl rfl rfl rfl ?_
  refine jT.callpp rfl rfl (Nat.le_of_ble_eq_true rfl) (Nat.le_of_ble_eq_true rfl) (jrv_of o kp0 (by decide) rfl (by decide) rfl _) rfl (mj_Ok.up (Nat.add_le_add_left (by decide) D) (jc_149 (D := D) ty hg o kp0 rp1)) rfl rfl (fun v1 qv1 => ?_)
  obtain ⟨a2, ka2, rfl⟩ := qv1
  refine mj_T.eq (pc2 := 5) (st2 := [.ref a2]) ?_ rfl rfl rfl rfl
  refine jT.callpp rfl rfl (Nat.le_of_ble_eq_true rfl) (Nat.le_of_ble_eq_true rfl) rfl rfl (mj_Ok.up (Nat.add_le_add_left (by decide) D) (jc_162 (D := D) ty hg o ka2)) rfl rfl (fun v3 qv3 => ?_)
  obtain ⟨z4, az4, bz4, rfl⟩ := qv3
  have rz4 : -2147483648 ≤ z4 ∧ z4 ≤ 2147483647 := ⟨by omega, by omega⟩
  refine mj_T.eq (pc2 := 8) (st2 := [.int (jn z4)]) ?_ rfl rfl rfl rfl
  exact jT.retp rfl rfl rfl ⟨z4, by omega, by omega, rfl⟩
-- PolyRegisters.terms(I)I
theorem jc_120 {D n : Nat} {tm : Int} {h g : mj_H} {K L : Nat → Nat} {R : Nat → Nat → Nat} {p0 : Nat} {p1 : Int} (ty : jTY K L R) (hg : g.length ≤ n) (o : jO K L R g n tm h) (kp0 : K p0 = 19) (rp1 : -2147483648 ≤ p1 ∧ p1 ≤ 2147483647) : mj_Ok (D + 2) 120 [.ref p0, .int (jn p1)] h (jQp K L R g n tm h [0] (jVi (-2147483648) 2147483647)) := by
  refine mj_Ok.of (M := mj_m120) (loc := [some (.ref p0), some (.int (jn p1))]) rfl rfl rfl ?_
  iterate 2 refine mj_T.pl rfl rfl rfl rfl ?_
  refine jT.callpp rfl rfl (Nat.le_of_ble_eq_true rfl) (Nat.le_of_ble_eq_true rfl) (jrv_of o kp0 (by decide) rfl (by decide) rfl _) rfl (mj_Ok.up (Nat.add_le_add_left (by decide) D) (jc_149 (D := D) ty hg o kp0 rp1)) rfl rfl (fun v1 qv1 => ?_)
  obtain ⟨a2, ka2, rfl⟩ := qv1
  refine mj_T.eq (pc2 := 5) (st2 := [.ref a2]) ?_ rfl rfl rfl rfl
  refine jT.callpp rfl rfl (Nat.le_of_ble_eq_true rfl) (Nat.le_of_ble_eq_true rfl) rfl rfl (mj_Ok.up (Nat.add_le_add_left (by decide) D) (jc_163 (D := D) ty hg o ka2)) rfl rfl (fun v3 qv3 => ?_)
  obtain ⟨z4, az4, bz4, rfl⟩ := qv3
  have rz4 : -2147483648 ≤ z4 ∧ z4 ≤ 2147483647 := ⟨by omega, by omega⟩
  refine mj_T.eq (pc2 := 8) (st2 := [.int (jn z4)]) ?_ rfl rfl rfl rfl
  exact jT.retp rfl rfl rfl ⟨z4, by omega, by omega, rfl⟩
-- PolyRegisters.exponent(II)I
theorem jc_121 {D n : Nat} {tm : Int} {h g : mj_H} {K L : Nat → Nat} {R : Nat → Nat → Nat} {p0 : Nat} {p1 : Int} {p2 : Int} (ty : jTY K L R) (hg : g.length ≤ n) (o : jO K L R g n tm h) (kp0 : K p0 = 19) (rp1 : -2147483648 ≤ p1 ∧ p1 ≤ 2147483647) (rp2 : -2147483648 ≤ p2 ∧ p2 ≤ 2147483647) : mj_Ok (D + 2) 121 [.ref p0, .int (jn p1), .int (jn p2)] h (jQp K L R g n tm h [0] (jVi (-2147483648) 2147483647)) := by
  refine mj_Ok.of (M := mj_m121) (loc := [some (.ref p0), some (.int (jn p1)), some (.int (jn p2)), none, none, none]) rfl rfl rfl ?_
  iterate 2 refine mj_T.pl rfl rfl rfl rfl ?_
  refine jT.callpp rfl rfl (Nat.le_of_ble_eq_true rfl) (Nat.le_of_ble_eq_true rfl) (jrv_of o kp0 (by decide) rfl (by decide) rfl _) rfl (mj_Ok.up (Nat.add_le_add_left (by decide) D) (jc_149 (D := D) ty hg o kp0 rp1)) rfl rfl (fun v1 qv1 => ?_)
  obtain ⟨a2, ka2, rfl⟩ := qv1
  refine mj_T.eq (pc2 := 5) (st2 := [.ref a2]) ?_ rfl rfl rfl rfl
  refine mj_T.pl (loc' := [some (.ref p0), some (.int (jn p1)), some (.int (jn p2)), some (.ref a2), none, none]) rfl rfl rfl rfl ?_
  refine mj_T.pl rfl rfl rfl rfl ?_
  refine mj_T.pl (loc' := [some (.ref p0), some (.int (jn p1)), some (.int (jn p2)), some (.ref a2), some (.int (jn p2)), none]) rfl rfl rfl rfl ?_
  refine mj_T.pl rfl rfl rfl rfl ?_
  refine jT.alen 2 ty o rfl ka2 (by decide) (by decide) (fun z3 ez3 (az3 : 13 ≤ z3) (bz3 : z3 ≤ 13) => ?_)
  have rz3 : -2147483648 ≤ z3 ∧ z3 ≤ 2147483647 := ⟨by omega, by omega⟩
  refine mj_T.pl rfl rfl rfl rfl ?_
  refine jT.isub rfl (fun z4 rz4 ez4 => ?_)
  replace ez4 := ez4 ⟨by omega, by omega⟩
  refine mj_T.pl (loc' := [some (.ref p0), some (.int (jn p1)), some (.int (jn p2)), some (.ref a2), some (.int (jn p2)), some (.int (jn z4))]) rfl rfl rfl rfl ?_
  have t15_7 : ∀ (k8 : Nat) (x5 : Int) (x6 : Int), (-2147483648 ≤ x5 ∧ x5 ≤ 2147483647) → (-2147483648 ≤ x6 ∧ x6 ≤ 2147483647) → (x6 ≤ z4) → (x6 + 1 : Int).toNat = k8 → mj_T (D + 1) mj_m121 15 [some (.ref p0), some (.int (jn p1)), some (.int (jn p2)), some (.ref a2), some (.int (jn x5)), some (.int (jn x6))] [] h (jQp K L R g n tm h [0] (jVi (-2147483648) 2147483647)) := by
    refine jInd (fun k8 ih9 => ?_)
    intro x5 x6 rx5 rx6 ix6 hm10
    refine mj_T.pl rfl rfl rfl rfl ?_
    refine jT.if0 rfl rx6 (fun c17 => ?_) (fun c17 => ?_)
    · have c17 := of_decide_eq_true c17
      exact jT.thrp o hg rfl rfl rfl (Nat.le_of_ble_eq_true rfl) rfl
    · have c17 := of_decide_eq_false c17
      refine mj_T.pl rfl rfl rfl rfl ?_
      refine jT.if0 rfl rx5 (fun c22 => ?_) (fun c22 => ?_)
      · have c22 := of_decide_eq_true c22
        exact jT.thrp o hg rfl rfl rfl (Nat.le_of_ble_eq_true rfl) rfl
      · have c22 := of_decide_eq_false c22
        iterate 2 refine mj_T.pl rfl rfl rfl rfl ?_
        refine jT.lald o rfl ka2 rx6 ⟨by omega, by omega⟩ (fun z11 jz11 => ?_)
        refine jT.lc 0 rfl rfl ?_
        refine mj_T.lif rfl rfl jz11 ⟨by decide, by decide⟩ (fun c30 => ?_) (fun c30 => ?_)
        · have c30 := of_decide_eq_true c30
          refine jT.iinc rfl rfl (fun z12 rz12 ez12 => ?_)
          replace ez12 := ez12 ⟨by omega, by omega⟩
          refine mj_T.eq (loc2 := [some (.ref p0), some (.int (jn p1)), some (.int (jn p2)), some (.ref a2), some (.int (jn x5)), some (.int (jn z12))]) ?_ rfl rfl rfl rfl
          refine mj_T.pl rfl rfl rfl rfl ?_
          exact ih9 ((z12 + 1 : Int).toNat) (by omega) x5 z12 rx5 rz12 (by omega) rfl
        · have c30 := of_decide_eq_false c30
          refine mj_T.pl rfl rfl rfl rfl ?_
          refine jT.if0 rfl rx5 (fun c36 => ?_) (fun c36 => ?_)
          · have c36 := jne1 c36
            refine jT.iinc rfl rfl (fun z13 rz13 ez13 => ?_)
            replace ez13 := ez13 ⟨by omega, by omega⟩
            refine mj_T.eq (loc2 := [some (.ref p0), some (.int (jn p1)), some (.int (jn p2)), some (.ref a2), some (.int (jn z13)), some (.int (jn x6))]) ?_ rfl rfl rfl rfl
            refine jT.iinc rfl rfl (fun z14 rz14 ez14 => ?_)
            replace ez14 := ez14 ⟨by omega, by omega⟩
            refine mj_T.eq (loc2 := [some (.ref p0), some (.int (jn p1)), some (.int (jn p2)), some (.ref a2), some (.int (jn z13)), some (.int (jn z14))]) ?_ rfl rfl rfl rfl
            refine mj_T.pl rfl rfl rfl rfl ?_
            exact ih9 ((z14 + 1 : Int).toNat) (by omega) z13 z14 rz13 rz14 (by omega) rfl
          · have c36 := jne2 c36
            refine mj_T.pl rfl rfl rfl rfl ?_
            exact jT.retp rfl rfl rfl ⟨x6, by omega, by omega, rfl⟩
  exact t15_7 _ p2 z4 rp2 rz4 (by omega) rfl
-- PolyRegisters.coefficient(II)I
theorem jc_122 {D n : Nat} {tm : Int} {h g : mj_H} {K L : Nat → Nat} {R : Nat → Nat → Nat} {p0 : Nat} {p1 : Int} {p2 : Int} (ty : jTY K L R) (hg : g.length ≤ n) (o : jO K L R g n tm h) (kp0 : K p0 = 19) (rp1 : -2147483648 ≤ p1 ∧ p1 ≤ 2147483647) (rp2 : -2147483648 ≤ p2 ∧ p2 ≤ 2147483647) : mj_Ok (D + 3) 122 [.ref p0, .int (jn p1), .int (jn p2)] h (jQ K L R g n tm [0, 2] (jVi (-2147483648) 2147483647)) := by
  refine mj_Ok.of (M := mj_m122) (loc := [some (.ref p0), some (.int (jn p1)), some (.int (jn p2)), none]) rfl rfl rfl ?_
  iterate 2 refine mj_T.pl rfl rfl rfl rfl ?_
  refine jT.callp rfl rfl (Nat.le_of_ble_eq_true rfl) (Nat.le_of_ble_eq_true rfl) (jrv_of o kp0 (by decide) rfl (by decide) rfl _) rfl (mj_Ok.up (Nat.add_le_add_left (by decide) D) (jc_149 (D := D) ty hg o kp0 rp1)) rfl rfl (fun v1 qv1 => ?_)
  obtain ⟨a2, ka2, rfl⟩ := qv1
  refine mj_T.eq (pc2 := 5) (st2 := [.ref a2]) ?_ rfl rfl rfl rfl
  refine mj_T.pl (loc' := [some (.ref p0), some (.int (jn p1)), some (.int (jn p2)), some (.ref a2)]) rfl rfl rfl rfl ?_
  refine mj_T.pl rfl rfl rfl rfl ?_
  refine jT.callp rfl rfl (Nat.le_of_ble_eq_true rfl) (Nat.le_of_ble_eq_true rfl) rfl rfl (mj_Ok.up (Nat.add_le_add_left (by decide) D) (jc_150 (D := D) ty hg o rp2)) rfl rfl (fun v3 qv3 => ?_)
  obtain ⟨rfl, fv3⟩ := qv3
  refine mj_T.eq (pc2 := 10) (st2 := []) ?_ rfl rfl rfl rfl
  iterate 3 refine mj_T.pl rfl rfl rfl rfl ?_
  have l4 : 13 ≤ (L a2 : Int) ∧ (L a2 : Int) ≤ 13 := jlen 2 ty ka2 (by decide) (by decide)
  refine jT.lald o rfl ka2 rp2 ⟨by omega, by omega⟩ (fun z5 jz5 => ?_)
  refine jT.call rfl rfl (Nat.le_of_ble_eq_true rfl) (Nat.le_of_ble_eq_true rfl) (jrv_of o kp0 (by decide) rfl (by decide) rfl _) rfl (mj_Ok.up (Nat.add_le_add_left (by decide) D) (jc_158 (D := D) ty hg o kp0 jz5)) rfl rfl (fun v6 h7 qv6 oh7 => ?_)
  obtain ⟨z8, az8, bz8, rfl⟩ := qv6
  have rz8 : -2147483648 ≤ z8 ∧ z8 ≤ 2147483647 := ⟨by omega, by omega⟩
  refine mj_T.eq (pc2 := 17) (st2 := [.int (jn z8)]) ?_ rfl rfl rfl rfl
  exact jT.ret oh7 rfl rfl rfl ⟨z8, by omega, by omega, rfl⟩
-- PolyRegisters.content(I)I
theorem jc_123 {D n : Nat} {tm : Int} {h g : mj_H} {K L : Nat → Nat} {R : Nat → Nat → Nat} {p0 : Nat} {p1 : Int} (ty : jTY K L R) (hg : g.length ≤ n) (o : jO K L R g n tm h) (kp0 : K p0 = 19) (rp1 : -2147483648 ≤ p1 ∧ p1 ≤ 2147483647) : mj_Ok (D + 3) 123 [.ref p0, .int (jn p1)] h (jQ K L R g n tm [0] (jVi (-2147483648) 2147483647)) := by
  refine mj_Ok.of (M := mj_m123) (loc := [some (.ref p0), some (.int (jn p1))]) rfl rfl rfl ?_
  iterate 3 refine mj_T.pl rfl rfl rfl rfl ?_
  refine jT.callp rfl rfl (Nat.le_of_ble_eq_true rfl) (Nat.le_of_ble_eq_true rfl) (jrv_of o kp0 (by decide) rfl (by decide) rfl _) rfl (mj_Ok.up (Nat.add_le_add_left (by decide) D) (jc_149 (D := D) ty hg o kp0 rp1)) rfl rfl (fun v1 qv1 => ?_)
  obtain ⟨a2, ka2, rfl⟩ := qv1
  refine mj_T.eq (pc2 := 6) (st2 := [.ref a2, .ref p0]) ?_ rfl rfl rfl rfl
  refine jT.callp rfl rfl (Nat.le_of_ble_eq_true rfl) (Nat.le_of_ble_eq_true rfl) rfl rfl (mj_Ok.up (Nat.add_le_add_left (by decide) D) (jc_169 (D := D) ty hg o ka2)) rfl rfl (fun v3 qv3 => ?_)
  obtain ⟨z4, jz4, rfl⟩ := qv3
  refine mj_T.eq (pc2 := 9) (st2 := [.long (jl z4), .ref p0]) ?_ rfl rfl rfl rfl
  refine jT.call rfl rfl (Nat.le_of_ble_eq_true rfl) (Nat.le_of_ble_eq_true rfl) (jrv_of o kp0 (by decide) rfl (by decide) rfl _) rfl (mj_Ok.up (Nat.add_le_add_left (by decide) D) (jc_158 (D := D) ty hg o kp0 jz4)) rfl rfl (fun v5 h6 qv5 oh6 => ?_)
  obtain ⟨z7, az7, bz7, rfl⟩ := qv5
  have rz7 : -2147483648 ≤ z7 ∧ z7 ≤ 2147483647 := ⟨by omega, by omega⟩
  refine mj_T.eq (pc2 := 12) (st2 := [.int (jn z7)]) ?_ rfl rfl rfl rfl
  exact jT.ret oh6 rfl rfl rfl ⟨z7, by omega, by omega, rfl⟩
-- PolyRegisters.value(III)I
theorem jc_124 {D n : Nat} {tm : Int} {h g : mj_H} {K L : Nat → Nat} {R : Nat → Nat → Nat} {p0 : Nat} {p1 : Int} {p2 : Int} {p3 : Int} (ty : jTY K L R) (hg : g.length ≤ n) (o : jO K L R g n tm h) (kp0 : K p0 = 19) (rp1 : -2147483648 ≤ p1 ∧ p1 ≤ 2147483647) (rp2 : -2147483648 ≤ p2 ∧ p2 ≤ 2147483647) (rp3 : -2147483648 ≤ p3 ∧ p3 ≤ 2147483647) : mj_Ok (D + 5) 124 [.ref p0, .int (jn p1), .int (jn p2), .int (jn p3)] h (jQ K L R g n tm [0, 2] (jVi (-2147483648) 2147483647)) := by
  refine mj_Ok.of (M := mj_m124) (loc := [some (.ref p0), some (.int (jn p1)), some (.int (jn p2)), some (.int (jn p3)), none]) rfl rfl rfl ?_
  iterate 2 refine mj_T.pl rfl rfl rfl rfl ?_
  refine jT.callp rfl rfl (Nat.le_of_ble_eq_true rfl) (Nat.le_of_ble_eq_true rfl) (jrv_of o kp0 (by decide) rfl (by decide) rfl _) rfl (mj_Ok.up (Nat.add_le_add_left (by decide) D) (jc_149 (D := D) ty hg o kp0 rp1)) rfl rfl (fun v1 qv1 => ?_)
  obtain ⟨a2, ka2, rfl⟩ := qv1
  refine mj_T.eq (pc2 := 5) (st2 := [.ref a2]) ?_ rfl rfl rfl rfl
  refine mj_T.pl (loc' := [some (.ref p0), some (.int (jn p1)), some (.int (jn p2)), some (.int (jn p3)), some (.ref a2)]) rfl rfl rfl rfl ?_
  iterate 2 refine mj_T.pl rfl rfl rfl rfl ?_
  refine jT.callp rfl rfl (Nat.le_of_ble_eq_true rfl) (Nat.le_of_ble_eq_true rfl) rfl rfl (mj_Ok.up (Nat.add_le_add_left (by decide) D) (jc_151 (D := D) ty hg o rp2 rp3)) rfl rfl (fun v3 qv3 => ?_)
  obtain rfl : v3 = none := qv3
  refine mj_T.eq (pc2 := 12) (st2 := []) ?_ rfl rfl rfl rfl
  refine mj_T.pl rfl rfl rfl rfl ?_
  refine jT.getR 19 111 11 ty o rfl kp0 (by decide) rfl rfl rfl (fun k4 => ?_)
  iterate 3 refine mj_T.pl rfl rfl rfl rfl ?_
  refine jT.call rfl rfl (Nat.le_of_ble_eq_true rfl) (Nat.le_of_ble_eq_true rfl) (jrv_of o k4 (by decide) rfl (by decide) rfl _) rfl (mj_Ok.up (Nat.add_le_add_left (by decide) D) (jc_27 (D := D) ty hg o k4 ka2 rp2 rp3)) rfl rfl (fun v5 h6 qv5 oh6 => ?_)
  obtain ⟨z7, az7, bz7, rfl⟩ := qv5
  have rz7 : -2147483648 ≤ z7 ∧ z7 ≤ 2147483647 := ⟨by omega, by omega⟩
  refine mj_T.eq (pc2 := 23) (st2 := [.int (jn z7)]) ?_ rfl rfl rfl rfl
  iterate 3 refine mj_T.pl rfl rfl rfl rfl ?_
  refine jT.getR 19 111 11 ty oh6 rfl kp0 (by decide) rfl rfl rfl (fun k8 => ?_)
  refine jT.getR 11 118 18 ty oh6 rfl k8 (by decide) rfl rfl rfl (fun k9 => ?_)
  refine mj_T.pl rfl rfl rfl rfl ?_
  refine jT.i2l rfl rp3 ?_
  have j10 : jR p3 := ⟨by omega, by omega⟩
  refine mj_T.pl rfl rfl rfl rfl ?_
  refine jT.callp rfl rfl (Nat.le_of_ble_eq_true rfl) (Nat.le_of_ble_eq_true rfl) rfl rfl (mj_Ok.up (Nat.add_le_add_left (by decide) D) (jc_162 (D := D) ty hg oh6 ka2)) rfl rfl (fun v11 qv11 => ?_)
  obtain ⟨z12, az12, bz12, rfl⟩ := qv11
  have rz12 : -2147483648 ≤ z12 ∧ z12 ≤ 2147483647 := ⟨by omega, by omega⟩
  refine mj_T.eq (pc2 := 39) (st2 := [.int (jn z12), .long (jl p3), .ref (R (R p0 7) 4), .ref p0]) ?_ rfl rfl rfl rfl
  refine jT.call rfl rfl (Nat.le_of_ble_eq_true rfl) (Nat.le_of_ble_eq_true rfl) (jrv_of oh6 kp0 (by decide) rfl (by decide) rfl _) rfl (mj_Ok.up (Nat.add_le_add_left (by decide) D) (jc_159 (D := D) ty hg oh6 kp0 k9 j10 rz12)) rfl rfl (fun v13 h14 qv13 oh14 => ?_)
  obtain ⟨z15, az15, bz15, rfl⟩ := qv13
  have rz15 : -2147483648 ≤ z15 ∧ z15 ≤ 2147483647 := ⟨by omega, by omega⟩
  refine mj_T.eq (pc2 := 42) (st2 := [.int (jn z15)]) ?_ rfl rfl rfl rfl
  exact jT.ret oh14 rfl rfl rfl ⟨z15, by omega, by omega, rfl⟩
-- PolyRegisters.divides(II)Z
theorem jc_125 {D n : Nat} {tm : Int} {h g : mj_H} {K L : Nat → Nat} {R : Nat → Nat → Nat} {p0 : Nat} {p1 : Int} {p2 : Int} (ty : jTY K L R) (hg : g.length ≤ n) (o : jO K L R g n tm h) (kp0 : K p0 = 19) (rp1 : -2147483648 ≤ p1 ∧ p1 ≤ 2147483647) (rp2 : -2147483648 ≤ p2 ∧ p2 ≤ 2147483647) : mj_Ok (D + 5) 125 [.ref p0, .int (jn p1), .int (jn p2)] h (jQ K L R g n tm [0] (jVi 0 1)) := by
  refine mj_Ok.of (M := mj_m125) (loc := [some (.ref p0), some (.int (jn p1)), some (.int (jn p2)), none, none]) rfl rfl rfl ?_
  iterate 2 refine mj_T.pl rfl rfl rfl rfl ?_
  refine jT.callp rfl rfl (Nat.le_of_ble_eq_true rfl) (Nat.le_of_ble_eq_true rfl) (jrv_of o kp0 (by decide) rfl (by decide) rfl _) rfl (mj_Ok.up (Nat.add_le_add_left (by decide) D) (jc_149 (D := D) ty hg o kp0 rp1)) rfl rfl (fun v1 qv1 => ?_)
  obtain ⟨a2, ka2, rfl⟩ := qv1
  refine mj_T.eq (pc2 := 5) (st2 := [.ref a2]) ?_ rfl rfl rfl rfl
  refine mj_T.pl (loc' := [some (.ref p0), some (.int (jn p1)), some (.int (jn p2)), some (.ref a2), none]) rfl rfl rfl rfl ?_
  iterate 2 refine mj_T.pl rfl rfl rfl rfl ?_
  refine jT.callp rfl rfl (Nat.le_of_ble_eq_true rfl) (Nat.le_of_ble_eq_true rfl) (jrv_of o kp0 (by decide) rfl (by decide) rfl _) rfl (mj_Ok.up (Nat.add_le_add_left (by decide) D) (jc_149 (D := D) ty hg o kp0 rp2)) rfl rfl (fun v3 qv3 => ?_)
  obtain ⟨a4, ka4, rfl⟩ := qv3
  refine mj_T.eq (pc2 := 11) (st2 := [.ref a4]) ?_ rfl rfl rfl rfl
  refine mj_T.pl (loc' := [some (.ref p0), some (.int (jn p1)), some (.int (jn p2)), some (.ref a2), some (.ref a4)]) rfl rfl rfl rfl ?_
  refine mj_T.pl rfl rfl rfl rfl ?_
  refine jT.getR 19 111 11 ty o rfl kp0 (by decide) rfl rfl rfl (fun k5 => ?_)
  iterate 2 refine mj_T.pl rfl rfl rfl rfl ?_
  refine jT.call rfl rfl (Nat.le_of_ble_eq_true rfl) (Nat.le_of_ble_eq_true rfl) (jrv_of o k5 (by decide) rfl (by decide) rfl _) rfl (mj_Ok.up (Nat.add_le_add_left (by decide) D) (jc_18 (D := D) ty hg o k5 ka4 ka2)) rfl rfl (fun v6 h7 qv6 oh7 => ?_)
  obtain ⟨z8, az8, bz8, rfl⟩ := qv6
  have rz8 : -2147483648 ≤ z8 ∧ z8 ≤ 2147483647 := ⟨by omega, by omega⟩
  refine mj_T.eq (pc2 := 23) (st2 := [.int (jn z8)]) ?_ rfl rfl rfl rfl
  exact jT.retb oh7 rfl rfl (by omega) (by omega)
-- PolyRegisters.areSame(II)Z
theorem jc_126 {D n : Nat} {tm : Int} {h g : mj_H} {K L : Nat → Nat} {R : Nat → Nat → Nat} {p0 : Nat} {p1 : Int} {p2 : Int} (ty : jTY K L R) (hg : g.length ≤ n) (o : jO K L R g n tm h) (kp0 : K p0 = 19) (rp1 : -2147483648 ≤ p1 ∧ p1 ≤ 2147483647) (rp2 : -2147483648 ≤ p2 ∧ p2 ≤ 2147483647) : mj_Ok (D + 2) 126 [.ref p0, .int (jn p1), .int (jn p2)] h (jQp K L R g n tm h [0] (jVi 0 1)) := by
  refine mj_Ok.of (M := mj_m126) (loc := [some (.ref p0), some (.int (jn p1)), some (.int (jn p2))]) rfl rfl rfl ?_
  iterate 2 refine mj_T.pl rfl rfl rfl rfl ?_
  refine jT.callpp rfl rfl (Nat.le_of_ble_eq_true rfl) (Nat.le_of_ble_eq_true rfl) (jrv_of o kp0 (by decide) rfl (by decide) rfl _) rfl (mj_Ok.up (Nat.add_le_add_left (by decide) D) (jc_149 (D := D) ty hg o kp0 rp1)) rfl rfl (fun v1 qv1 => ?_)
  obtain ⟨a2, ka2, rfl⟩ := qv1
  refine mj_T.eq (pc2 := 5) (st2 := [.ref a2]) ?_ rfl rfl rfl rfl
  iterate 2 refine mj_T.pl rfl rfl rfl rfl ?_
  refine jT.callpp rfl rfl (Nat.le_of_ble_eq_true rfl) (Nat.le_of_ble_eq_true rfl) (jrv_of o kp0 (by decide) rfl (by decide) rfl _) rfl (mj_Ok.up (Nat.add_le_add_left (by decide) D) (jc_149 (D := D) ty hg o kp0 rp2)) rfl rfl (fun v3 qv3 => ?_)
  obtain ⟨a4, ka4, rfl⟩ := qv3
  refine mj_T.eq (pc2 := 10) (st2 := [.ref a4, .ref a2]) ?_ rfl rfl rfl rfl
  refine jT.callpp rfl rfl (Nat.le_of_ble_eq_true rfl) (Nat.le_of_ble_eq_true rfl) rfl rfl (mj_Ok.up (Nat.add_le_add_left (by decide) D) (jc_166 (D := D) ty hg o ka2 ka4)) rfl rfl (fun v5 qv5 => ?_)
  obtain ⟨z6, az6, bz6, rfl⟩ := qv5
  have rz6 : -2147483648 ≤ z6 ∧ z6 ≤ 2147483647 := ⟨by omega, by omega⟩
  refine mj_T.eq (pc2 := 13) (st2 := [.int (jn z6)]) ?_ rfl rfl rfl rfl
  exact jT.retbp rfl rfl (by omega) (by omega)
-- PolyRegisters.agreements(II)I
theorem jc_127 {D n : Nat} {tm : Int} {h g : mj_H} {K L : Nat → Nat} {R : Nat → Nat → Nat} {p0 : Nat} {p1 : Int} {p2 : Int} (ty : jTY K L R) (hg : g.length ≤ n) (o : jO K L R g n tm h) (kp0 : K p0 = 19) (rp1 : -2147483648 ≤ p1 ∧ p1 ≤ 2147483647) (rp2 : -2147483648 ≤ p2 ∧ p2 ≤ 2147483647) : mj_Ok (D + 5) 127 [.ref p0, .int (jn p1), .int (jn p2)] h (jQ K L R g n tm [0] (jVi (-2147483648) 2147483647)) := by
  refine mj_Ok.of (M := mj_m127) (loc := [some (.ref p0), some (.int (jn p1)), some (.int (jn p2)), none, none, none, none, none]) rfl rfl rfl ?_
  iterate 2 refine mj_T.pl rfl rfl rfl rfl ?_
  refine jT.callp rfl rfl (Nat.le_of_ble_eq_true rfl) (Nat.le_of_ble_eq_true rfl) (jrv_of o kp0 (by decide) rfl (by decide) rfl _) rfl (mj_Ok.up (Nat.add_le_add_left (by decide) D) (jc_149 (D := D) ty hg o kp0 rp1)) rfl rfl (fun v1 qv1 => ?_)
  obtain ⟨a2, ka2, rfl⟩ := qv1
  refine mj_T.eq (pc2 := 5) (st2 := [.ref a2]) ?_ rfl rfl rfl rfl
  refine mj_T.pl (loc' := [some (.ref p0), some (.int (jn p1)), some (.int (jn p2)), some (.ref a2), none, none, none, none]) rfl rfl rfl rfl ?_
  iterate 2 refine mj_T.pl rfl rfl rfl rfl ?_
  refine jT.callp rfl rfl (Nat.le_of_ble_eq_true rfl) (Nat.le_of_ble_eq_true rfl) (jrv_of o kp0 (by decide) rfl (by decide) rfl _) rfl (mj_Ok.up (Nat.add_le_add_left (by decide) D) (jc_149 (D := D) ty hg o kp0 rp2)) rfl rfl (fun v3 qv3 => ?_)
  obtain ⟨a4, ka4, rfl⟩ := qv3
  refine mj_T.eq (pc2 := 11) (st2 := [.ref a4]) ?_ rfl rfl rfl rfl
  refine mj_T.pl (loc' := [some (.ref p0), some (.int (jn p1)), some (.int (jn p2)), some (.ref a2), some (.ref a4), none, none, none]) rfl rfl rfl rfl ?_
  iterate 2 refine mj_T.pl rfl rfl rfl rfl ?_
  refine jT.callp rfl rfl (Nat.le_of_ble_eq_true rfl) (Nat.le_of_ble_eq_true rfl) rfl rfl (mj_Ok.up (Nat.add_le_add_left (by decide) D) (jc_162 (D := D) ty hg o ka2)) rfl rfl (fun v5 qv5 => ?_)
  obtain ⟨z6, az6, bz6, rfl⟩ := qv5
  have rz6 : -2147483648 ≤ z6 ∧ z6 ≤ 2147483647 := ⟨by omega, by omega⟩
  refine mj_T.eq (pc2 := 18) (st2 := [.int (jn z6), .int (jn 0)]) ?_ rfl rfl rfl rfl
  refine mj_T.pl rfl rfl rfl rfl ?_
  refine jT.callp rfl rfl (Nat.le_of_ble_eq_true rfl) (Nat.le_of_ble_eq_true rfl) rfl rfl (mj_Ok.up (Nat.add_le_add_left (by decide) D) (jc_162 (D := D) ty hg o ka4)) rfl rfl (fun v7 qv7 => ?_)
  obtain ⟨z8, az8, bz8, rfl⟩ := qv7
  have rz8 : -2147483648 ≤ z8 ∧ z8 ≤ 2147483647 := ⟨by omega, by omega⟩
  refine mj_T.eq (pc2 := 23) (st2 := [.int (jn z8), .int (jn z6), .int (jn 0)]) ?_ rfl rfl rfl rfl
  refine jT.imax rfl rfl (Nat.le_of_ble_eq_true rfl) rz6 rz8 (fun z9 ez9 => ?_)
  have rz9 : -2147483648 ≤ z9 ∧ z9 ≤ 2147483647 := ⟨by omega, by omega⟩
  refine jT.imax rfl rfl (Nat.le_of_ble_eq_true rfl) ⟨by decide, by decide⟩ rz9 (fun z10 ez10 => ?_)
  have rz10 : -2147483648 ≤ z10 ∧ z10 ≤ 2147483647 := ⟨by omega, by omega⟩
  refine mj_T.pl (loc' := [some (.ref p0), some (.int (jn p1)), some (.int (jn p2)), some (.ref a2), some (.ref a4), some (.int (jn z10)), none, none]) rfl rfl rfl rfl ?_
  iterate 4 refine mj_T.pl rfl rfl rfl rfl ?_
  refine jT.getR 19 102 2 ty o rfl kp0 (by decide) rfl rfl rfl (fun k11 => ?_)
  refine jT.call rfl rfl (Nat.le_of_ble_eq_true rfl) (Nat.le_of_ble_eq_true rfl) rfl rfl (mj_Ok.up (Nat.add_le_add_left (by decide) D) (jc_167 (D := D) ty hg o ka2 ka4 ⟨by decide, by decide⟩ k11)) rfl rfl (fun v12 h13 qv12 oh13 => ?_)
  obtain ⟨z14, az14, bz14, rfl⟩ := qv12
  have rz14 : -2147483648 ≤ z14 ∧ z14 ≤ 2147483647 := ⟨by omega, by omega⟩
  refine mj_T.eq (pc2 := 42) (st2 := [.int (jn z14)]) ?_ rfl rfl rfl rfl
  iterate 2 refine mj_T.pl rfl rfl rfl rfl ?_
  refine mj_T.pl (loc' := [some (.ref p0), some (.int (jn p1)), some (.int (jn p2)), some (.ref a2), some (.ref a4), some (.int (jn z10)), some (.int (jn 0)), none]) rfl rfl rfl rfl ?_
  refine mj_T.pl rfl rfl rfl rfl ?_
  refine mj_T.pl (loc' := [some (.ref p0), some (.int (jn p1)), some (.int (jn p2)), some (.ref a2), some (.ref a4), some (.int (jn z10)), some (.int (jn 0)), some (.int (jn 0))]) rfl rfl rfl rfl ?_
  have t49_18 : ∀ (k19 : Nat) (x15 : Int) (x16 : Int) (h17 : mj_H), (-2147483648 ≤ x15 ∧ x15 ≤ 2147483647) → (-2147483648 ≤ x16 ∧ x16 ≤ 2147483647) → (jO K L R g n tm h17) → (0 ≤ x16) → (2147483647 - x16 : Int).toNat = k19 → mj_T (D + 4) mj_m127 49 [some (.ref p0), some (.int (jn p1)), some (.int (jn p2)), some (.ref a2), some (.ref a4), some (.int (jn z10)), some (.int (jn x15)), some (.int (jn x16))] [] h17 (jQ K L R g n tm [0] (jVi (-2147483648) 2147483647)) := by
    refine jInd (fun k19 ih20 => ?_)
    intro x15 x16 h17 rx15 rx16 oh17 ix16 hm21
    refine mj_T.pl rfl rfl rfl rfl ?_
    refine mj_T.pl rfl rfl rfl rfl ?_
    refine jT.icmp rfl rx16 rz10 (fun c53 => ?_) (fun c53 => ?_)
    · have c53 := of_decide_eq_true c53
      refine mj_T.pl rfl rfl rfl rfl ?_
      exact jT.ret oh17 rfl rfl rfl ⟨x15, by omega, by omega, rfl⟩
    · have c53 := of_decide_eq_false c53
      refine mj_T.pl rfl rfl rfl rfl ?_
      refine jT.getR 19 111 11 ty oh17 rfl kp0 (by decide) rfl rfl rfl (fun k22 => ?_)
      refine mj_T.pl rfl rfl rfl rfl ?_
      refine jT.getR 19 102 2 ty oh17 rfl kp0 (by decide) rfl rfl rfl (fun k23 => ?_)
      iterate 2 refine mj_T.pl rfl rfl rfl rfl ?_
      refine jT.call rfl rfl (Nat.le_of_ble_eq_true rfl) (Nat.le_of_ble_eq_true rfl) (jrv_of oh17 k22 (by decide) rfl (by decide) rfl _) rfl (mj_Ok.up (Nat.add_le_add_left (by decide) D) (jc_27 (D := D) ty hg oh17 k22 k23 rx16 ⟨by decide, by decide⟩)) rfl rfl (fun v24 h25 qv24 oh25 => ?_)
      obtain ⟨z26, az26, bz26, rfl⟩ := qv24
      have rz26 : -2147483648 ≤ z26 ∧ z26 ≤ 2147483647 := ⟨by omega, by omega⟩
      refine mj_T.eq (pc2 := 70) (st2 := [.int (jn z26)]) ?_ rfl rfl rfl rfl
      refine jT.if0 rfl rz26 (fun c70 => ?_) (fun c70 => ?_)
      · have c70 := jne1 c70
        refine jT.iinc rfl rfl (fun z27 rz27 ez27 => ?_)
        replace ez27 := ez27 ⟨by omega, by omega⟩
        refine mj_T.eq (loc2 := [some (.ref p0), some (.int (jn p1)), some (.int (jn p2)), some (.ref a2), some (.ref a4), some (.int (jn z10)), some (.int (jn x15)), some (.int (jn z27))]) ?_ rfl rfl rfl rfl
        refine mj_T.pl rfl rfl rfl rfl ?_
        exact ih20 ((2147483647 - z27 : Int).toNat) (by omega) x15 z27 h25 rx15 rz27 oh25 (by omega) rfl
      · have c70 := jne2 c70
        refine jT.iinc rfl rfl (fun z28 rz28 ez28 => ?_)
        clear ez28
        refine mj_T.eq (loc2 := [some (.ref p0), some (.int (jn p1)), some (.int (jn p2)), some (.ref a2), some (.ref a4), some (.int (jn z10)), some (.int (jn z28)), some (.int (jn x16))]) ?_ rfl rfl rfl rfl
        refine jT.iinc rfl rfl (fun z29 rz29 ez29 => ?_)
        replace ez29 := ez29 ⟨by omega, by omega⟩
        refine mj_T.eq (loc2 := [some (.ref p0), some (.int (jn p1)), some (.int (jn p2)), some (.ref a2), some (.ref a4), some (.int (jn z10)), some (.int (jn z28)), some (.int (jn z29))]) ?_ rfl rfl rfl rfl
        refine mj_T.pl rfl rfl rfl rfl ?_
        exact ih20 ((2147483647 - z29 : Int).toNat) (by omega) z28 z29 h25 rz28 rz29 oh25 (by omega) rfl
  exact t49_18 _ 0 0 h13 ⟨by decide, by decide⟩ ⟨by decide, by decide⟩ oh13 (by omega) rfl
-- PolyRegisters.digits(Z)I
theorem jc_128 {D n : Nat} {tm : Int} {h g : mj_H} {K L : Nat → Nat} {R : Nat → Nat → Nat} {p0 : Nat} {p1 : Int} (ty : jTY K L R) (hg : g.length ≤ n) (o : jO K L R g n tm h) (kp0 : K p0 = 19) (ap1 : 0 ≤ p1 ∧ p1 ≤ 1) : mj_Ok (D + 3) 128 [.ref p0, .int (jn p1)] h (jQp K L R g n tm h [] (jVi (-2147483648) 2147483647)) := by
  have rp1 : -2147483648 ≤ p1 ∧ p1 ≤ 2147483647 := ⟨by omega, by omega⟩
  refine mj_Ok.of (M := mj_m128) (loc := [some (.ref p0), some (.int (jn p1))]) rfl rfl rfl ?_
  iterate 2 refine mj_T.pl rfl rfl rfl rfl ?_
  refine jT.callpp rfl rfl (Nat.le_of_ble_eq_true rfl) (Nat.le_of_ble_eq_true rfl) (jrv_of o kp0 (by decide) rfl (by decide) rfl _) rfl (mj_Ok.up (Nat.add_le_add_left (by decide) D) (jc_157 (D := D) ty hg o kp0 ⟨by omega, by omega⟩)) rfl rfl (fun v1 qv1 => ?_)
  obtain ⟨a2, ka2, rfl⟩ := qv1
  refine mj_T.eq (pc2 := 5) (st2 := [.ref a2]) ?_ rfl rfl rfl rfl
  refine jT.callpp rfl rfl (Nat.le_of_ble_eq_true rfl) (Nat.le_of_ble_eq_true rfl) (jrv_of o ka2 (by decide) rfl (by decide) rfl _) rfl (mj_Ok.up (Nat.add_le_add_left (by decide) D) (jc_98 (D := D) ty hg o ka2)) rfl rfl (fun v3 qv3 => ?_)
  obtain ⟨z4, az4, bz4, rfl⟩ := qv3
  have rz4 : -2147483648 ≤ z4 ∧ z4 ≤ 2147483647 := ⟨by omega, by omega⟩
  refine mj_T.eq (pc2 := 8) (st2 := [.int (jn z4)]) ?_ rfl rfl rfl rfl
  exact jT.retp rfl rfl rfl ⟨z4, by omega, by omega, rfl⟩
-- PolyRegisters.digit(ZI)I
theorem jc_129 {D n : Nat} {tm : Int} {h g : mj_H} {K L : Nat → Nat} {R : Nat → Nat → Nat} {p0 : Nat} {p1 : Int} {p2 : Int} (ty : jTY K L R) (hg : g.length ≤ n) (o : jO K L R g n tm h) (kp0 : K p0 = 19) (ap1 : 0 ≤ p1 ∧ p1 ≤ 1) (rp2 : -2147483648 ≤ p2 ∧ p2 ≤ 2147483647) : mj_Ok (D + 3) 129 [.ref p0, .int (jn p1), .int (jn p2)] h (jQp K L R g n tm h [0] (jVi (-2147483648) 2147483647)) := by
  have rp1 : -2147483648 ≤ p1 ∧ p1 ≤ 2147483647 := ⟨by omega, by omega⟩
  refine mj_Ok.of (M := mj_m129) (loc := [some (.ref p0), some (.int (jn p1)), some (.int (jn p2)), none]) rfl rfl rfl ?_
  iterate 2 refine mj_T.pl rfl rfl rfl rfl ?_
  refine jT.callpp rfl rfl (Nat.le_of_ble_eq_true rfl) (Nat.le_of_ble_eq_true rfl) (jrv_of o kp0 (by decide) rfl (by decide) rfl _) rfl (mj_Ok.up (Nat.add_le_add_left (by decide) D) (jc_157 (D := D) ty hg o kp0 ⟨by omega, by omega⟩)) rfl rfl (fun v1 qv1 => ?_)
  obtain ⟨a2, ka2, rfl⟩ := qv1
  refine mj_T.eq (pc2 := 5) (st2 := [.ref a2]) ?_ rfl rfl rfl rfl
  refine mj_T.pl (loc' := [some (.ref p0), some (.int (jn p1)), some (.int (jn p2)), some (.ref a2)]) rfl rfl rfl rfl ?_
  refine mj_T.pl rfl rfl rfl rfl ?_
  refine jT.if0 rfl rp2 (fun c7 => ?_) (fun c7 => ?_)
  · have c7 := of_decide_eq_true c7
    exact jT.thrp o hg rfl rfl rfl (Nat.le_of_ble_eq_true rfl) rfl
  · have c7 := of_decide_eq_false c7
    iterate 2 refine mj_T.pl rfl rfl rfl rfl ?_
    refine jT.callpp rfl rfl (Nat.le_of_ble_eq_true rfl) (Nat.le_of_ble_eq_true rfl) (jrv_of o ka2 (by decide) rfl (by decide) rfl _) rfl (mj_Ok.up (Nat.add_le_add_left (by decide) D) (jc_98 (D := D) ty hg o ka2)) rfl rfl (fun v3 qv3 => ?_)
    obtain ⟨z4, az4, bz4, rfl⟩ := qv3
    have rz4 : -2147483648 ≤ z4 ∧ z4 ≤ 2147483647 := ⟨by omega, by omega⟩
    refine mj_T.eq (pc2 := 15) (st2 := [.int (jn z4), .int (jn p2)]) ?_ rfl rfl rfl rfl
    refine jT.icmp rfl rp2 rz4 (fun c15 => ?_) (fun c15 => ?_)
    · have c15 := of_decide_eq_true c15
      iterate 2 refine mj_T.pl rfl rfl rfl rfl ?_
      refine jT.callpp rfl rfl (Nat.le_of_ble_eq_true rfl) (Nat.le_of_ble_eq_true rfl) (jrv_of o ka2 (by decide) rfl (by decide) rfl _) rfl (mj_Ok.up (Nat.add_le_add_left (by decide) D) (jc_99 (D := D) ty hg o ka2 rp2)) rfl rfl (fun v5 qv5 => ?_)
      obtain ⟨z6, az6, bz6, rfl⟩ := qv5
      have rz6 : -2147483648 ≤ z6 ∧ z6 ≤ 2147483647 := ⟨by omega, by omega⟩
      refine mj_T.eq (pc2 := 31) (st2 := [.int (jn z6)]) ?_ rfl rfl rfl rfl
      exact jT.retp rfl rfl rfl ⟨z6, by omega, by omega, rfl⟩
    · have c15 := of_decide_eq_false c15
      exact jT.thrp o hg rfl rfl rfl (Nat.le_of_ble_eq_true rfl) rfl
-- PolyRegisters.low(Z)J
theorem jc_130 {D n : Nat} {tm : Int} {h g : mj_H} {K L : Nat → Nat} {R : Nat → Nat → Nat} {p0 : Nat} {p1 : Int} (ty : jTY K L R) (hg : g.length ≤ n) (o : jO K L R g n tm h) (kp0 : K p0 = 19) (ap1 : 0 ≤ p1 ∧ p1 ≤ 1) : mj_Ok (D + 2) 130 [.ref p0, .int (jn p1)] h (jQp K L R g n tm h [] jVl) := by
  have rp1 : -2147483648 ≤ p1 ∧ p1 ≤ 2147483647 := ⟨by omega, by omega⟩
  refine mj_Ok.of (M := mj_m130) (loc := [some (.ref p0), some (.int (jn p1))]) rfl rfl rfl ?_
  iterate 2 refine mj_T.pl rfl rfl rfl rfl ?_
  refine jT.callpp rfl rfl (Nat.le_of_ble_eq_true rfl) (Nat.le_of_ble_eq_true rfl) (jrv_of o kp0 (by decide) rfl (by decide) rfl _) rfl (mj_Ok.up (Nat.add_le_add_left (by decide) D) (jc_157 (D := D) ty hg o kp0 ⟨by omega, by omega⟩)) rfl rfl (fun v1 qv1 => ?_)
  obtain ⟨a2, ka2, rfl⟩ := qv1
  refine mj_T.eq (pc2 := 5) (st2 := [.ref a2]) ?_ rfl rfl rfl rfl
  refine jT.callpp rfl rfl (Nat.le_of_ble_eq_true rfl) (Nat.le_of_ble_eq_true rfl) (jrv_of o ka2 (by decide) rfl (by decide) rfl _) rfl (mj_Ok.up (Nat.add_le_add_left (by decide) D) (jc_100 (D := D) ty hg o ka2)) rfl rfl (fun v3 qv3 => ?_)
  obtain ⟨z4, jz4, rfl⟩ := qv3
  refine mj_T.eq (pc2 := 8) (st2 := [.long (jl z4)]) ?_ rfl rfl rfl rfl
  exact jT.retp rfl rfl rfl ⟨z4, jz4, rfl⟩
