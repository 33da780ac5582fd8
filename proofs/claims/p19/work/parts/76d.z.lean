/-! The class's constructor once more, up to its first rows. -/
theorem zW_453 : zW 453 := ⟨by decide +kernel, by decide +kernel⟩
section ZKM
variable {h0 : mj_H} {D : Nat}
theorem zk_101l (hn : h0.length = 2) {Q : mj_R → Prop} (hend : ∀ h : mj_H, zDn cK cL cR 0 h0 1 563 h → h[1]? = some (.inr (9, [.ref 2, .ref 12, .int 0, .int 0, .ref 13, .ref 15, .ref 17, .ref 19, .ref 172, .ref 444, .ref 455, .ref 477, .ref 479, .ref 481, .ref 482, .int (jn (-1))])) → mj_T (D + 3) mj_m101 207 [some (.ref 1), some (.int (jn 8))] [] h Q) : ∀ (d i : Nat) {f : Nat → Value} {h : mj_H}, i + d = 8 → (∀ j, j < i → f j = .ref (cR 12 j)) → zCS cK cL cR 0 h0 1 9 [.ref 2, .ref 12, .int 0, .int 0, .ref 13, .ref 15, .ref 17, .ref 19, .ref 172, .ref 444, .ref 455, .ref 477, .ref 479, .ref 481, .ref 482, .int (jn (-1))] [(12, .inl (3, 8, f))] (483 + 10 * i) h → mj_T (D + 3) mj_m101 179 [some (.ref 1), some (.int (jn (i : Int)))] [] h Q := by
  intro d
  induction d with
  | zero =>
    intro i f h hd hf s0
    have e : i = 8 := by omega
    subst e
    refine mj_T.pl rfl rfl rfl rfl ?_
    refine mj_T.pl rfl rfl rfl rfl ?_
    refine zCS.get s0 rfl rfl ?_
    refine zCS.alen s0 rfl ?_
    refine jT.icmp (a := 8) (b := 8) rfl ⟨by omega, by omega⟩ ⟨by omega, by omega⟩ (fun _ => ?_) (fun c => ?_)
    · exact hend _ ((s0.full ckA.1 ⟨by decide, by decide⟩ rfl ckA.2 hf).done (zCf.obj 19 (by decide) ck0.2 rfl rfl (fun i cd hi => by
        match i, hi with
        | 0, hi => cases hi; exact ⟨_, rfl, jfv.ref (by decide) (ck1 0 (by decide))⟩
        | 1, hi => cases hi; exact ⟨_, rfl, jfv.ref (by decide) (ck1 1 (by decide))⟩
        | 2, hi => cases hi; exact ⟨_, rfl, jfv_mk (x := 0) rfl (by decide) (by decide)⟩
        | 3, hi => cases hi; exact ⟨_, rfl, jfv_mk (x := 0) rfl (by decide) (by decide)⟩
        | 4, hi => cases hi; exact ⟨_, rfl, jfv.ref (by decide) (ck1 4 (by decide))⟩
        | 5, hi => cases hi; exact ⟨_, rfl, jfv.ref (by decide) (ck1 5 (by decide))⟩
        | 6, hi => cases hi; exact ⟨_, rfl, jfv.ref (by decide) (ck1 6 (by decide))⟩
        | 7, hi => cases hi; exact ⟨_, rfl, jfv.ref (by decide) (ck1 7 (by decide))⟩
        | 8, hi => cases hi; exact ⟨_, rfl, jfv.ref (by decide) (ck1 8 (by decide))⟩
        | 9, hi => cases hi; exact ⟨_, rfl, jfv.ref (by decide) (ck1 9 (by decide))⟩
        | 10, hi => cases hi; exact ⟨_, rfl, jfv.ref (by decide) (ck1 10 (by decide))⟩
        | 11, hi => cases hi; exact ⟨_, rfl, jfv.ref (by decide) (ck1 11 (by decide))⟩
        | 12, hi => cases hi; exact ⟨_, rfl, jfv.ref (by decide) (ck1 12 (by decide))⟩
        | 13, hi => cases hi; exact ⟨_, rfl, jfv.ref (by decide) (ck1 13 (by decide))⟩
        | 14, hi => cases hi; exact ⟨_, rfl, jfv.ref (by decide) (ck1 14 (by decide))⟩
        | 15, hi => cases hi; exact ⟨_, rfl, jfv_mk (x := -1) rfl (by decide) (by decide)⟩
        | i + 16, hi => exact absurd hi (by simp [jfs])))) s0.2.2.2.2.1
    · exact absurd c (by decide)
  | succ d ih =>
    intro i f h hd hf s0
    obtain ⟨p1, p2⟩ := ckBs i (by omega)
    refine mj_T.pl rfl rfl rfl rfl ?_
    refine mj_T.pl rfl rfl rfl rfl ?_
    refine zCS.get s0 rfl rfl ?_
    refine zCS.alen s0 rfl ?_
    refine jT.icmp (a := (i : Int)) (b := 8) rfl ⟨by omega, by omega⟩ ⟨by omega, by omega⟩ (fun c => ?_) (fun _ => ?_)
    · have c := of_decide_eq_true c
      omega
    refine mj_T.pl rfl rfl rfl rfl ?_
    refine zCS.get s0 rfl rfl ?_
    refine mj_T.pl rfl rfl rfl rfl ?_
    refine zCS.new (n := 483 + 10 * i) s0 rfl ?_
    refine mj_T.pl rfl rfl rfl rfl ?_
    refine zCS.call (n := 483 + 10 * i) (N := 483 + 10 * (i + 1)) s0 rfl rfl (Nat.le_of_ble_eq_true rfl) (Nat.le_of_ble_eq_true rfl) rfl rfl (fun e1 e2 => ?_) rfl (fun h1 s1 => ?_)
    · have := zk_0 (D := D + 2) e2 e1 p2
      rw [show 483 + 10 * i + 1 + 9 = 483 + 10 * (i + 1) by omega] at this
      exact this
    refine zCS.aast (kv := 10) s1 rfl ⟨by omega, by omega, by omega⟩ p2.1 (by decide) rfl (by omega) (by decide) (fun h2 s2 => ?_)
    refine mj_T.iinc (a := (i : Int)) rfl rfl ?_
    refine mj_T.pl rfl rfl rfl rfl ?_
    refine ih (i + 1) (by omega) (fun j hj => ?_) s2
    unfold updV
    split
    · rename_i q
      subst q
      rw [p1]
    · exact hf j (by omega)
theorem zk_101 (ha : h0[1]? = some (.inr (9, [.null, .null, .int 0, .int 0, .null, .null, .null, .null, .null, .null, .null, .null, .null, .null, .null, .int 0]))) (hn : h0.length = 2) {Q : mj_R → Prop} (hend : ∀ h : mj_H, zDn cK cL cR 0 h0 1 563 h → h[1]? = some (.inr (9, [.ref 2, .ref 12, .int 0, .int 0, .ref 13, .ref 15, .ref 17, .ref 19, .ref 172, .ref 444, .ref 455, .ref 477, .ref 479, .ref 481, .ref 482, .int (jn (-1))])) → mj_T (D + 3) mj_m101 207 [some (.ref 1), some (.int (jn 8))] [] h Q) : mj_Ok (D + 4) 101 [.ref 1] h0 Q := by
  have s0 := zCS.beg (K := cK) (L := cL) (R := cR) (tm := 0) ha hn
  refine mj_Ok.of (M := mj_m101) (loc := [some (.ref 1), none]) rfl rfl rfl ?_
  refine mj_T.pl rfl rfl rfl rfl ?_
  refine mj_T.prim rfl rfl rfl ?_
  refine mj_T.pl rfl rfl rfl rfl ?_
  refine zCS.new (n := 2) s0 rfl ?_
  refine mj_T.pl rfl rfl rfl rfl ?_
  refine zCS.call (n := 2) (N := 12) s0 rfl rfl (Nat.le_of_ble_eq_true rfl) (Nat.le_of_ble_eq_true rfl) rfl rfl (fun e1 e2 => zk_0 (D := D + 2) e2 e1 ckB) rfl (fun h11 s11 => ?_)
  refine zCS.put s11 rfl (Nat.le_of_ble_eq_true rfl) rfl (fun h12 s12 => ?_)
  iterate 2 refine mj_T.pl rfl rfl rfl rfl ?_
  refine zCS.arrO (n := 12) 8 s12 rfl (by decide) (fun h13 s13 => ?_)
  refine zCS.put s13 rfl (Nat.le_of_ble_eq_true rfl) rfl (fun h14 s14 => ?_)
  refine mj_T.pl rfl rfl rfl rfl ?_
  refine zCS.new (n := 13) s14 rfl ?_
  iterate 2 refine mj_T.pl rfl rfl rfl rfl ?_
  refine zCS.call (n := 13) (N := 15) s14 rfl rfl (Nat.le_of_ble_eq_true rfl) (Nat.le_of_ble_eq_true rfl) rfl rfl (fun e1 e2 => zk_78 (D := D + 2) (x := 200) e2 e1 ckT1) rfl (fun h15 s15 => ?_)
  refine zCS.put s15 rfl (Nat.le_of_ble_eq_true rfl) rfl (fun h16 s16 => ?_)
  refine mj_T.pl rfl rfl rfl rfl ?_
  refine zCS.new (n := 15) s16 rfl ?_
  iterate 2 refine mj_T.pl rfl rfl rfl rfl ?_
  refine zCS.call (n := 15) (N := 17) s16 rfl rfl (Nat.le_of_ble_eq_true rfl) (Nat.le_of_ble_eq_true rfl) rfl rfl (fun e1 e2 => zk_78 (D := D + 2) (x := 340) e2 e1 ckT2) rfl (fun h17 s17 => ?_)
  refine zCS.put s17 rfl (Nat.le_of_ble_eq_true rfl) rfl (fun h18 s18 => ?_)
  refine mj_T.pl rfl rfl rfl rfl ?_
  refine zCS.new (n := 17) s18 rfl ?_
  iterate 2 refine mj_T.pl rfl rfl rfl rfl ?_
  refine zCS.call (n := 17) (N := 19) s18 rfl rfl (Nat.le_of_ble_eq_true rfl) (Nat.le_of_ble_eq_true rfl) rfl rfl (fun e1 e2 => zk_78 (D := D + 2) (x := 340) e2 e1 ckT3) rfl (fun h19 s19 => ?_)
  refine zCS.put s19 rfl (Nat.le_of_ble_eq_true rfl) rfl (fun h20 s20 => ?_)
  refine mj_T.pl rfl rfl rfl rfl ?_
  refine zCS.new (n := 19) s20 rfl ?_
  refine mj_T.pl rfl rfl rfl rfl ?_
  refine zCS.call (n := 19) (N := 172) s20 rfl rfl (Nat.le_of_ble_eq_true rfl) (Nat.le_of_ble_eq_true rfl) rfl rfl (fun e1 e2 => zk_10 (D := D) e2 e1 ckK) rfl (fun h21 s21 => ?_)
  refine zCS.put s21 rfl (Nat.le_of_ble_eq_true rfl) rfl (fun h22 s22 => ?_)
  refine mj_T.pl rfl rfl rfl rfl ?_
  refine zCS.new (n := 172) s22 rfl ?_
  iterate 2 refine mj_T.pl rfl rfl rfl rfl ?_
  refine zCS.getA s22 rfl rfl ?_
  refine zCS.call (n := 172) (N := 444) s22 rfl rfl (Nat.le_of_ble_eq_true rfl) (Nat.le_of_ble_eq_true rfl) rfl rfl (fun e1 e2 => zk_67 (D := D) e2 e1 ckS) rfl (fun h23 s23 => ?_)
  refine zCS.put s23 rfl (Nat.le_of_ble_eq_true rfl) rfl (fun h24 s24 => ?_)
  refine mj_T.pl rfl rfl rfl rfl ?_
  refine zCS.new (n := 444) s24 rfl ?_
  iterate 2 refine mj_T.pl rfl rfl rfl rfl ?_
  refine zCS.getA s24 rfl rfl ?_
  refine mj_T.pl rfl rfl rfl rfl ?_
  refine zCS.getA s24 rfl rfl ?_
  refine zCS.call (n := 444) (N := 455) s24 rfl rfl (Nat.le_of_ble_eq_true rfl) (Nat.le_of_ble_eq_true rfl) rfl rfl (fun e1 e2 => zk_58 (D := D + 1) e2 e1 ckR zW_453) rfl (fun h25 s25 => ?_)
  refine zCS.put s25 rfl (Nat.le_of_ble_eq_true rfl) rfl (fun h26 s26 => ?_)
  refine mj_T.pl rfl rfl rfl rfl ?_
  refine zCS.new (n := 455) s26 rfl ?_
  iterate 2 refine mj_T.pl rfl rfl rfl rfl ?_
  refine zCS.getA s26 rfl rfl ?_
  refine mj_T.pl rfl rfl rfl rfl ?_
  refine zCS.getA s26 rfl rfl ?_
  refine zCS.call (n := 455) (N := 477) s26 rfl rfl (Nat.le_of_ble_eq_true rfl) (Nat.le_of_ble_eq_true rfl) rfl rfl (fun e1 e2 => zk_45 (D := D + 2) e2 e1 ckE) rfl (fun h27 s27 => ?_)
  refine zCS.put s27 rfl (Nat.le_of_ble_eq_true rfl) rfl (fun h28 s28 => ?_)
  refine mj_T.pl rfl rfl rfl rfl ?_
  refine zCS.new (n := 477) s28 rfl ?_
  iterate 2 refine mj_T.pl rfl rfl rfl rfl ?_
  refine zCS.call (n := 477) (N := 479) s28 rfl rfl (Nat.le_of_ble_eq_true rfl) (Nat.le_of_ble_eq_true rfl) rfl rfl (fun e1 e2 => zk_85 (D := D + 2) (x := 10) e2 e1 ckW1) rfl (fun h29 s29 => ?_)
  refine zCS.put s29 rfl (Nat.le_of_ble_eq_true rfl) rfl (fun h30 s30 => ?_)
  refine mj_T.pl rfl rfl rfl rfl ?_
  refine zCS.new (n := 479) s30 rfl ?_
  iterate 2 refine mj_T.pl rfl rfl rfl rfl ?_
  refine zCS.call (n := 479) (N := 481) s30 rfl rfl (Nat.le_of_ble_eq_true rfl) (Nat.le_of_ble_eq_true rfl) rfl rfl (fun e1 e2 => zk_85 (D := D + 2) (x := 10) e2 e1 ckW2) rfl (fun h31 s31 => ?_)
  refine zCS.put s31 rfl (Nat.le_of_ble_eq_true rfl) rfl (fun h32 s32 => ?_)
  iterate 2 refine mj_T.pl rfl rfl rfl rfl ?_
  refine zCS.arr (n := 481) (x := 13) 2 s32 rfl (Or.inr (Or.inl rfl)) rfl ⟨by decide, by decide⟩ ckL1.1 (by rw [ckL1.2]; rfl) (fun h33 s33 => ?_)
  refine zCS.put s33 rfl (Nat.le_of_ble_eq_true rfl) rfl (fun h34 s34 => ?_)
  iterate 2 refine mj_T.pl rfl rfl rfl rfl ?_
  refine zCS.arr (n := 482) (x := 13) 2 s34 rfl (Or.inr (Or.inl rfl)) rfl ⟨by decide, by decide⟩ ckL2.1 (by rw [ckL2.2]; rfl) (fun h35 s35 => ?_)
  refine zCS.put s35 rfl (Nat.le_of_ble_eq_true rfl) rfl (fun h36 s36 => ?_)
  iterate 2 refine mj_T.pl rfl rfl rfl rfl ?_
  refine zCS.put s36 rfl (Nat.le_of_ble_eq_true rfl) rfl (fun h37 s37 => ?_)
  iterate 2 refine mj_T.pl rfl rfl rfl rfl ?_
  exact zk_101l hn hend 8 0 rfl (fun j hj => absurd hj (by omega)) s37
end ZKM
/-! The class behind its constructor, exactly. -/
theorem jnl_big (k : Nat) : ∃ B : Int, k < jnl B.natAbs := ⟨((jB ^ k : Nat) : Int), by
  rw [Int.natAbs_natCast]
  exact jnl_lt.mpr (by rw [Nat.div_self (jB_pow _)]; decide)⟩
/-- the first rows are written -/
def xR (X : Nat → Nat → Int) : Nat → Nat → Int := xup (xup (xup (xup (xup (xup (xup X 4 2 1) 4 0 (-2)) 5 3 1) 5 1 (-1)) 6 2 6) 6 1 (-5)) 6 0 1
theorem xR_off {X : Nat → Nat → Int} {a j : Nat} (h4 : a ≠ 4) (h5 : a ≠ 5) (h6 : a ≠ 6) : xR X a j = X a j := by
  unfold xR
  rw [xup_ne _ _ (Or.inl h6), xup_ne _ _ (Or.inl h6), xup_ne _ _ (Or.inl h6), xup_ne _ _ (Or.inl h5), xup_ne _ _ (Or.inl h5), xup_ne _ _ (Or.inl h4), xup_ne _ _ (Or.inl h4)]
theorem xR_0 : ((List.range 6).all fun r => (List.range 13).all fun j => decide (xR (fun _ _ => 0) (4 + r) j = riN (r * 13 + j))) = true := by decide +kernel
theorem xR_row {X : Nat → Nat → Int} {r j : Nat} (hr : r < 6) (hj : j < 13) (h0 : X (4 + r) j = 0) : xR X (4 + r) j = riN (r * 13 + j) := by
  have h1 := of_decide_eq_true (List.all_eq_true.mp (List.all_eq_true.mp xR_0 r (List.mem_range.mpr hr)) j (List.mem_range.mpr hj))
  rw [← h1]
  simp only [xR, xup, h0]
theorem ck_b2 : cK 2 = 10 ∧ cK 3 = 6 ∧ cK 4 = 2 ∧ cK 5 = 2 ∧ cK 6 = 2 ∧ cL 3 = 6 ∧ cK 479 = 18 ∧ cK 15 = 17 ∧ cK 17 = 17 := by decide +kernel
theorem bydl_9 : (bydl.all fun x => decide (x ≠ 479)) = true := by decide +kernel
theorem cK_r2 : ((List.range 6).all fun r => decide (cK (4 + r) = 2)) = true := by decide +kernel
section ZKE
variable {g h h0 : mj_H} {n D : Nat} {V : Nat → Int} {X : Nat → Nat → Int}
theorem mB_first (m : jM g n V X h) : mj_Ok (D + 1) 1 [.ref 2] h (fun z => ∃ h2, jM g n V (xR X) h2 ∧ z = (.inl none, h2)) := by
  obtain ⟨k2, k3, k4, k5, k6, l3, _⟩ := ck_b2
  refine mj_Ok.of (M := mj_m1) rfl rfl rfl ?_
  refine mj_T.pl rfl rfl rfl rfl ?_
  refine mT_get m 10 k2 (by decide) rfl rfl ?_
  refine mj_T.pl rfl rfl rfl rfl ?_
  refine mj_T.eq (st2 := [.int (jn 0), .ref 3]) ?_ rfl rfl rfl rfl
  refine mT_aald m 6 k3 (by decide) rfl rfl (by decide) (by rw [l3]; decide) ?_
  iterate 2 refine mj_T.pl rfl rfl rfl rfl ?_
  refine mj_T.eq (st2 := [.long (jl 1), .int (jn 2), .ref 4]) ?_ rfl rfl rfl rfl
  refine mT_last m k4 rfl (by decide) (fun h1 m1 => ?_)
  refine mj_T.pl rfl rfl rfl rfl ?_
  refine mT_get m1 10 k2 (by decide) rfl rfl ?_
  refine mj_T.pl rfl rfl rfl rfl ?_
  refine mj_T.eq (st2 := [.int (jn 0), .ref 3]) ?_ rfl rfl rfl rfl
  refine mT_aald m1 6 k3 (by decide) rfl rfl (by decide) (by rw [l3]; decide) ?_
  iterate 2 refine mj_T.pl rfl rfl rfl rfl ?_
  refine mj_T.eq (st2 := [.long (jl (-2)), .int (jn 0), .ref 4]) ?_ rfl rfl rfl rfl
  refine mT_last m1 k4 rfl (by decide) (fun h2 m2 => ?_)
  refine mj_T.pl rfl rfl rfl rfl ?_
  refine mT_get m2 10 k2 (by decide) rfl rfl ?_
  refine mj_T.pl rfl rfl rfl rfl ?_
  refine mj_T.eq (st2 := [.int (jn 1), .ref 3]) ?_ rfl rfl rfl rfl
  refine mT_aald m2 6 k3 (by decide) rfl rfl (by decide) (by rw [l3]; decide) ?_
  iterate 2 refine mj_T.pl rfl rfl rfl rfl ?_
  refine mj_T.eq (st2 := [.long (jl 1), .int (jn 3), .ref 5]) ?_ rfl rfl rfl rfl
  refine mT_last m2 k5 rfl (by decide) (fun h3 m3 => ?_)
  refine mj_T.pl rfl rfl rfl rfl ?_
  refine mT_get m3 10 k2 (by decide) rfl rfl ?_
  refine mj_T.pl rfl rfl rfl rfl ?_
  refine mj_T.eq (st2 := [.int (jn 1), .ref 3]) ?_ rfl rfl rfl rfl
  refine mT_aald m3 6 k3 (by decide) rfl rfl (by decide) (by rw [l3]; decide) ?_
  iterate 2 refine mj_T.pl rfl rfl rfl rfl ?_
  refine mj_T.eq (st2 := [.long (jl (-1)), .int (jn 1), .ref 5]) ?_ rfl rfl rfl rfl
  refine mT_last m3 k5 rfl (by decide) (fun h4 m4 => ?_)
  refine mj_T.pl rfl rfl rfl rfl ?_
  refine mT_get m4 10 k2 (by decide) rfl rfl ?_
  refine mj_T.pl rfl rfl rfl rfl ?_
  refine mj_T.eq (st2 := [.int (jn 2), .ref 3]) ?_ rfl rfl rfl rfl
  refine mT_aald m4 6 k3 (by decide) rfl rfl (by decide) (by rw [l3]; decide) ?_
  iterate 2 refine mj_T.pl rfl rfl rfl rfl ?_
  refine mj_T.eq (st2 := [.long (jl 6), .int (jn 2), .ref 6]) ?_ rfl rfl rfl rfl
  refine mT_last m4 k6 rfl (by decide) (fun h5 m5 => ?_)
  refine mj_T.pl rfl rfl rfl rfl ?_
  refine mT_get m5 10 k2 (by decide) rfl rfl ?_
  refine mj_T.pl rfl rfl rfl rfl ?_
  refine mj_T.eq (st2 := [.int (jn 2), .ref 3]) ?_ rfl rfl rfl rfl
  refine mT_aald m5 6 k3 (by decide) rfl rfl (by decide) (by rw [l3]; decide) ?_
  iterate 2 refine mj_T.pl rfl rfl rfl rfl ?_
  refine mj_T.eq (st2 := [.long (jl (-5)), .int (jn 1), .ref 6]) ?_ rfl rfl rfl rfl
  refine mT_last m5 k6 rfl (by decide) (fun h6 m6 => ?_)
  refine mj_T.pl rfl rfl rfl rfl ?_
  refine mT_get m6 10 k2 (by decide) rfl rfl ?_
  refine mj_T.pl rfl rfl rfl rfl ?_
  refine mj_T.eq (st2 := [.int (jn 2), .ref 3]) ?_ rfl rfl rfl rfl
  refine mT_aald m6 6 k3 (by decide) rfl rfl (by decide) (by rw [l3]; decide) ?_
  iterate 2 refine mj_T.pl rfl rfl rfl rfl ?_
  refine mj_T.eq (st2 := [.long (jl 1), .int (jn 0), .ref 6]) ?_ rfl rfl rfl rfl
  refine mT_last m6 k6 rfl (by decide) (fun h7 m7 => ?_)
  exact mj_T.ret rfl rfl rfl ⟨h7, m7, rfl⟩
/-- what lies behind the constructors is of its kind, and fresh -/
theorem zk_jO (hn : h0.length = 2) (d : zDn cK cL cR 0 h0 1 563 h) : jO cK cL cR h 563 0 h ∧ ∀ (a : Nat) (e : mj_E), cK a ≠ 0 → ¬ zW a → h[a]? = some e → zZ e := by
  obtain ⟨d1, d2, d3, d4⟩ := d
  have d5 : ∀ a : Nat, cK a ≠ 0 → ∃ e, h[a]? = some e ∧ zCf cK cL cR 0 (cK a) a e := fun a ha => by
    refine d4 a ?_ (cK_in ha)
    by_cases c : a = 0
    · subst c
      exact absurd ck0.1 ha
    · omega
  refine ⟨⟨d1, ⟨by decide, by decide⟩, fun _ _ => ⟨fun _ => rfl, fun p q => absurd p (by omega)⟩, fun a ha => ?_⟩, fun a e ha hw he => ?_⟩
  · obtain ⟨e, e1, e2⟩ := d5 a ha
    exact ⟨e, e1, e2.1⟩
  · obtain ⟨e2, e3, e4⟩ := d5 a ha
    rw [he] at e3
    cases e3
    exact e4.2 hw
theorem zk_start (hn : h0.length = 2) {H : Nat → Nat → Int} (ha : h0[1]? = some (.inr (9, [.null, .null, .int 0, .int 0, .null, .null, .null, .null, .null, .null, .null, .null, .null, .null, .null, .int 0]))) : mj_Ok (D + 4) 101 [.ref 1] h0 (fun r => cC riN 0 H r.2) := by
  obtain ⟨k2, k3, k4, k5, k6, l3, k479, k15, k17⟩ := ck_b2
  refine zk_101 ha hn (fun h d hX => ?_)
  obtain ⟨o, z⟩ := zk_jO hn d
  have zw : ∀ {a : Nat}, cK a ≠ 18 → ¬ zW a := fun hk w => hk w.2
  have by1 : ∀ x, x ∈ bydl → xOf h x 1 = 0 ∧ xOf h x 2 = 0 := fun x hx => by
    have kx := bydl_k hx
    obtain ⟨fs, h1, _, _⟩ := sM_ob o (a := x) (by omega)
    rw [kx] at h1
    have q : fs[1]? = some (.int 0) ∧ fs[2]? = some (.int 0) := (z x _ (by omega) (fun w => w.1 hx) h1).1 rfl
    exact ⟨xOf_i h1 q.1, xOf_i h1 q.2⟩
  have dg : DG (xOf h) := fun p kp => by
    obtain ⟨fs, h1, _, _⟩ := sM_ob o (a := p) (by omega)
    rw [kp] at h1
    have q : fs[2]? = some (.int (jn (-1))) := (z p _ (by omega) (zw (by omega)) h1).2.1 rfl
    have e : xOf h p 2 = -1 := (xOf_i h1 q).trans (jn_toInt ⟨by decide, by decide⟩)
    rw [e]
    omega
  have rz : ∀ r j : Nat, r < 6 → xOf h (4 + r) j = 0 := fun r j hr => by
    have kr : cK (4 + r) = 2 := of_decide_eq_true (List.all_eq_true.mp cK_r2 r (List.mem_range.mpr hr))
    have h1 := sM_al o kr
    have q : ∀ i : Nat, (fun j => Value.long (jl (xOf h (4 + r) j))) i = .long 0 := z (4 + r) _ (by omega) (zw (by omega)) h1 rfl
    exact xOf_al h1 (q j)
  have x23 : xOf h 2 3 = 0 := by
    obtain ⟨fs, h1, _, _⟩ := sM_ob o (a := 2) (by omega)
    rw [k2] at h1
    have q : fs[3]? = some (.int 0) := (z 2 _ (by omega) (zw (by omega)) h1).2.2 rfl
    exact xOf_i h1 q
  have x12 : xOf h 1 2 = 0 := xOf_i (i := 2) (w := 0) hX rfl
  have x13 : xOf h 1 3 = 0 := xOf_i (i := 3) (w := 0) hX rfl
  have tx : ∀ a, cK a = 17 → 0 ≤ xOf h a 1 ∧ xOf h a 1 ≤ 340 := fun a ka => by
    obtain ⟨fs, h1, hl, hf⟩ := sM_ob o (a := a) (by omega)
    rw [ka] at h1 hl hf
    have hl : fs.length = 2 := hl
    have hv : fs[1]? = some fs[1] := List.getElem?_eq_getElem (by omega)
    obtain ⟨x, x0, x1, e⟩ := sM_n hf (i := 1) (c := 5) rfl (by decide) (by decide) (by decide) hv
    have x0 : 0 ≤ x := x0
    have x1 : x ≤ 340 := x1
    rw [e] at hv
    rw [xOf_i h1 hv, jn_toInt ⟨by omega, by omega⟩]
    exact ⟨x0, x1⟩
  obtain ⟨B, hB⟩ := jnl_big 1500
  have m := sM_jM o hB by1
  refine mj_T.pl rfl rfl rfl rfl ?_
  refine mT_get m 19 ck0.2 (by decide) rfl rfl ?_
  refine mj_T.call rfl rfl (Nat.le_of_ble_eq_true rfl) (Nat.le_of_ble_eq_true rfl) (mV_of m 10 k2 (by decide) rfl (by decide) rfl _) rfl (mj_Ok.up (by omega) (mB_first (D := 0) m)) (fun v h1 hq => ?_) (fun i h1 hq => by obtain ⟨_, _, hq⟩ := hq; cases hq)
  obtain ⟨_, m1, hq⟩ := hq
  cases hq
  refine mj_T.pl rfl rfl rfl rfl ?_
  refine mT_get m1 19 ck0.2 (by decide) rfl rfl ?_
  refine mj_T.pl rfl rfl rfl rfl ?_
  refine mj_T.eq (st2 := [.long (jl 1), .ref 479]) ?_ rfl rfl rfl rfl
  refine mj_T.call rfl rfl (Nat.le_of_ble_eq_true rfl) (Nat.le_of_ble_eq_true rfl) (mV_of m1 18 k479 (by decide) rfl (by decide) rfl _) rfl (mj_Ok.up (by omega) (mW_setLong (D := 0) m1 k479 (v := 1) ⟨by decide, by decide⟩ (Nat.le_trans (jnl_le_lt.mpr (by decide : 1 < jB ^ 1)) (mK_w (Or.inl k479)).2.2))) (fun v h2 hq => ?_) (fun i h2 hq => by obtain ⟨_, _, hq⟩ := hq; cases hq)
  obtain ⟨_, m2, hq⟩ := hq
  cases hq
  refine mj_T.ret rfl rfl rfl ?_
  have s : cS h 563 riN 0 H h2 := by
    refine ⟨_, _, m2, fun x hx => ?_, fun p kp => ?_, 0, by decide, ?_, ?_, ⟨fun r hr j hj => ?_, ?_, fun k hk => ?_⟩, fun k hk => absurd hk (Nat.not_lt_zero k), ⟨?_, ?_⟩⟩
    · have h1 : x ≠ 479 := of_decide_eq_true (List.all_eq_true.mp bydl_9 x hx)
      show (if x = 479 then (1 : Int) else if x ∈ bydl then 0 else B) = 0
      rw [if_neg h1, if_pos hx]
    · have h1 := cK_13 kp
      rw [xR_off (by omega) (by omega) (by omega)]
      exact dg p kp
    · rw [xR_off (by decide) (by decide) (by decide)]
      exact x13
    · rw [xR_off (by decide) (by decide) (by decide)]
      exact x12
    · exact xR_row hr hj (rz r j hr)
    · rw [xR_off (by decide) (by decide) (by decide)]
      exact x23
    · have h1 : riN 78 = 0 := rfl
      exfalso
      omega
    · rw [xR_off (by decide) (by decide) (by decide)]
      exact tx 15 k15
    · rw [xR_off (by decide) (by decide) (by decide)]
      exact tx 17 k17
  exact s.cC
end ZKE
/-! The reference behind its constructor, exactly. -/
theorem rx_init {D : Nat} {H : Nat → Nat → Int} : mj_Ok (D + 2) 174 [.ref 0] [.inr (10, mj_new 10)] (fun r => ∃ h', r = (.inl none, h') ∧ jIx riN 0 H 0 (-1) (fun _ => 0) h') := by
  refine mj_Ok.of (M := mj_m174) rfl rfl rfl ?_
  refine mj_T.pl rfl rfl rfl rfl ?_
  refine mj_T.prim rfl rfl rfl ?_
  iterate 31 refine mj_T.pl rfl rfl rfl rfl ?_
  iterate 4 refine mj_T.pl rfl rfl rfl rfl ?_
  refine mj_T.eq (st2 := [.long (jl (-2)), .int (jn 0), .ref 1]) ?_ rfl rfl rfl rfl
  refine mj_T.lstj (fun _ => 0) 0 (-2) rfl rfl ⟨by decide, by decide⟩ ⟨by decide, by decide⟩ ?_
  iterate 4 refine mj_T.pl rfl rfl rfl rfl ?_
  refine mj_T.eq (st2 := [.long (jl (1)), .int (jn 2), .ref 1]) ?_ rfl rfl rfl rfl
  refine mj_T.lstj (jvu (fun _ => 0) 0 (-2)) 2 (1) rfl rfl ⟨by decide, by decide⟩ ⟨by decide, by decide⟩ ?_
  iterate 4 refine mj_T.pl rfl rfl rfl rfl ?_
  refine mj_T.eq (st2 := [.long (jl (-1)), .int (jn 14), .ref 1]) ?_ rfl rfl rfl rfl
  refine mj_T.lstj (jvu (jvu (fun _ => 0) 0 (-2)) 2 (1)) 14 (-1) rfl rfl ⟨by decide, by decide⟩ ⟨by decide, by decide⟩ ?_
  iterate 4 refine mj_T.pl rfl rfl rfl rfl ?_
  refine mj_T.eq (st2 := [.long (jl (1)), .int (jn 16), .ref 1]) ?_ rfl rfl rfl rfl
  refine mj_T.lstj (jvu (jvu (jvu (fun _ => 0) 0 (-2)) 2 (1)) 14 (-1)) 16 (1) rfl rfl ⟨by decide, by decide⟩ ⟨by decide, by decide⟩ ?_
  iterate 4 refine mj_T.pl rfl rfl rfl rfl ?_
  refine mj_T.eq (st2 := [.long (jl (1)), .int (jn 26), .ref 1]) ?_ rfl rfl rfl rfl
  refine mj_T.lstj (jvu (jvu (jvu (jvu (fun _ => 0) 0 (-2)) 2 (1)) 14 (-1)) 16 (1)) 26 (1) rfl rfl ⟨by decide, by decide⟩ ⟨by decide, by decide⟩ ?_
  iterate 4 refine mj_T.pl rfl rfl rfl rfl ?_
  refine mj_T.eq (st2 := [.long (jl (-5)), .int (jn 27), .ref 1]) ?_ rfl rfl rfl rfl
  refine mj_T.lstj (jvu (jvu (jvu (jvu (jvu (fun _ => 0) 0 (-2)) 2 (1)) 14 (-1)) 16 (1)) 26 (1)) 27 (-5) rfl rfl ⟨by decide, by decide⟩ ⟨by decide, by decide⟩ ?_
  iterate 4 refine mj_T.pl rfl rfl rfl rfl ?_
  refine mj_T.eq (st2 := [.long (jl (6)), .int (jn 28), .ref 1]) ?_ rfl rfl rfl rfl
  refine mj_T.lstj (jvu (jvu (jvu (jvu (jvu (jvu (fun _ => 0) 0 (-2)) 2 (1)) 14 (-1)) 16 (1)) 26 (1)) 27 (-5)) 28 (6) rfl rfl ⟨by decide, by decide⟩ ⟨by decide, by decide⟩ ?_
  have hs : ∀ L : mj_H, L = rH riS riN (fun _ => 0) (fun _ => 0) (fun _ => 0) → rS riS riN (fun _ => 0) (fun _ => 0) (fun _ => 0) (fun _ => 0) L := fun L hL => ⟨fun _ => jn 0, fun _ => .int (jn 0), fun _ => .int (jn 0), riV, hL⟩
  refine mj_T.eq (h2 := rH riS riN (fun _ => 0) (fun _ => 0) (fun _ => 0)) ?_ rfl rfl rfl rfl
  have hs0 := hs _ rfl
  generalize rH riS riN (fun _ => 0) (fun _ => 0) (fun _ => 0) = h at hs0
  iterate 3 refine mj_T.pl rfl rfl rfl rfl ?_
  refine mj_T.call (ins := .invokevirtual 45) rfl rfl (Nat.le_of_ble_eq_true rfl) (Nat.le_of_ble_eq_true rfl) (by simp [mj_recv, rS_f hs0]) rfl (jS_sets (D := D) (rG riS riN (fun _ => 0) (fun _ => 0) (fun _ => 0)) (s := 650) (v := 0) (by decide) ⟨by decide, by decide⟩ hs0) (fun v' h1 hq' => ?_) (fun i h' hq' => by obtain ⟨_, _, h⟩ := hq'; cases h)
  obtain ⟨_, hs1, hq'⟩ := hq'
  cases hq'
  iterate 3 refine mj_T.pl rfl rfl rfl rfl ?_
  refine mj_T.call (ins := .invokevirtual 45) rfl rfl (Nat.le_of_ble_eq_true rfl) (Nat.le_of_ble_eq_true rfl) (by simp [mj_recv, jS_a (rG riS riN (fun _ => 0) (fun _ => 0) (fun _ => 0)) hs1]) rfl (jS_sets (D := D) (rG riS riN (fun _ => 0) (fun _ => 0) (fun _ => 0)) (s := 651) (v := 1) (by decide) ⟨by decide, by decide⟩ hs1) (fun v' h2 hq' => ?_) (fun i h' hq' => by obtain ⟨_, _, h⟩ := hq'; cases h)
  obtain ⟨_, hs2, hq'⟩ := hq'
  cases hq'
  exact mj_T.ret rfl rfl rfl ⟨h2, rfl, ⟨_, _, _, _, _, hs2, riK, fun _ _ => rfl, rfl, fun k hk => absurd hk (Nat.not_lt_zero k)⟩⟩
/-! The class's constructor, whole. -/
section JKM
variable {h0 : mj_H} {D : Nat}
theorem jk_101e {h : mj_H} (hn : h0.length = 2) (d : jDn cK cL cR 0 h0 1 563 h) (hx : ∃ fs : List Value, h[1]? = some (.inr (9, fs)) ∧ fs[15]? = some (.int (jn (-1)))) : mj_T (D + 3) mj_m101 207 [some (.ref 1), some (.int (jn 8))] [] h (fun r => r.1 = .inl none ∧ jO cK cL cR r.2 563 0 r.2 ∧ r.2[0]? = h0[0]? ∧ jcx (-1) 0 (fun _ => 0) r.2) := by
  obtain ⟨d1, d2, d3, d4⟩ := d
  have k1 := ck0.2
  have hg : h.length ≤ 563 := Nat.le_of_eq d1
  have o : jO cK cL cR h 563 0 h := by
    refine ⟨d1, ⟨by decide, by decide⟩, fun _ _ => ⟨fun _ => rfl, fun p q => absurd p (by omega)⟩, fun a ha => ?_⟩
    refine d4 a ?_ (cK_in ha)
    by_cases c : a = 0
    · subst c
      exact absurd ck0.1 ha
    · omega
  have X : jcx (-1) 0 (fun _ => 0) h := ⟨hx, by
    obtain ⟨f, a1, _⟩ := o.arr (a := 14) cK4.2.2.1 (by decide) (by decide)
    rw [cK4.2.2.2.2.1] at a1
    exact ⟨f, a1, fun j hj => by omega⟩⟩
  refine mj_T.to (Q := fun r => jQ cK cL cR h 563 0 [] jV0 r ∧ jcx (-1) 0 (fun _ => 0) r.2) ?_ (fun r hr => ?_)
  · refine mj_T.pl rfl rfl rfl rfl ?_
    refine jT.getR 19 110 10 cTY o rfl k1 (by decide) rfl rfl rfl (fun k2 => ?_)
    refine mj_T.call rfl rfl (Nat.le_of_ble_eq_true rfl) (Nat.le_of_ble_eq_true rfl) (jrv_of o k2 (by decide) rfl (by decide) rfl _) rfl ((jc_1 (D := D + 2) cTY hg o k2).qt rfl) (fun v h1 hq => ?_) (fun i h1 hq => absurd hq.1.1 List.not_mem_nil)
    obtain ⟨⟨hv, o1⟩, q1⟩ := hq
    cases hv
    have X1 := X.qt q1
    refine mj_T.pl rfl rfl rfl rfl ?_
    refine jT.getR 19 118 18 cTY o1 rfl k1 (by decide) rfl rfl rfl (fun k3 => ?_)
    refine jT.lc 1 rfl rfl ?_
    refine mj_T.call rfl rfl (Nat.le_of_ble_eq_true rfl) (Nat.le_of_ble_eq_true rfl) (jrv_of o1 k3 (by decide) rfl (by decide) rfl _) rfl ((jc_86 (D := D + 2) cTY hg o1 k3 (p1 := 1) ⟨by decide, by decide⟩).qt rfl) (fun v h2 hq => ?_) (fun i h2 hq => absurd hq.1.1 List.not_mem_nil)
    obtain ⟨⟨hv, o2⟩, q2⟩ := hq
    cases hv
    have X2 := X1.qt q2
    exact mj_T.ret rfl rfl rfl ⟨⟨rfl, o2⟩, X2⟩
  · obtain ⟨r1, r2⟩ := r
    obtain ⟨hr, X3⟩ := hr
    cases r1 with
    | inl v =>
      obtain ⟨hv, o3⟩ := hr
      cases hv
      refine ⟨rfl, ⟨o3.1, o3.2.1, fun _ _ => ⟨fun _ => rfl, fun p q => absurd p (by have := o3.1; show ¬ (r2.length ≤ _); omega)⟩, o3.2.2.2⟩, ?_, X3⟩
      show r2[0]? = h0[0]?
      rw [(o3.2.2.1 0 ck0.1).1 (by omega)]
      exact d3 0 (by omega) (by decide)
    | inr i => exact absurd hr.1 List.not_mem_nil
theorem jk_101l (hn : h0.length = 2) : ∀ (d i : Nat) {f : Nat → Value} {h : mj_H}, i + d = 8 → (∀ j, j < i → f j = .ref (cR 12 j)) → jCS cK cL cR 0 h0 1 9 [.ref 2, .ref 12, .int 0, .int 0, .ref 13, .ref 15, .ref 17, .ref 19, .ref 172, .ref 444, .ref 455, .ref 477, .ref 479, .ref 481, .ref 482, .int (jn (-1))] [(12, .inl (3, 8, f))] (483 + 10 * i) h → mj_T (D + 3) mj_m101 179 [some (.ref 1), some (.int (jn (i : Int)))] [] h (fun r => r.1 = .inl none ∧ jO cK cL cR r.2 563 0 r.2 ∧ r.2[0]? = h0[0]? ∧ jcx (-1) 0 (fun _ => 0) r.2) := by
  intro d
  induction d with
  | zero =>
    intro i f h hd hf s0
    have e : i = 8 := by omega
    subst e
    refine mj_T.pl rfl rfl rfl rfl ?_
    refine mj_T.pl rfl rfl rfl rfl ?_
    refine jCS.get s0 rfl rfl ?_
    refine jCS.alen s0 rfl ?_
    refine jT.icmp (a := 8) (b := 8) rfl ⟨by omega, by omega⟩ ⟨by omega, by omega⟩ (fun _ => ?_) (fun c => ?_)
    · exact jk_101e hn ((s0.full ckA.1 ⟨by decide, by decide⟩ rfl ckA.2 hf).done (jCf.obj 19 (by decide) ck0.2 rfl rfl (fun i cd hi => by
        match i, hi with
        | 0, hi => cases hi; exact ⟨_, rfl, jfv.ref (by decide) (ck1 0 (by decide))⟩
        | 1, hi => cases hi; exact ⟨_, rfl, jfv.ref (by decide) (ck1 1 (by decide))⟩
        | 2, hi => cases hi; exact ⟨_, rfl, jfv_mk (x := 0) rfl (by decide) (by decide)⟩
        | 3, hi => cases hi; exact ⟨_, rfl, jfv_mk (x := 0) rfl (by decide) (by decide)⟩
        | 4, hi => cases hi; exact ⟨_, rfl, jfv.ref (by decide) (ck1 4 (by decide))⟩
        | 5, hi => cases hi; exact ⟨_, rfl, jfv.ref (by decide) (ck1 5 (by decide))⟩
        | 6, hi => cases hi; exact ⟨_, rfl, jfv.ref (by decide) (ck1 6 (by decide))⟩
        | 7, hi => cases hi; exact ⟨_, rfl, jfv.ref (by decide) (ck1 7 (by decide))⟩
        | 8, hi => cases hi; exact ⟨_, rfl, jfv.ref (by decide) (ck1 8 (by decide))⟩
        | 9, hi => cases hi; exact ⟨_, rfl, jfv.ref (by decide) (ck1 9 (by decide))⟩
        | 10, hi => cases hi; exact ⟨_, rfl, jfv.ref (by decide) (ck1 10 (by decide))⟩
        | 11, hi => cases hi; exact ⟨_, rfl, jfv.ref (by decide) (ck1 11 (by decide))⟩
        | 12, hi => cases hi; exact ⟨_, rfl, jfv.ref (by decide) (ck1 12 (by decide))⟩
        | 13, hi => cases hi; exact ⟨_, rfl, jfv.ref (by decide) (ck1 13 (by decide))⟩
        | 14, hi => cases hi; exact ⟨_, rfl, jfv.ref (by decide) (ck1 14 (by decide))⟩
        | 15, hi => cases hi; exact ⟨_, rfl, jfv_mk (x := -1) rfl (by decide) (by decide)⟩
        | i + 16, hi => exact absurd hi (by simp [jfs])))) ⟨_, s0.2.2.2.2.1, rfl⟩
    · exact absurd c (by decide)
  | succ d ih =>
    intro i f h hd hf s0
    obtain ⟨p1, p2⟩ := ckBs i (by omega)
    refine mj_T.pl rfl rfl rfl rfl ?_
    refine mj_T.pl rfl rfl rfl rfl ?_
    refine jCS.get s0 rfl rfl ?_
    refine jCS.alen s0 rfl ?_
    refine jT.icmp (a := (i : Int)) (b := 8) rfl ⟨by omega, by omega⟩ ⟨by omega, by omega⟩ (fun c => ?_) (fun _ => ?_)
    · have c := of_decide_eq_true c
      omega
    refine mj_T.pl rfl rfl rfl rfl ?_
    refine jCS.get s0 rfl rfl ?_
    refine mj_T.pl rfl rfl rfl rfl ?_
    refine jCS.new (n := 483 + 10 * i) s0 rfl ?_
    refine mj_T.pl rfl rfl rfl rfl ?_
    refine jCS.call (n := 483 + 10 * i) (N := 483 + 10 * (i + 1)) s0 rfl rfl (Nat.le_of_ble_eq_true rfl) (Nat.le_of_ble_eq_true rfl) rfl rfl (fun e1 e2 => ?_) rfl (fun h1 s1 => ?_)
    · have := jk_0 (D := D + 2) e2 e1 p2
      rw [show 483 + 10 * i + 1 + 9 = 483 + 10 * (i + 1) by omega] at this
      exact this
    refine jCS.aast (kv := 10) s1 rfl ⟨by omega, by omega, by omega⟩ p2.1 (by decide) rfl (by omega) (by decide) (fun h2 s2 => ?_)
    refine mj_T.iinc (a := (i : Int)) rfl rfl ?_
    refine mj_T.pl rfl rfl rfl rfl ?_
    refine ih (i + 1) (by omega) (fun j hj => ?_) s2
    unfold updV
    split
    · rename_i q
      subst q
      rw [p1]
    · exact hf j (by omega)
theorem jk_101 (ha : h0[1]? = some (.inr (9, [.null, .null, .int 0, .int 0, .null, .null, .null, .null, .null, .null, .null, .null, .null, .null, .null, .int 0]))) (hn : h0.length = 2) : mj_Ok (D + 4) 101 [.ref 1] h0 (fun r => r.1 = .inl none ∧ jO cK cL cR r.2 563 0 r.2 ∧ r.2[0]? = h0[0]? ∧ jcx (-1) 0 (fun _ => 0) r.2) := by
  have s0 := jCS.beg (K := cK) (L := cL) (R := cR) (tm := 0) ha hn
  refine mj_Ok.of (M := mj_m101) (loc := [some (.ref 1), none]) rfl rfl rfl ?_
  refine mj_T.pl rfl rfl rfl rfl ?_
  refine mj_T.prim rfl rfl rfl ?_
  refine mj_T.pl rfl rfl rfl rfl ?_
  refine jCS.new (n := 2) s0 rfl ?_
  refine mj_T.pl rfl rfl rfl rfl ?_
  refine jCS.call (n := 2) (N := 12) s0 rfl rfl (Nat.le_of_ble_eq_true rfl) (Nat.le_of_ble_eq_true rfl) rfl rfl (fun e1 e2 => jk_0 (D := D + 2) e2 e1 ckB) rfl (fun h11 s11 => ?_)
  refine jCS.put s11 rfl (Nat.le_of_ble_eq_true rfl) rfl (fun h12 s12 => ?_)
  iterate 2 refine mj_T.pl rfl rfl rfl rfl ?_
  refine jCS.arrO (n := 12) 8 s12 rfl (by decide) (fun h13 s13 => ?_)
  refine jCS.put s13 rfl (Nat.le_of_ble_eq_true rfl) rfl (fun h14 s14 => ?_)
  refine mj_T.pl rfl rfl rfl rfl ?_
  refine jCS.new (n := 13) s14 rfl ?_
  iterate 2 refine mj_T.pl rfl rfl rfl rfl ?_
  refine jCS.call (n := 13) (N := 15) s14 rfl rfl (Nat.le_of_ble_eq_true rfl) (Nat.le_of_ble_eq_true rfl) rfl rfl (fun e1 e2 => jk_78 (D := D + 2) (x := 200) e2 e1 ckT1) rfl (fun h15 s15 => ?_)
  refine jCS.put s15 rfl (Nat.le_of_ble_eq_true rfl) rfl (fun h16 s16 => ?_)
  refine mj_T.pl rfl rfl rfl rfl ?_
  refine jCS.new (n := 15) s16 rfl ?_
  iterate 2 refine mj_T.pl rfl rfl rfl rfl ?_
  refine jCS.call (n := 15) (N := 17) s16 rfl rfl (Nat.le_of_ble_eq_true rfl) (Nat.le_of_ble_eq_true rfl) rfl rfl (fun e1 e2 => jk_78 (D := D + 2) (x := 340) e2 e1 ckT2) rfl (fun h17 s17 => ?_)
  refine jCS.put s17 rfl (Nat.le_of_ble_eq_true rfl) rfl (fun h18 s18 => ?_)
  refine mj_T.pl rfl rfl rfl rfl ?_
  refine jCS.new (n := 17) s18 rfl ?_
  iterate 2 refine mj_T.pl rfl rfl rfl rfl ?_
  refine jCS.call (n := 17) (N := 19) s18 rfl rfl (Nat.le_of_ble_eq_true rfl) (Nat.le_of_ble_eq_true rfl) rfl rfl (fun e1 e2 => jk_78 (D := D + 2) (x := 340) e2 e1 ckT3) rfl (fun h19 s19 => ?_)
  refine jCS.put s19 rfl (Nat.le_of_ble_eq_true rfl) rfl (fun h20 s20 => ?_)
  refine mj_T.pl rfl rfl rfl rfl ?_
  refine jCS.new (n := 19) s20 rfl ?_
  refine mj_T.pl rfl rfl rfl rfl ?_
  refine jCS.call (n := 19) (N := 172) s20 rfl rfl (Nat.le_of_ble_eq_true rfl) (Nat.le_of_ble_eq_true rfl) rfl rfl (fun e1 e2 => jk_10 (D := D) e2 e1 ckK) rfl (fun h21 s21 => ?_)
  refine jCS.put s21 rfl (Nat.le_of_ble_eq_true rfl) rfl (fun h22 s22 => ?_)
  refine mj_T.pl rfl rfl rfl rfl ?_
  refine jCS.new (n := 172) s22 rfl ?_
  iterate 2 refine mj_T.pl rfl rfl rfl rfl ?_
  refine jCS.getA s22 rfl rfl ?_
  refine jCS.call (n := 172) (N := 444) s22 rfl rfl (Nat.le_of_ble_eq_true rfl) (Nat.le_of_ble_eq_true rfl) rfl rfl (fun e1 e2 => jk_67 (D := D) e2 e1 ckS) rfl (fun h23 s23 => ?_)
  refine jCS.put s23 rfl (Nat.le_of_ble_eq_true rfl) rfl (fun h24 s24 => ?_)
  refine mj_T.pl rfl rfl rfl rfl ?_
  refine jCS.new (n := 444) s24 rfl ?_
  iterate 2 refine mj_T.pl rfl rfl rfl rfl ?_
  refine jCS.getA s24 rfl rfl ?_
  refine mj_T.pl rfl rfl rfl rfl ?_
  refine jCS.getA s24 rfl rfl ?_
  refine jCS.call (n := 444) (N := 455) s24 rfl rfl (Nat.le_of_ble_eq_true rfl) (Nat.le_of_ble_eq_true rfl) rfl rfl (fun e1 e2 => jk_58 (D := D + 1) e2 e1 ckR) rfl (fun h25 s25 => ?_)
  refine jCS.put s25 rfl (Nat.le_of_ble_eq_true rfl) rfl (fun h26 s26 => ?_)
  refine mj_T.pl rfl rfl rfl rfl ?_
  refine jCS.new (n := 455) s26 rfl ?_
  iterate 2 refine mj_T.pl rfl rfl rfl rfl ?_
  refine jCS.getA s26 rfl rfl ?_
  refine mj_T.pl rfl rfl rfl rfl ?_
  refine jCS.getA s26 rfl rfl ?_
  refine jCS.call (n := 455) (N := 477) s26 rfl rfl (Nat.le_of_ble_eq_true rfl) (Nat.le_of_ble_eq_true rfl) rfl rfl (fun e1 e2 => jk_45 (D := D + 2) e2 e1 ckE) rfl (fun h27 s27 => ?_)
  refine jCS.put s27 rfl (Nat.le_of_ble_eq_true rfl) rfl (fun h28 s28 => ?_)
  refine mj_T.pl rfl rfl rfl rfl ?_
  refine jCS.new (n := 477) s28 rfl ?_
  iterate 2 refine mj_T.pl rfl rfl rfl rfl ?_
  refine jCS.call (n := 477) (N := 479) s28 rfl rfl (Nat.le_of_ble_eq_true rfl) (Nat.le_of_ble_eq_true rfl) rfl rfl (fun e1 e2 => jk_85 (D := D + 2) (x := 10) e2 e1 ckW1) rfl (fun h29 s29 => ?_)
  refine jCS.put s29 rfl (Nat.le_of_ble_eq_true rfl) rfl (fun h30 s30 => ?_)
  refine mj_T.pl rfl rfl rfl rfl ?_
  refine jCS.new (n := 479) s30 rfl ?_
  iterate 2 refine mj_T.pl rfl rfl rfl rfl ?_
  refine jCS.call (n := 479) (N := 481) s30 rfl rfl (Nat.le_of_ble_eq_true rfl) (Nat.le_of_ble_eq_true rfl) rfl rfl (fun e1 e2 => jk_85 (D := D + 2) (x := 10) e2 e1 ckW2) rfl (fun h31 s31 => ?_)
  refine jCS.put s31 rfl (Nat.le_of_ble_eq_true rfl) rfl (fun h32 s32 => ?_)
  iterate 2 refine mj_T.pl rfl rfl rfl rfl ?_
  refine jCS.arr (n := 481) (x := 13) 2 s32 rfl (Or.inr (Or.inl rfl)) rfl ⟨by decide, by decide⟩ ckL1.1 (by rw [ckL1.2]; rfl) (fun h33 s33 => ?_)
  refine jCS.put s33 rfl (Nat.le_of_ble_eq_true rfl) rfl (fun h34 s34 => ?_)
  iterate 2 refine mj_T.pl rfl rfl rfl rfl ?_
  refine jCS.arr (n := 482) (x := 13) 2 s34 rfl (Or.inr (Or.inl rfl)) rfl ⟨by decide, by decide⟩ ckL2.1 (by rw [ckL2.2]; rfl) (fun h35 s35 => ?_)
  refine jCS.put s35 rfl (Nat.le_of_ble_eq_true rfl) rfl (fun h36 s36 => ?_)
  iterate 2 refine mj_T.pl rfl rfl rfl rfl ?_
  refine jCS.put s36 rfl (Nat.le_of_ble_eq_true rfl) rfl (fun h37 s37 => ?_)
  iterate 2 refine mj_T.pl rfl rfl rfl rfl ?_
  exact jk_101l hn 8 0 rfl (fun j hj => absurd hj (by omega)) s37
end JKM
