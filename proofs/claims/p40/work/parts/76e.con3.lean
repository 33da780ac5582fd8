/-! The class's constructor, whole. -/
section JKM
variable {h0 : mj_H} {D : Nat}
theorem jk_101e {h : mj_H} (hn : h0.length = 2) (d : jDn cK cL cR 0 h0 1 563 h) (hx : ∃ fs : List Value, h[1]? = some (.inr (9, fs)) ∧ fs[15]? = some (.int (jn (-1)))) : mj_T (D + 3) mj_m101 207 [some (.ref 1), some (.int (jn 8))] [] h (fun r => r.1 = .inl none ∧ jO cK cL cR r.2 563 0 r.2 ∧ r.2[0]? = h0[0]? ∧ jcx (-1) 0 (fun _ => 0) r.2) := by
  obtain ⟨d1, d2, d3, d4⟩ := d
  have k1 := ck0.2
  have hg : h.length ≤ 563 := Nat.le_of_eq d1
  have o : jO cK cL cR h 563 0 h := by
    refine ⟨d1, ⟨by decide, by decide⟩, fun _ _ => ⟨fun _ => rfl, fun p q => absurd p (by omega)⟩, fun a ha => ?_⟩
    refine d4 a ?_ (cK_in ha)
    by_cases c : a = 0
    · subst c
      exact absurd ck0.1 ha
    · omega
  have X : jcx (-1) 0 (fun _ => 0) h := ⟨hx, by
    obtain ⟨f, a1, _⟩ := o.arr (a := 14) cK4.2.2.1 (by decide) (by decide)
    rw [cK4.2.2.2.2.1] at a1
    exact ⟨f, a1, fun j hj => by omega⟩⟩
  refine mj_T.to (Q := fun r => jQ cK cL cR h 563 0 [] jV0 r ∧ jcx (-1) 0 (fun _ => 0) r.2) ?_ (fun r hr => ?_)
  · refine mj_T.pl rfl rfl rfl rfl ?_
    refine jT.getR 19 110 10 cTY o rfl k1 (by decide) rfl rfl rfl (fun k2 => ?_)
    refine mj_T.call rfl rfl (Nat.le_of_ble_eq_true rfl) (Nat.le_of_ble_eq_true rfl) (jrv_of o k2 (by decide) rfl (by decide) rfl _) rfl ((jc_1 (D := D + 2) cTY hg o k2).qt rfl) (fun v h1 hq => ?_) (fun i h1 hq => absurd hq.1.1 List.not_mem_nil)
    obtain ⟨⟨hv, o1⟩, q1⟩ := hq
    cases hv
    have X1 := X.qt q1
    refine mj_T.pl rfl rfl rfl rfl ?_
    refine jT.getR 19 118 18 cTY o1 rfl k1 (by decide) rfl rfl rfl (fun k3 => ?_)
    refine jT.lc 1 rfl rfl ?_
    refine mj_T.call rfl rfl (Nat.le_of_ble_eq_true rfl) (Nat.le_of_ble_eq_true rfl) (jrv_of o1 k3 (by decide) rfl (by decide) rfl _) rfl ((jc_86 (D := D + 2) cTY hg o1 k3 (p1 := 1) ⟨by decide, by decide⟩).qt rfl) (fun v h2 hq => ?_) (fun i h2 hq => absurd hq.1.1 List.not_mem_nil)
    obtain ⟨⟨hv, o2⟩, q2⟩ := hq
    cases hv
    have X2 := X1.qt q2
    exact mj_T.ret rfl rfl rfl ⟨⟨rfl, o2⟩, X2⟩
  · obtain ⟨r1, r2⟩ := r
    obtain ⟨hr, X3⟩ := hr
    cases r1 with
    | inl v =>
      obtain ⟨hv, o3⟩ := hr
      cases hv
      refine ⟨rfl, ⟨o3.1, o3.2.1, fun _ _ => ⟨fun _ => rfl, fun p q => absurd p (by have := o3.1; show ¬ (r2.length ≤ _); omega)⟩, o3.2.2.2⟩, ?_, X3⟩
      show r2[0]? = h0[0]?
      rw [(o3.2.2.1 0 ck0.1).1 (by omega)]
      exact d3 0 (by omega) (by decide)
    | inr i => exact absurd hr.1 List.not_mem_nil
theorem jk_101l (hn : h0.length = 2) : ∀ (d i : Nat) {f : Nat → Value} {h : mj_H}, i + d = 8 → (∀ j, j < i → f j = .ref (cR 12 j)) → jCS cK cL cR 0 h0 1 9 [.ref 2, .ref 12, .int 0, .int 0, .ref 13, .ref 15, .ref 17, .ref 19, .ref 172, .ref 444, .ref 455, .ref 477, .ref 479, .ref 481, .ref 482, .int (jn (-1))] [(12, .inl (3, 8, f))] (483 + 10 * i) h → mj_T (D + 3) mj_m101 179 [some (.ref 1), some (.int (jn (i : Int)))] [] h (fun r => r.1 = .inl none ∧ jO cK cL cR r.2 563 0 r.2 ∧ r.2[0]? = h0[0]? ∧ jcx (-1) 0 (fun _ => 0) r.2) := by
  intro d
  induction d with
  | zero =>
    intro i f h hd hf s0
    have e : i = 8 := by omega
    subst e
    refine mj_T.pl rfl rfl rfl rfl ?_
    refine mj_T.pl rfl rfl rfl rfl ?_
    refine jCS.get s0 rfl rfl ?_
    refine jCS.alen s0 rfl ?_
    refine jT.icmp (a := 8) (b := 8) rfl ⟨by omega, by omega⟩ ⟨by omega, by omega⟩ (fun _ => ?_) (fun c => ?_)
    · exact jk_101e hn ((s0.full ckA.1 ⟨by decide, by decide⟩ rfl ckA.2 hf).done (jCf.obj 19 (by decide) ck0.2 rfl rfl (fun i cd hi => by
        match i, hi with
        | 0, hi => cases hi; exact ⟨_, rfl, jfv.ref (by decide) (ck1 0 (by decide))⟩
        | 1, hi => cases hi; exact ⟨_, rfl, jfv.ref (by decide) (ck1 1 (by decide))⟩
        | 2, hi => cases hi; exact ⟨_, rfl, jfv_mk (x := 0) rfl (by decide) (by decide)⟩
        | 3, hi => cases hi; exact ⟨_, rfl, jfv_mk (x := 0) rfl (by decide) (by decide)⟩
        | 4, hi => cases hi; exact ⟨_, rfl, jfv.ref (by decide) (ck1 4 (by decide))⟩
        | 5, hi => cases hi; exact ⟨_, rfl, jfv.ref (by decide) (ck1 5 (by decide))⟩
        | 6, hi => cases hi; exact ⟨_, rfl, jfv.ref (by decide) (ck1 6 (by decide))⟩
        | 7, hi => cases hi; exact ⟨_, rfl, jfv.ref (by decide) (ck1 7 (by decide))⟩
        | 8, hi => cases hi; exact ⟨_, rfl, jfv.ref (by decide) (ck1 8 (by decide))⟩
        | 9, hi => cases hi; exact ⟨_, rfl, jfv.ref (by decide) (ck1 9 (by decide))⟩
        | 10, hi => cases hi; exact ⟨_, rfl, jfv.ref (by decide) (ck1 10 (by decide))⟩
        | 11, hi => cases hi; exact ⟨_, rfl, jfv.ref (by decide) (ck1 11 (by decide))⟩
        | 12, hi => cases hi; exact ⟨_, rfl, jfv.ref (by decide) (ck1 12 (by decide))⟩
        | 13, hi => cases hi; exact ⟨_, rfl, jfv.ref (by decide) (ck1 13 (by decide))⟩
        | 14, hi => cases hi; exact ⟨_, rfl, jfv.ref (by decide) (ck1 14 (by decide))⟩
        | 15, hi => cases hi; exact ⟨_, rfl, jfv_mk (x := -1) rfl (by decide) (by decide)⟩
        | i + 16, hi => exact absurd hi (by simp [jfs])))) ⟨_, s0.2.2.2.2.1, rfl⟩
    · exact absurd c (by decide)
  | succ d ih =>
    intro i f h hd hf s0
    obtain ⟨p1, p2⟩ := ckBs i (by omega)
    refine mj_T.pl rfl rfl rfl rfl ?_
    refine mj_T.pl rfl rfl rfl rfl ?_
    refine jCS.get s0 rfl rfl ?_
    refine jCS.alen s0 rfl ?_
    refine jT.icmp (a := (i : Int)) (b := 8) rfl ⟨by omega, by omega⟩ ⟨by omega, by omega⟩ (fun c => ?_) (fun _ => ?_)
    · have c := of_decide_eq_true c
      omega
    refine mj_T.pl rfl rfl rfl rfl ?_
    refine jCS.get s0 rfl rfl ?_
    refine mj_T.pl rfl rfl rfl rfl ?_
    refine jCS.new (n := 483 + 10 * i) s0 rfl ?_
    refine mj_T.pl rfl rfl rfl rfl ?_
    refine jCS.call (n := 483 + 10 * i) (N := 483 + 10 * (i + 1)) s0 rfl rfl (Nat.le_of_ble_eq_true rfl) (Nat.le_of_ble_eq_true rfl) rfl rfl (fun e1 e2 => ?_) rfl (fun h1 s1 => ?_)
    · have := jk_0 (D := D + 2) e2 e1 p2
      rw [show 483 + 10 * i + 1 + 9 = 483 + 10 * (i + 1) by omega] at this
      exact this
    refine jCS.aast (kv := 10) s1 rfl ⟨by omega, by omega, by omega⟩ p2.1 (by decide) rfl (by omega) (by decide) (fun h2 s2 => ?_)
    refine mj_T.iinc (a := (i : Int)) rfl rfl ?_
    refine mj_T.pl rfl rfl rfl rfl ?_
    refine ih (i + 1) (by omega) (fun j hj => ?_) s2
    unfold updV
    split
    · rename_i q
      subst q
      rw [p1]
    · exact hf j (by omega)
theorem jk_101 (ha : h0[1]? = some (.inr (9, [.null, .null, .int 0, .int 0, .null, .null, .null, .null, .null, .null, .null, .null, .null, .null, .null, .int 0]))) (hn : h0.length = 2) : mj_Ok (D + 4) 101 [.ref 1] h0 (fun r => r.1 = .inl none ∧ jO cK cL cR r.2 563 0 r.2 ∧ r.2[0]? = h0[0]? ∧ jcx (-1) 0 (fun _ => 0) r.2) := by
  have s0 := jCS.beg (K := cK) (L := cL) (R := cR) (tm := 0) ha hn
  refine mj_Ok.of (M := mj_m101) (loc := [some (.ref 1), none]) rfl rfl rfl ?_
  refine mj_T.pl rfl rfl rfl rfl ?_
  refine mj_T.prim rfl rfl rfl ?_
  refine mj_T.pl rfl rfl rfl rfl ?_
  refine jCS.new (n := 2) s0 rfl ?_
  refine mj_T.pl rfl rfl rfl rfl ?_
  refine jCS.call (n := 2) (N := 12) s0 rfl rfl (Nat.le_of_ble_eq_true rfl) (Nat.le_of_ble_eq_true rfl) rfl rfl (fun e1 e2 => jk_0 (D := D + 2) e2 e1 ckB) rfl (fun h11 s11 => ?_)
  refine jCS.put s11 rfl (Nat.le_of_ble_eq_true rfl) rfl (fun h12 s12 => ?_)
  iterate 2 refine mj_T.pl rfl rfl rfl rfl ?_
  refine jCS.arrO (n := 12) 8 s12 rfl (by decide) (fun h13 s13 => ?_)
  refine jCS.put s13 rfl (Nat.le_of_ble_eq_true rfl) rfl (fun h14 s14 => ?_)
  refine mj_T.pl rfl rfl rfl rfl ?_
  refine jCS.new (n := 13) s14 rfl ?_
  iterate 2 refine mj_T.pl rfl rfl rfl rfl ?_
  refine jCS.call (n := 13) (N := 15) s14 rfl rfl (Nat.le_of_ble_eq_true rfl) (Nat.le_of_ble_eq_true rfl) rfl rfl (fun e1 e2 => jk_78 (D := D + 2) (x := 200) e2 e1 ckT1) rfl (fun h15 s15 => ?_)
  refine jCS.put s15 rfl (Nat.le_of_ble_eq_true rfl) rfl (fun h16 s16 => ?_)
  refine mj_T.pl rfl rfl rfl rfl ?_
  refine jCS.new (n := 15) s16 rfl ?_
  iterate 2 refine mj_T.pl rfl rfl rfl rfl ?_
  refine jCS.call (n := 15) (N := 17) s16 rfl rfl (Nat.le_of_ble_eq_true rfl) (Nat.le_of_ble_eq_true rfl) rfl rfl (fun e1 e2 => jk_78 (D := D + 2) (x := 340) e2 e1 ckT2) rfl (fun h17 s17 => ?_)
  refine jCS.put s17 rfl (Nat.le_of_ble_eq_true rfl) rfl (fun h18 s18 => ?_)
  refine mj_T.pl rfl rfl rfl rfl ?_
  refine jCS.new (n := 17) s18 rfl ?_
  iterate 2 refine mj_T.pl rfl rfl rfl rfl ?_
  refine jCS.call (n := 17) (N := 19) s18 rfl rfl (Nat.le_of_ble_eq_true rfl) (Nat.le_of_ble_eq_true rfl) rfl rfl (fun e1 e2 => jk_78 (D := D + 2) (x := 340) e2 e1 ckT3) rfl (fun h19 s19 => ?_)
  refine jCS.put s19 rfl (Nat.le_of_ble_eq_true rfl) rfl (fun h20 s20 => ?_)
  refine mj_T.pl rfl rfl rfl rfl ?_
  refine jCS.new (n := 19) s20 rfl ?_
  refine mj_T.pl rfl rfl rfl rfl ?_
  refine jCS.call (n := 19) (N := 172) s20 rfl rfl (Nat.le_of_ble_eq_true rfl) (Nat.le_of_ble_eq_true rfl) rfl rfl (fun e1 e2 => jk_10 (D := D) e2 e1 ckK) rfl (fun h21 s21 => ?_)
  refine jCS.put s21 rfl (Nat.le_of_ble_eq_true rfl) rfl (fun h22 s22 => ?_)
  refine mj_T.pl rfl rfl rfl rfl ?_
  refine jCS.new (n := 172) s22 rfl ?_
  iterate 2 refine mj_T.pl rfl rfl rfl rfl ?_
  refine jCS.getA s22 rfl rfl ?_
  refine jCS.call (n := 172) (N := 444) s22 rfl rfl (Nat.le_of_ble_eq_true rfl) (Nat.le_of_ble_eq_true rfl) rfl rfl (fun e1 e2 => jk_67 (D := D) e2 e1 ckS) rfl (fun h23 s23 => ?_)
  refine jCS.put s23 rfl (Nat.le_of_ble_eq_true rfl) rfl (fun h24 s24 => ?_)
  refine mj_T.pl rfl rfl rfl rfl ?_
  refine jCS.new (n := 444) s24 rfl ?_
  iterate 2 refine mj_T.pl rfl rfl rfl rfl ?_
  refine jCS.getA s24 rfl rfl ?_
  refine mj_T.pl rfl rfl rfl rfl ?_
  refine jCS.getA s24 rfl rfl ?_
  refine jCS.call (n := 444) (N := 455) s24 rfl rfl (Nat.le_of_ble_eq_true rfl) (Nat.le_of_ble_eq_true rfl) rfl rfl (fun e1 e2 => jk_58 (D := D + 1) e2 e1 ckR) rfl (fun h25 s25 => ?_)
  refine jCS.put s25 rfl (Nat.le_of_ble_eq_true rfl) rfl (fun h26 s26 => ?_)
  refine mj_T.pl rfl rfl rfl rfl ?_
  refine jCS.new (n := 455) s26 rfl ?_
  iterate 2 refine mj_T.pl rfl rfl rfl rfl ?_
  refine jCS.getA s26 rfl rfl ?_
  refine mj_T.pl rfl rfl rfl rfl ?_
  refine jCS.getA s26 rfl rfl ?_
  refine jCS.call (n := 455) (N := 477) s26 rfl rfl (Nat.le_of_ble_eq_true rfl) (Nat.le_of_ble_eq_true rfl) rfl rfl (fun e1 e2 => jk_45 (D := D + 2) e2 e1 ckE) rfl (fun h27 s27 => ?_)
  refine jCS.put s27 rfl (Nat.le_of_ble_eq_true rfl) rfl (fun h28 s28 => ?_)
  refine mj_T.pl rfl rfl rfl rfl ?_
  refine jCS.new (n := 477) s28 rfl ?_
  iterate 2 refine mj_T.pl rfl rfl rfl rfl ?_
  refine jCS.call (n := 477) (N := 479) s28 rfl rfl (Nat.le_of_ble_eq_true rfl) (Nat.le_of_ble_eq_true rfl) rfl rfl (fun e1 e2 => jk_85 (D := D + 2) (x := 10) e2 e1 ckW1) rfl (fun h29 s29 => ?_)
  refine jCS.put s29 rfl (Nat.le_of_ble_eq_true rfl) rfl (fun h30 s30 => ?_)
  refine mj_T.pl rfl rfl rfl rfl ?_
  refine jCS.new (n := 479) s30 rfl ?_
  iterate 2 refine mj_T.pl rfl rfl rfl rfl ?_
  refine jCS.call (n := 479) (N := 481) s30 rfl rfl (Nat.le_of_ble_eq_true rfl) (Nat.le_of_ble_eq_true rfl) rfl rfl (fun e1 e2 => jk_85 (D := D + 2) (x := 10) e2 e1 ckW2) rfl (fun h31 s31 => ?_)
  refine jCS.put s31 rfl (Nat.le_of_ble_eq_true rfl) rfl (fun h32 s32 => ?_)
  iterate 2 refine mj_T.pl rfl rfl rfl rfl ?_
  refine jCS.arr (n := 481) (x := 13) 2 s32 rfl (Or.inr (Or.inl rfl)) rfl ⟨by decide, by decide⟩ ckL1.1 (by rw [ckL1.2]; rfl) (fun h33 s33 => ?_)
  refine jCS.put s33 rfl (Nat.le_of_ble_eq_true rfl) rfl (fun h34 s34 => ?_)
  iterate 2 refine mj_T.pl rfl rfl rfl rfl ?_
  refine jCS.arr (n := 482) (x := 13) 2 s34 rfl (Or.inr (Or.inl rfl)) rfl ⟨by decide, by decide⟩ ckL2.1 (by rw [ckL2.2]; rfl) (fun h35 s35 => ?_)
  refine jCS.put s35 rfl (Nat.le_of_ble_eq_true rfl) rfl (fun h36 s36 => ?_)
  iterate 2 refine mj_T.pl rfl rfl rfl rfl ?_
  refine jCS.put s36 rfl (Nat.le_of_ble_eq_true rfl) rfl (fun h37 s37 => ?_)
  iterate 2 refine mj_T.pl rfl rfl rfl rfl ?_
  exact jk_101l hn 8 0 rfl (fun j hj => absurd hj (by omega)) s37
end JKM
