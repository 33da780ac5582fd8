/-! The constructors once more. -/
theorem zk_85 {D n a : Nat} {h0 : mj_H} {K L : Nat → Nat} {R : Nat → Nat → Nat} {x : Nat} (ha : h0[a]? = some (.inr (8, [.null, .int 0, .int 0]))) (hn : h0.length = n) (o : okW K L R a n x) : mj_Ok (D + 1) 85 [.ref a, .int (jn (x : Int))] h0 (zDr K L R 0 h0 a (n + 1)) := by
  obtain ⟨o0, o1, o2, o3, o4, o5⟩ := o
  have s0 := zCS.beg (K := K) (L := L) (R := R) (tm := 0) ha hn
  refine mj_Ok.of (M := mj_m85) (loc := [some (.ref a), some (.int (jn (x : Int)))]) rfl rfl rfl ?_
  refine mj_T.pl rfl rfl rfl rfl ?_
  refine mj_T.prim rfl rfl rfl ?_
  iterate 2 refine mj_T.pl rfl rfl rfl rfl ?_
  refine jT.if0 rfl ⟨by omega, by omega⟩ (fun c => ?_) (fun c => ?_)
  · have c := of_decide_eq_true c
    omega
  · have c := of_decide_eq_false c
    iterate 2 refine mj_T.pl rfl rfl rfl rfl ?_
    refine zCS.arr (n := n) (x := (x : Int)) 1 s0 rfl (Or.inl rfl) rfl ⟨by omega, by omega⟩ o1 (by omega) (fun h11 s11 => ?_)
    refine zCS.put s11 rfl (Nat.le_of_ble_eq_true rfl) rfl (fun h12 s12 => ?_)
    refine mj_T.ret rfl rfl rfl ⟨rfl, s12.done (zCf.obj 18 (by decide) o0 rfl rfl (fun i cd hi => by
        match i, hi with
        | 0, hi => cases hi; exact ⟨_, rfl, jfv.ref (by decide) o2⟩
        | 1, hi => cases hi; exact ⟨_, rfl, jfv_mk (x := 0) rfl (by decide) (by decide)⟩
        | 2, hi => cases hi; exact ⟨_, rfl, jfv_mk (x := 0) rfl (by decide) (by decide)⟩
        | i + 3, hi => exact absurd hi (by simp [jfs])))⟩
theorem zk_29 {D n a : Nat} {h0 : mj_H} {K L : Nat → Nat} {R : Nat → Nat → Nat} {x : Nat} (ha : h0[a]? = some (.inr (2, [.null, .int 0, .int 0, .long 0]))) (hn : h0.length = n) (o : okD K L R a n x) : mj_Ok (D + 1) 29 [.ref a, .int (jn (x : Int))] h0 (zDr K L R 0 h0 a (n + 1)) := by
  obtain ⟨o0, o1, o2, o3, o4, o5⟩ := o
  have s0 := zCS.beg (K := K) (L := L) (R := R) (tm := 0) ha hn
  refine mj_Ok.of (M := mj_m29) (loc := [some (.ref a), some (.int (jn (x : Int)))]) rfl rfl rfl ?_
  refine mj_T.pl rfl rfl rfl rfl ?_
  refine mj_T.prim rfl rfl rfl ?_
  iterate 2 refine mj_T.pl rfl rfl rfl rfl ?_
  refine zCS.put s0 rfl (Nat.le_of_ble_eq_true rfl) rfl (fun h11 s11 => ?_)
  iterate 2 refine mj_T.pl rfl rfl rfl rfl ?_
  refine jT.if0 rfl ⟨by omega, by omega⟩ (fun c => ?_) (fun c => ?_)
  · have c := of_decide_eq_true c
    omega
  · have c := of_decide_eq_false c
    iterate 2 refine mj_T.pl rfl rfl rfl rfl ?_
    refine zCS.arr (n := n) (x := (x : Int)) 1 s11 rfl (Or.inl rfl) rfl ⟨by omega, by omega⟩ o1 (by omega) (fun h12 s12 => ?_)
    refine zCS.put s12 rfl (Nat.le_of_ble_eq_true rfl) rfl (fun h13 s13 => ?_)
    refine mj_T.ret rfl rfl rfl ⟨rfl, s13.done (zCf.obj 12 (by decide) o0 rfl rfl (fun i cd hi => by
        match i, hi with
        | 0, hi => cases hi; exact ⟨_, rfl, jfv.ref (by decide) o2⟩
        | 1, hi => cases hi; exact ⟨_, rfl, jfv_mk (x := 0) rfl (by decide) (by decide)⟩
        | 2, hi => cases hi; exact ⟨_, rfl, jfv_mk (x := 0) rfl (by decide) (by decide)⟩
        | 3, hi => cases hi; exact ⟨_, rfl, jfv.long (x := 1) ⟨by decide, by decide⟩⟩
        | i + 4, hi => exact absurd hi (by simp [jfs])))⟩
theorem zk_78 {D n a : Nat} {h0 : mj_H} {K L : Nat → Nat} {R : Nat → Nat → Nat} {x : Nat} (ha : h0[a]? = some (.inr (7, [.null, .int 0]))) (hn : h0.length = n) (o : okT K L R a n x) : mj_Ok (D + 1) 78 [.ref a, .int (jn (x : Int))] h0 (zDr K L R 0 h0 a (n + 1)) := by
  obtain ⟨o0, o1, o2, o3, o4, o5⟩ := o
  have s0 := zCS.beg (K := K) (L := L) (R := R) (tm := 0) ha hn
  refine mj_Ok.of (M := mj_m78) (loc := [some (.ref a), some (.int (jn (x : Int)))]) rfl rfl rfl ?_
  refine mj_T.pl rfl rfl rfl rfl ?_
  refine mj_T.prim rfl rfl rfl ?_
  iterate 2 refine mj_T.pl rfl rfl rfl rfl ?_
  refine jT.if0 rfl ⟨by omega, by omega⟩ (fun c => ?_) (fun c => ?_)
  · have c := of_decide_eq_true c
    omega
  · have c := of_decide_eq_false c
    iterate 2 refine mj_T.pl rfl rfl rfl rfl ?_
    refine zCS.arr (n := n) (x := (x : Int)) 3 s0 rfl (Or.inr (Or.inr rfl)) rfl ⟨by omega, by omega⟩ o1 (by omega) (fun h11 s11 => ?_)
    refine zCS.put s11 rfl (Nat.le_of_ble_eq_true rfl) rfl (fun h12 s12 => ?_)
    refine mj_T.ret rfl rfl rfl ⟨rfl, s12.done ?_⟩
    rcases o0 with o0 | o0
    · exact zCf.obj 17 (by decide) o0 rfl rfl (fun i cd hi => by
        match i, hi with
        | 0, hi => cases hi; exact ⟨_, rfl, jfv.ref (by decide) o2⟩
        | 1, hi => cases hi; exact ⟨_, rfl, jfv_mk (x := 0) rfl (by decide) (by decide)⟩
        | i + 2, hi => exact absurd hi (by simp [jfs]))
    · exact zCf.obj 27 (by decide) o0 rfl rfl (fun i cd hi => by
        match i, hi with
        | 0, hi => cases hi; exact ⟨_, rfl, jfv.ref (by decide) o2⟩
        | 1, hi => cases hi; exact ⟨_, rfl, jfv_mk (x := 0) rfl (by decide) (by decide)⟩
        | i + 2, hi => exact absurd hi (by simp [jfs]))
theorem zk_0 {D n a : Nat} {h0 : mj_H} {K L : Nat → Nat} {R : Nat → Nat → Nat} (ha : h0[a]? = some (.inr (0, [.null, .null, .null, .int 0]))) (hn : h0.length = n) (o : okB K L R a n) : mj_Ok (D + 1) 0 [.ref a] h0 (zDr K L R 0 h0 a (n + 9)) := by
  obtain ⟨o0, o1, o2, o3, ⟨o4, o5, o6⟩, o7, o8, o9, o10⟩ := o
  have s0 := zCS.beg (K := K) (L := L) (R := R) (tm := 0) ha hn
  refine mj_Ok.of (M := mj_m0) (loc := [some (.ref a)]) rfl rfl rfl ?_
  refine mj_T.pl rfl rfl rfl rfl ?_
  refine mj_T.prim rfl rfl rfl ?_
  iterate 3 refine mj_T.pl rfl rfl rfl rfl ?_
  refine zCS.rows (n := n) 6 s0 rfl (by decide) o4 o5 o6 (fun h11 s11 => ?_)
  refine zCS.put s11 rfl (Nat.le_of_ble_eq_true rfl) rfl (fun h12 s12 => ?_)
  iterate 2 refine mj_T.pl rfl rfl rfl rfl ?_
  refine zCS.arr (n := n + 7) (x := 6) 1 s12 rfl (Or.inl rfl) rfl ⟨by decide, by decide⟩ o7 (by rw [o8]; rfl) (fun h13 s13 => ?_)
  refine zCS.put s13 rfl (Nat.le_of_ble_eq_true rfl) rfl (fun h14 s14 => ?_)
  iterate 2 refine mj_T.pl rfl rfl rfl rfl ?_
  refine zCS.arr (n := n + 8) (x := 6) 1 s14 rfl (Or.inl rfl) rfl ⟨by decide, by decide⟩ o9 (by rw [o10]; rfl) (fun h15 s15 => ?_)
  refine zCS.put s15 rfl (Nat.le_of_ble_eq_true rfl) rfl (fun h16 s16 => ?_)
  exact mj_T.ret rfl rfl rfl ⟨rfl, s16.done (zCf.obj 10 (by decide) o0 rfl rfl (fun i cd hi => by
        match i, hi with
        | 0, hi => cases hi; exact ⟨_, rfl, jfv.ref (by decide) o1⟩
        | 1, hi => cases hi; exact ⟨_, rfl, jfv.ref (by decide) o2⟩
        | 2, hi => cases hi; exact ⟨_, rfl, jfv.ref (by decide) o3⟩
        | 3, hi => cases hi; exact ⟨_, rfl, jfv_mk (x := 0) rfl (by decide) (by decide)⟩
        | i + 4, hi => exact absurd hi (by simp [jfs])))⟩
theorem zk_35l {D n a : Nat} {h0 : mj_H} {K L : Nat → Nat} {R : Nat → Nat → Nat} {k s t : Nat} (hn : h0.length = n) (o : okP K L R a n k s t) : ∀ (d i : Nat) {f : Nat → Value} {h : mj_H}, i + d = k → (∀ j, j < i → f j = .ref (R (n + 2) j)) → zCS K L R 0 h0 a 3 [.ref (n + 2), .ref n, .int (jn (-1))] [(n + 2, .inl (5, k, f))] (n + 3 + 2 * i) h → mj_T (D + 1) mj_m35 40 [some (.ref a), some (.int (jn (k : Int))), some (.int (jn (s : Int))), some (.int (jn (t : Int))), some (.int (jn (i : Int)))] [] h (zDr K L R 0 h0 a (n + 3 + 2 * k)) := by
  obtain ⟨o0, o1, o2, o3, o4, o5, o6, o7, o8, o9, o10⟩ := o
  intro d
  induction d with
  | zero =>
    intro i f h hd hf s0
    have e : i = k := by omega
    subst e
    iterate 2 refine mj_T.pl rfl rfl rfl rfl ?_
    refine zCS.get s0 rfl rfl ?_
    refine zCS.alen s0 rfl ?_
    refine jT.icmp rfl ⟨by omega, by omega⟩ ⟨by omega, by omega⟩ (fun _ => ?_) (fun c => ?_)
    · exact mj_T.ret rfl rfl rfl ⟨rfl, (s0.full o4 ⟨by decide, by decide⟩ rfl o5 hf).done (zCf.obj 13 (by decide) o0 rfl rfl (fun i cd hi => by
            match i, hi with
            | 0, hi => cases hi; exact ⟨_, rfl, jfv.ref (by decide) o1⟩
            | 1, hi => cases hi; exact ⟨_, rfl, jfv.ref (by decide) o2⟩
            | 2, hi => cases hi; exact ⟨_, rfl, jfv_mk (x := -1) rfl (by decide) (by decide)⟩
            | i + 3, hi => exact absurd hi (by simp [jfs])))⟩
    · have c := of_decide_eq_false c
      omega
  | succ d ih =>
    intro i f h hd hf s0
    obtain ⟨p1, p2, p3⟩ := o10 i (by omega)
    iterate 2 refine mj_T.pl rfl rfl rfl rfl ?_
    refine zCS.get s0 rfl rfl ?_
    refine zCS.alen s0 rfl ?_
    refine jT.icmp rfl ⟨by omega, by omega⟩ ⟨by omega, by omega⟩ (fun c => ?_) (fun _ => ?_)
    · have c := of_decide_eq_true c
      omega
    refine mj_T.pl rfl rfl rfl rfl ?_
    refine zCS.get s0 rfl rfl ?_
    refine mj_T.pl rfl rfl rfl rfl ?_
    refine zCS.new (n := n + 3 + 2 * i) s0 rfl ?_
    iterate 4 refine mj_T.pl rfl rfl rfl rfl ?_
    refine mj_T.imul rfl ?_
    refine mj_T.isub rfl ?_
    refine mj_T.eq (st2 := [.int (jn ((((s : Int) - (t : Int) * (i : Int)).toNat : Nat) : Int)), .ref (n + 3 + 2 * i), .ref (n + 3 + 2 * i), .int (jn (i : Int)), .ref (n + 2)]) ?_ rfl rfl (by rw [Int.toNat_of_nonneg (by omega)]) rfl
    refine zCS.call (n := n + 3 + 2 * i) (N := n + 3 + 2 * i + 1 + 1) s0 rfl rfl (Nat.le_of_ble_eq_true rfl) (Nat.le_of_ble_eq_true rfl) rfl rfl (fun e1 e2 => zk_85 (D := D) e2 e1 p3) rfl (fun h1 s1 => ?_)
    refine zCS.aast (kv := 18) s1 rfl ⟨by omega, by omega, by omega⟩ p3.1 (by decide) rfl (by omega) (by omega) (fun h2 s2 => ?_)
    refine mj_T.iinc (a := (i : Int)) rfl rfl ?_
    refine mj_T.pl rfl rfl rfl rfl ?_
    refine ih (i + 1) (by omega) (fun j hj => ?_) s2
    unfold updV
    split
    · rename_i q
      subst q
      rw [p1]
    · exact hf j (by omega)
theorem zk_35 {D n a : Nat} {h0 : mj_H} {K L : Nat → Nat} {R : Nat → Nat → Nat} {k s t : Nat} (ha : h0[a]? = some (.inr (3, [.null, .null, .int 0]))) (hn : h0.length = n) (o : okP K L R a n k s t) : mj_Ok (D + 2) 35 [.ref a, .int (jn (k : Int)), .int (jn (s : Int)), .int (jn (t : Int))] h0 (zDr K L R 0 h0 a (n + 3 + 2 * k)) := by
  have ok := o
  obtain ⟨o0, o1, o2, o3, o4, o5, o6, o7, o8, o9, o10⟩ := o
  have s0 := zCS.beg (K := K) (L := L) (R := R) (tm := 0) ha hn
  refine mj_Ok.of (M := mj_m35) (loc := [some (.ref a), some (.int (jn (k : Int))), some (.int (jn (s : Int))), some (.int (jn (t : Int))), none]) rfl rfl rfl ?_
  refine mj_T.pl rfl rfl rfl rfl ?_
  refine mj_T.prim rfl rfl rfl ?_
  refine mj_T.pl rfl rfl rfl rfl ?_
  refine zCS.new (n := n) s0 rfl ?_
  iterate 2 refine mj_T.pl rfl rfl rfl rfl ?_
  refine zCS.call (n := n) (N := n + 2) s0 rfl rfl (Nat.le_of_ble_eq_true rfl) (Nat.le_of_ble_eq_true rfl) rfl rfl (fun e1 e2 => zk_85 (D := D) (x := 1) e2 e1 o3) rfl (fun h11 s11 => ?_)
  refine zCS.put s11 rfl (Nat.le_of_ble_eq_true rfl) rfl (fun h12 s12 => ?_)
  iterate 2 refine mj_T.pl rfl rfl rfl rfl ?_
  refine zCS.put s12 rfl (Nat.le_of_ble_eq_true rfl) rfl (fun h13 s13 => ?_)
  iterate 2 refine mj_T.pl rfl rfl rfl rfl ?_
  refine jT.if0 rfl ⟨by omega, by omega⟩ (fun c => ?_) (fun c => ?_)
  · have c := of_decide_eq_true c
    omega
  · have c := of_decide_eq_false c
    iterate 2 refine mj_T.pl rfl rfl rfl rfl ?_
    refine zCS.arrO (n := n + 2) k s13 rfl (by omega) (fun h14 s14 => ?_)
    refine zCS.put s14 rfl (Nat.le_of_ble_eq_true rfl) rfl (fun h15 s15 => ?_)
    iterate 2 refine mj_T.pl rfl rfl rfl rfl ?_
    exact zk_35l hn ok k 0 (by omega) (fun j hj => absurd hj (by omega)) s15
theorem zk_10 {D n a : Nat} {h0 : mj_H} {K L : Nat → Nat} {R : Nat → Nat → Nat} (ha : h0[a]? = some (.inr (1, [.null, .null, .null, .null, .null, .null, .null, .null]))) (hn : h0.length = n) (o : okK K L R a n) : mj_Ok (D + 3) 10 [.ref a] h0 (zDr K L R 0 h0 a (n + 152)) := by
  obtain ⟨o0, ⟨q0, q1, q2, q3, q4, q5, q6, q7⟩, p0, p1, p2, p3, w4, w5, w6, w7⟩ := o
  have s0 := zCS.beg (K := K) (L := L) (R := R) (tm := 0) ha hn
  refine mj_Ok.of (M := mj_m10) (loc := [some (.ref a)]) rfl rfl rfl ?_
  refine mj_T.pl rfl rfl rfl rfl ?_
  refine mj_T.prim rfl rfl rfl ?_
  refine mj_T.pl rfl rfl rfl rfl ?_
  refine zCS.new (n := n) s0 rfl ?_
  iterate 4 refine mj_T.pl rfl rfl rfl rfl ?_
  refine zCS.call (n := n) (N := n + 30) s0 rfl rfl (Nat.le_of_ble_eq_true rfl) (Nat.le_of_ble_eq_true rfl) rfl rfl (fun e1 e2 => zk_35 (D := D) (k := 13) (s := 30) (t := 0) e2 e1 p0) rfl (fun h11 s11 => ?_)
  refine zCS.put s11 rfl (Nat.le_of_ble_eq_true rfl) rfl (fun h12 s12 => ?_)
  refine mj_T.pl rfl rfl rfl rfl ?_
  refine zCS.new (n := n + 30) s12 rfl ?_
  iterate 4 refine mj_T.pl rfl rfl rfl rfl ?_
  refine zCS.call (n := n + 30) (N := n + 60) s12 rfl rfl (Nat.le_of_ble_eq_true rfl) (Nat.le_of_ble_eq_true rfl) rfl rfl (fun e1 e2 => zk_35 (D := D) (k := 13) (s := 30) (t := 0) e2 e1 p1) rfl (fun h13 s13 => ?_)
  refine zCS.put s13 rfl (Nat.le_of_ble_eq_true rfl) rfl (fun h14 s14 => ?_)
  refine mj_T.pl rfl rfl rfl rfl ?_
  refine zCS.new (n := n + 60) s14 rfl ?_
  iterate 4 refine mj_T.pl rfl rfl rfl rfl ?_
  refine zCS.call (n := n + 60) (N := n + 90) s14 rfl rfl (Nat.le_of_ble_eq_true rfl) (Nat.le_of_ble_eq_true rfl) rfl rfl (fun e1 e2 => zk_35 (D := D) (k := 13) (s := 236) (t := 0) e2 e1 p2) rfl (fun h15 s15 => ?_)
  refine zCS.put s15 rfl (Nat.le_of_ble_eq_true rfl) rfl (fun h16 s16 => ?_)
  refine mj_T.pl rfl rfl rfl rfl ?_
  refine zCS.new (n := n + 90) s16 rfl ?_
  iterate 4 refine mj_T.pl rfl rfl rfl rfl ?_
  refine zCS.call (n := n + 90) (N := n + 144) s16 rfl rfl (Nat.le_of_ble_eq_true rfl) (Nat.le_of_ble_eq_true rfl) rfl rfl (fun e1 e2 => zk_35 (D := D) (k := 25) (s := 6) (t := 0) e2 e1 p3) rfl (fun h17 s17 => ?_)
  refine zCS.put s17 rfl (Nat.le_of_ble_eq_true rfl) rfl (fun h18 s18 => ?_)
  refine mj_T.pl rfl rfl rfl rfl ?_
  refine zCS.new (n := n + 144) s18 rfl ?_
  iterate 2 refine mj_T.pl rfl rfl rfl rfl ?_
  refine zCS.call (n := n + 144) (N := n + 146) s18 rfl rfl (Nat.le_of_ble_eq_true rfl) (Nat.le_of_ble_eq_true rfl) rfl rfl (fun e1 e2 => zk_85 (D := D + 1) (x := 240) e2 e1 w4) rfl (fun h19 s19 => ?_)
  refine zCS.put s19 rfl (Nat.le_of_ble_eq_true rfl) rfl (fun h20 s20 => ?_)
  refine mj_T.pl rfl rfl rfl rfl ?_
  refine zCS.new (n := n + 146) s20 rfl ?_
  iterate 2 refine mj_T.pl rfl rfl rfl rfl ?_
  refine zCS.call (n := n + 146) (N := n + 148) s20 rfl rfl (Nat.le_of_ble_eq_true rfl) (Nat.le_of_ble_eq_true rfl) rfl rfl (fun e1 e2 => zk_85 (D := D + 1) (x := 240) e2 e1 w5) rfl (fun h21 s21 => ?_)
  refine zCS.put s21 rfl (Nat.le_of_ble_eq_true rfl) rfl (fun h22 s22 => ?_)
  refine mj_T.pl rfl rfl rfl rfl ?_
  refine zCS.new (n := n + 148) s22 rfl ?_
  iterate 2 refine mj_T.pl rfl rfl rfl rfl ?_
  refine zCS.call (n := n + 148) (N := n + 150) s22 rfl rfl (Nat.le_of_ble_eq_true rfl) (Nat.le_of_ble_eq_true rfl) rfl rfl (fun e1 e2 => zk_85 (D := D + 1) (x := 40) e2 e1 w6) rfl (fun h23 s23 => ?_)
  refine zCS.put s23 rfl (Nat.le_of_ble_eq_true rfl) rfl (fun h24 s24 => ?_)
  refine mj_T.pl rfl rfl rfl rfl ?_
  refine zCS.new (n := n + 150) s24 rfl ?_
  iterate 2 refine mj_T.pl rfl rfl rfl rfl ?_
  refine zCS.call (n := n + 150) (N := n + 152) s24 rfl rfl (Nat.le_of_ble_eq_true rfl) (Nat.le_of_ble_eq_true rfl) rfl rfl (fun e1 e2 => zk_29 (D := D + 1) (x := 60) e2 e1 w7) rfl (fun h25 s25 => ?_)
  refine zCS.put s25 rfl (Nat.le_of_ble_eq_true rfl) rfl (fun h26 s26 => ?_)
  exact mj_T.ret rfl rfl rfl ⟨rfl, s26.done (zCf.obj 11 (by decide) o0 rfl rfl (fun i cd hi => by
        match i, hi with
        | 0, hi => cases hi; exact ⟨_, rfl, jfv.ref (by decide) q0⟩
        | 1, hi => cases hi; exact ⟨_, rfl, jfv.ref (by decide) q1⟩
        | 2, hi => cases hi; exact ⟨_, rfl, jfv.ref (by decide) q2⟩
        | 3, hi => cases hi; exact ⟨_, rfl, jfv.ref (by decide) q3⟩
        | 4, hi => cases hi; exact ⟨_, rfl, jfv.ref (by decide) q4⟩
        | 5, hi => cases hi; exact ⟨_, rfl, jfv.ref (by decide) q5⟩
        | 6, hi => cases hi; exact ⟨_, rfl, jfv.ref (by decide) q6⟩
        | 7, hi => cases hi; exact ⟨_, rfl, jfv.ref (by decide) q7⟩
        | i + 8, hi => exact absurd hi (by simp [jfs])))⟩
