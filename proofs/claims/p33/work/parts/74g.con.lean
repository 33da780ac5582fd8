/-! The class's constructors. -/
abbrev okW (K L : Nat → Nat) (R : Nat → Nat → Nat) (a n x : Nat) : Prop := K a = 18 ∧ K n = 1 ∧ R a 0 = n ∧ L n = x ∧ 1 ≤ x ∧ x ≤ 1000
abbrev okD (K L : Nat → Nat) (R : Nat → Nat → Nat) (a n x : Nat) : Prop := K a = 12 ∧ K n = 1 ∧ R a 0 = n ∧ L n = x ∧ 1 ≤ x ∧ x ≤ 1000
abbrev okT (K L : Nat → Nat) (R : Nat → Nat → Nat) (a n x : Nat) : Prop := (K a = 17 ∨ K a = 27) ∧ K n = 3 ∧ R a 0 = n ∧ L n = x ∧ 1 ≤ x ∧ x ≤ 1000
abbrev okRw (K L : Nat → Nat) (R : Nat → Nat → Nat) (n N : Nat) : Prop := K n = 6 ∧ L n = N ∧ ∀ i, i < N → R n i = n + 1 + i ∧ K (n + 1 + i) = 2 ∧ L (n + 1 + i) = 13
abbrev okB (K L : Nat → Nat) (R : Nat → Nat → Nat) (a n : Nat) : Prop := K a = 10 ∧ R a 0 = n ∧ R a 1 = n + 7 ∧ R a 2 = n + 8 ∧ okRw K L R n 6 ∧ K (n + 7) = 1 ∧ L (n + 7) = 6 ∧ K (n + 8) = 1 ∧ L (n + 8) = 6
abbrev okP (K L : Nat → Nat) (R : Nat → Nat → Nat) (a n k s t : Nat) : Prop := K a = 13 ∧ R a 0 = n + 2 ∧ R a 1 = n ∧ okW K L R n (n + 1) 1 ∧ K (n + 2) = 4 ∧ L (n + 2) = k ∧ 1 ≤ k ∧ k ≤ 25 ∧ s ≤ 1000 ∧ t ≤ 1000 ∧ ∀ i, i < k → R (n + 2) i = n + 3 + 2 * i ∧ 1 ≤ (s : Int) - (t : Int) * (i : Int) ∧ okW K L R (n + 3 + 2 * i) (n + 3 + 2 * i + 1) ((s : Int) - (t : Int) * (i : Int)).toNat
abbrev okK (K L : Nat → Nat) (R : Nat → Nat → Nat) (a n : Nat) : Prop := K a = 11 ∧ (R a 0 = n ∧ R a 1 = n + 30 ∧ R a 2 = n + 60 ∧ R a 3 = n + 90 ∧ R a 4 = n + 144 ∧ R a 5 = n + 146 ∧ R a 6 = n + 148 ∧ R a 7 = n + 150) ∧ okP K L R n (n + 1) 13 30 0 ∧ okP K L R (n + 30) (n + 31) 13 30 0 ∧ okP K L R (n + 60) (n + 61) 13 236 0 ∧ okP K L R (n + 90) (n + 91) 25 6 0 ∧ okW K L R (n + 144) (n + 145) 240 ∧ okW K L R (n + 146) (n + 147) 240 ∧ okW K L R (n + 148) (n + 149) 40 ∧ okD K L R (n + 150) (n + 151) 60
theorem jk_85 {D n a : Nat} {h0 : mj_H} {K L : Nat → Nat} {R : Nat → Nat → Nat} {x : Nat} (ha : h0[a]? = some (.inr (8, [.null, .int 0, .int 0]))) (hn : h0.length = n) (o : okW K L R a n x) : mj_Ok (D + 1) 85 [.ref a, .int (jn (x : Int))] h0 (jDr K L R 0 h0 a (n + 1)) := by
  obtain ⟨o0, o1, o2, o3, o4, o5⟩ := o
  have s0 := jCS.beg (K := K) (L := L) (R := R) (tm := 0) ha hn
  refine mj_Ok.of (M := mj_m85) (loc := [some (.ref a), some (.int (jn (x : Int)))]) rfl rfl rfl ?_
  refine mj_T.pl rfl rfl rfl rfl ?_
  refine mj_T.prim rfl rfl rfl ?_
  iterate 2 refine mj_T.pl rfl rfl rfl rfl ?_
  refine jT.if0 rfl ⟨by omega, by omega⟩ (fun c => ?_) (fun c => ?_)
  · have c := of_decide_eq_true c
    omega
  · have c := of_decide_eq_false c
    iterate 2 refine mj_T.pl rfl rfl rfl rfl ?_
    refine jCS.arr (n := n) (x := (x : Int)) 1 s0 rfl (Or.inl rfl) rfl ⟨by omega, by omega⟩ o1 (by omega) (fun h11 s11 => ?_)
    refine jCS.put s11 rfl (Nat.le_of_ble_eq_true rfl) rfl (fun h12 s12 => ?_)
    refine mj_T.ret rfl rfl rfl ⟨rfl, s12.done (jCf.obj 18 (by decide) o0 rfl rfl (fun i cd hi => by
        match i, hi with
        | 0, hi => cases hi; exact ⟨_, rfl, jfv.ref (by decide) o2⟩
        | 1, hi => cases hi; exact ⟨_, rfl, jfv_mk (x := 0) rfl (by decide) (by decide)⟩
        | 2, hi => cases hi; exact ⟨_, rfl, jfv_mk (x := 0) rfl (by decide) (by decide)⟩
        | i + 3, hi => exact absurd hi (by simp [jfs])))⟩
theorem jk_29 {D n a : Nat} {h0 : mj_H} {K L : Nat → Nat} {R : Nat → Nat → Nat} {x : Nat} (ha : h0[a]? = some (.inr (2, [.null, .int 0, .int 0, .long 0]))) (hn : h0.length = n) (o : okD K L R a n x) : mj_Ok (D + 1) 29 [.ref a, .int (jn (x : Int))] h0 (jDr K L R 0 h0 a (n + 1)) := by
  obtain ⟨o0, o1, o2, o3, o4, o5⟩ := o
  have s0 := jCS.beg (K := K) (L := L) (R := R) (tm := 0) ha hn
  refine mj_Ok.of (M := mj_m29) (loc := [some (.ref a), some (.int (jn (x : Int)))]) rfl rfl rfl ?_
  refine mj_T.pl rfl rfl rfl rfl ?_
  refine mj_T.prim rfl rfl rfl ?_
  iterate 2 refine mj_T.pl rfl rfl rfl rfl ?_
  refine jCS.put s0 rfl (Nat.le_of_ble_eq_true rfl) rfl (fun h11 s11 => ?_)
  iterate 2 refine mj_T.pl rfl rfl rfl rfl ?_
  refine jT.if0 rfl ⟨by omega, by omega⟩ (fun c => ?_) (fun c => ?_)
  · have c := of_decide_eq_true c
    omega
  · have c := of_decide_eq_false c
    iterate 2 refine mj_T.pl rfl rfl rfl rfl ?_
    refine jCS.arr (n := n) (x := (x : Int)) 1 s11 rfl (Or.inl rfl) rfl ⟨by omega, by omega⟩ o1 (by omega) (fun h12 s12 => ?_)
    refine jCS.put s12 rfl (Nat.le_of_ble_eq_true rfl) rfl (fun h13 s13 => ?_)
    refine mj_T.ret rfl rfl rfl ⟨rfl, s13.done (jCf.obj 12 (by decide) o0 rfl rfl (fun i cd hi => by
        match i, hi with
        | 0, hi => cases hi; exact ⟨_, rfl, jfv.ref (by decide) o2⟩
        | 1, hi => cases hi; exact ⟨_, rfl, jfv_mk (x := 0) rfl (by decide) (by decide)⟩
        | 2, hi => cases hi; exact ⟨_, rfl, jfv_mk (x := 0) rfl (by decide) (by decide)⟩
        | 3, hi => cases hi; exact ⟨_, rfl, jfv.long (x := 1) ⟨by decide, by decide⟩⟩
        | i + 4, hi => exact absurd hi (by simp [jfs])))⟩
theorem jk_78 {D n a : Nat} {h0 : mj_H} {K L : Nat → Nat} {R : Nat → Nat → Nat} {x : Nat} (ha : h0[a]? = some (.inr (7, [.null, .int 0]))) (hn : h0.length = n) (o : okT K L R a n x) : mj_Ok (D + 1) 78 [.ref a, .int (jn (x : Int))] h0 (jDr K L R 0 h0 a (n + 1)) := by
  obtain ⟨o0, o1, o2, o3, o4, o5⟩ := o
  have s0 := jCS.beg (K := K) (L := L) (R := R) (tm := 0) ha hn
  refine mj_Ok.of (M := mj_m78) (loc := [some (.ref a), some (.int (jn (x : Int)))]) rfl rfl rfl ?_
  refine mj_T.pl rfl rfl rfl rfl ?_
  refine mj_T.prim rfl rfl rfl ?_
  iterate 2 refine mj_T.pl rfl rfl rfl rfl ?_
  refine jT.if0 rfl ⟨by omega, by omega⟩ (fun c => ?_) (fun c => ?_)
  · have c := of_decide_eq_true c
    omega
  · have c := of_decide_eq_false c
    iterate 2 refine mj_T.pl rfl rfl rfl rfl ?_
    refine jCS.arr (n := n) (x := (x : Int)) 3 s0 rfl (Or.inr (Or.inr rfl)) rfl ⟨by omega, by omega⟩ o1 (by omega) (fun h11 s11 => ?_)
    refine jCS.put s11 rfl (Nat.le_of_ble_eq_true rfl) rfl (fun h12 s12 => ?_)
    refine mj_T.ret rfl rfl rfl ⟨rfl, s12.done ?_⟩
    rcases o0 with o0 | o0
    · exact jCf.obj 17 (by decide) o0 rfl rfl (fun i cd hi => by
        match i, hi with
        | 0, hi => cases hi; exact ⟨_, rfl, jfv.ref (by decide) o2⟩
        | 1, hi => cases hi; exact ⟨_, rfl, jfv_mk (x := 0) rfl (by decide) (by decide)⟩
        | i + 2, hi => exact absurd hi (by simp [jfs]))
    · exact jCf.obj 27 (by decide) o0 rfl rfl (fun i cd hi => by
        match i, hi with
        | 0, hi => cases hi; exact ⟨_, rfl, jfv.ref (by decide) o2⟩
        | 1, hi => cases hi; exact ⟨_, rfl, jfv_mk (x := 0) rfl (by decide) (by decide)⟩
        | i + 2, hi => exact absurd hi (by simp [jfs]))
theorem jk_0 {D n a : Nat} {h0 : mj_H} {K L : Nat → Nat} {R : Nat → Nat → Nat} (ha : h0[a]? = some (.inr (0, [.null, .null, .null, .int 0]))) (hn : h0.length = n) (o : okB K L R a n) : mj_Ok (D + 1) 0 [.ref a] h0 (jDr K L R 0 h0 a (n + 9)) := by
  obtain ⟨o0, o1, o2, o3, ⟨o4, o5, o6⟩, o7, o8, o9, o10⟩ := o
  have s0 := jCS.beg (K := K) (L := L) (R := R) (tm := 0) ha hn
  refine mj_Ok.of (M := mj_m0) (loc := [some (.ref a)]) rfl rfl rfl ?_
  refine mj_T.pl rfl rfl rfl rfl ?_
  refine mj_T.prim rfl rfl rfl ?_
  iterate 3 refine mj_T.pl rfl rfl rfl rfl ?_
  refine jCS.rows (n := n) 6 s0 rfl (by decide) o4 o5 o6 (fun h11 s11 => ?_)
  refine jCS.put s11 rfl (Nat.le_of_ble_eq_true rfl) rfl (fun h12 s12 => ?_)
  iterate 2 refine mj_T.pl rfl rfl rfl rfl ?_
  refine jCS.arr (n := n + 7) (x := 6) 1 s12 rfl (Or.inl rfl) rfl ⟨by decide, by decide⟩ o7 (by rw [o8]; rfl) (fun h13 s13 => ?_)
  refine jCS.put s13 rfl (Nat.le_of_ble_eq_true rfl) rfl (fun h14 s14 => ?_)
  iterate 2 refine mj_T.pl rfl rfl rfl rfl ?_
  refine jCS.arr (n := n + 8) (x := 6) 1 s14 rfl (Or.inl rfl) rfl ⟨by decide, by decide⟩ o9 (by rw [o10]; rfl) (fun h15 s15 => ?_)
  refine jCS.put s15 rfl (Nat.le_of_ble_eq_true rfl) rfl (fun h16 s16 => ?_)
  exact mj_T.ret rfl rfl rfl ⟨rfl, s16.done (jCf.obj 10 (by decide) o0 rfl rfl (fun i cd hi => by
        match i, hi with
        | 0, hi => cases hi; exact ⟨_, rfl, jfv.ref (by decide) o1⟩
        | 1, hi => cases hi; exact ⟨_, rfl, jfv.ref (by decide) o2⟩
        | 2, hi => cases hi; exact ⟨_, rfl, jfv.ref (by decide) o3⟩
        | 3, hi => cases hi; exact ⟨_, rfl, jfv_mk (x := 0) rfl (by decide) (by decide)⟩
        | i + 4, hi => exact absurd hi (by simp [jfs])))⟩
theorem jk_35l {D n a : Nat} {h0 : mj_H} {K L : Nat → Nat} {R : Nat → Nat → Nat} {k s t : Nat} (hn : h0.length = n) (o : okP K L R a n k s t) : ∀ (d i : Nat) {f : Nat → Value} {h : mj_H}, i + d = k → (∀ j, j < i → f j = .ref (R (n + 2) j)) → jCS K L R 0 h0 a 3 [.ref (n + 2), .ref n, .int (jn (-1))] [(n + 2, .inl (5, k, f))] (n + 3 + 2 * i) h → mj_T (D + 1) mj_m35 40 [some (.ref a), some (.int (jn (k : Int))), some (.int (jn (s : Int))), some (.int (jn (t : Int))), some (.int (jn (i : Int)))] [] h (jDr K L R 0 h0 a (n + 3 + 2 * k)) := by
  obtain ⟨o0, o1, o2, o3, o4, o5, o6, o7, o8, o9, o10⟩ := o
  intro d
  induction d with
  | zero =>
    intro i f h hd hf s0
    have e : i = k := by omega
    subst e
    iterate 2 refine mj_T.pl rfl rfl rfl rfl ?_
    refine jCS.get s0 rfl rfl ?_
    refine jCS.alen s0 rfl ?_
    refine jT.icmp rfl ⟨by omega, by omega⟩ ⟨by omega, by omega⟩ (fun _ => ?_) (fun c => ?_)
    · exact mj_T.ret rfl rfl rfl ⟨rfl, (s0.full o4 ⟨by decide, by decide⟩ rfl o5 hf).done (jCf.obj 13 (by decide) o0 rfl rfl (fun i cd hi => by
            match i, hi with
            | 0, hi => cases hi; exact ⟨_, rfl, jfv.ref (by decide) o1⟩
            | 1, hi => cases hi; exact ⟨_, rfl, jfv.ref (by decide) o2⟩
            | 2, hi => cases hi; exact ⟨_, rfl, jfv_mk (x := -1) rfl (by decide) (by decide)⟩
            | i + 3, hi => exact absurd hi (by simp [jfs])))⟩
    · have c := of_decide_eq_false c
      omega
  | succ d ih =>
    intro i f h hd hf s0
    obtain ⟨p1, p2, p3⟩ := o10 i (by omega)
    iterate 2 refine mj_T.pl rfl rfl rfl rfl ?_
    refine jCS.get s0 rfl rfl ?_
    refine jCS.alen s0 rfl ?_
    refine jT.icmp rfl ⟨by omega, by omega⟩ ⟨by omega, by omega⟩ (fun c => ?_) (fun _ => ?_)
    · have c := of_decide_eq_true c
      omega
    refine mj_T.pl rfl rfl rfl rfl ?_
    refine jCS.get s0 rfl rfl ?_
    refine mj_T.pl rfl rfl rfl rfl ?_
    refine jCS.new (n := n + 3 + 2 * i) s0 rfl ?_
    iterate 4 refine mj_T.pl rfl rfl rfl rfl ?_
    refine mj_T.imul rfl ?_
    refine mj_T.isub rfl ?_
    refine mj_T.eq (st2 := [.int (jn ((((s : Int) - (t : Int) * (i : Int)).toNat : Nat) : Int)), .ref (n + 3 + 2 * i), .ref (n + 3 + 2 * i), .int (jn (i : Int)), .ref (n + 2)]) ?_ rfl rfl (by rw [Int.toNat_of_nonneg (by omega)]) rfl
    refine jCS.call (n := n + 3 + 2 * i) (N := n + 3 + 2 * i + 1 + 1) s0 rfl rfl (Nat.le_of_ble_eq_true rfl) (Nat.le_of_ble_eq_true rfl) rfl rfl (fun e1 e2 => jk_85 (D := D) e2 e1 p3) rfl (fun h1 s1 => ?_)
    refine jCS.aast (kv := 18) s1 rfl ⟨by omega, by omega, by omega⟩ p3.1 (by decide) rfl (by omega) (by omega) (fun h2 s2 => ?_)
    refine mj_T.iinc (a := (i : Int)) rfl rfl ?_
    refine mj_T.pl rfl rfl rfl rfl ?_
    refine ih (i + 1) (by omega) (fun j hj => ?_) s2
    unfold updV
    split
    · rename_i q
      subst q
      rw [p1]
    · exact hf j (by omega)
theorem jk_35 {D n a : Nat} {h0 : mj_H} {K L : Nat → Nat} {R : Nat → Nat → Nat} {k s t : Nat} (ha : h0[a]? = some (.inr (3, [.null, .null, .int 0]))) (hn : h0.length = n) (o : okP K L R a n k s t) : mj_Ok (D + 2) 35 [.ref a, .int (jn (k : Int)), .int (jn (s : Int)), .int (jn (t : Int))] h0 (jDr K L R 0 h0 a (n + 3 + 2 * k)) := by
  have ok := o
  obtain ⟨o0, o1, o2, o3, o4, o5, o6, o7, o8, o9, o10⟩ := o
  have s0 := jCS.beg (K := K) (L := L) (R := R) (tm := 0) ha hn
  refine mj_Ok.of (M := mj_m35) (loc := [some (.ref a), some (.int (jn (k : Int))), some (.int (jn (s : Int))), some (.int (jn (t : Int))), none]) rfl rfl rfl ?_
  refine mj_T.pl rfl rfl rfl rfl ?_
  refine mj_T.prim rfl rfl rfl ?_
  refine mj_T.pl rfl rfl rfl rfl ?_
  refine jCS.new (n := n) s0 rfl ?_
  iterate 2 refine mj_T.pl rfl rfl rfl rfl ?_
  refine jCS.call (n := n) (N := n + 2) s0 rfl rfl (Nat.le_of_ble_eq_true rfl) (Nat.le_of_ble_eq_true rfl) rfl rfl (fun e1 e2 => jk_85 (D := D) (x := 1) e2 e1 o3) rfl (fun h11 s11 => ?_)
  refine jCS.put s11 rfl (Nat.le_of_ble_eq_true rfl) rfl (fun h12 s12 => ?_)
  iterate 2 refine mj_T.pl rfl rfl rfl rfl ?_
  refine jCS.put s12 rfl (Nat.le_of_ble_eq_true rfl) rfl (fun h13 s13 => ?_)
  iterate 2 refine mj_T.pl rfl rfl rfl rfl ?_
  refine jT.if0 rfl ⟨by omega, by omega⟩ (fun c => ?_) (fun c => ?_)
  · have c := of_decide_eq_true c
    omega
  · have c := of_decide_eq_false c
    iterate 2 refine mj_T.pl rfl rfl rfl rfl ?_
    refine jCS.arrO (n := n + 2) k s13 rfl (by omega) (fun h14 s14 => ?_)
    refine jCS.put s14 rfl (Nat.le_of_ble_eq_true rfl) rfl (fun h15 s15 => ?_)
    iterate 2 refine mj_T.pl rfl rfl rfl rfl ?_
    exact jk_35l hn ok k 0 (by omega) (fun j hj => absurd hj (by omega)) s15
theorem jk_10 {D n a : Nat} {h0 : mj_H} {K L : Nat → Nat} {R : Nat → Nat → Nat} (ha : h0[a]? = some (.inr (1, [.null, .null, .null, .null, .null, .null, .null, .null]))) (hn : h0.length = n) (o : okK K L R a n) : mj_Ok (D + 3) 10 [.ref a] h0 (jDr K L R 0 h0 a (n + 152)) := by
  obtain ⟨o0, ⟨q0, q1, q2, q3, q4, q5, q6, q7⟩, p0, p1, p2, p3, w4, w5, w6, w7⟩ := o
  have s0 := jCS.beg (K := K) (L := L) (R := R) (tm := 0) ha hn
  refine mj_Ok.of (M := mj_m10) (loc := [some (.ref a)]) rfl rfl rfl ?_
  refine mj_T.pl rfl rfl rfl rfl ?_
  refine mj_T.prim rfl rfl rfl ?_
  refine mj_T.pl rfl rfl rfl rfl ?_
  refine jCS.new (n := n) s0 rfl ?_
  iterate 4 refine mj_T.pl rfl rfl rfl rfl ?_
  refine jCS.call (n := n) (N := n + 30) s0 rfl rfl (Nat.le_of_ble_eq_true rfl) (Nat.le_of_ble_eq_true rfl) rfl rfl (fun e1 e2 => jk_35 (D := D) (k := 13) (s := 30) (t := 0) e2 e1 p0) rfl (fun h11 s11 => ?_)
  refine jCS.put s11 rfl (Nat.le_of_ble_eq_true rfl) rfl (fun h12 s12 => ?_)
  refine mj_T.pl rfl rfl rfl rfl ?_
  refine jCS.new (n := n + 30) s12 rfl ?_
  iterate 4 refine mj_T.pl rfl rfl rfl rfl ?_
  refine jCS.call (n := n + 30) (N := n + 60) s12 rfl rfl (Nat.le_of_ble_eq_true rfl) (Nat.le_of_ble_eq_true rfl) rfl rfl (fun e1 e2 => jk_35 (D := D) (k := 13) (s := 30) (t := 0) e2 e1 p1) rfl (fun h13 s13 => ?_)
  refine jCS.put s13 rfl (Nat.le_of_ble_eq_true rfl) rfl (fun h14 s14 => ?_)
  refine mj_T.pl rfl rfl rfl rfl ?_
  refine jCS.new (n := n + 60) s14 rfl ?_
  iterate 4 refine mj_T.pl rfl rfl rfl rfl ?_
  refine jCS.call (n := n + 60) (N := n + 90) s14 rfl rfl (Nat.le_of_ble_eq_true rfl) (Nat.le_of_ble_eq_true rfl) rfl rfl (fun e1 e2 => jk_35 (D := D) (k := 13) (s := 236) (t := 0) e2 e1 p2) rfl (fun h15 s15 => ?_)
  refine jCS.put s15 rfl (Nat.le_of_ble_eq_true rfl) rfl (fun h16 s16 => ?_)
  refine mj_T.pl rfl rfl rfl rfl ?_
  refine jCS.new (n := n + 90) s16 rfl ?_
  iterate 4 refine mj_T.pl rfl rfl rfl rfl ?_
  refine jCS.call (n := n + 90) (N := n + 144) s16 rfl rfl (Nat.le_of_ble_eq_true rfl) (Nat.le_of_ble_eq_true rfl) rfl rfl (fun e1 e2 => jk_35 (D := D) (k := 25) (s := 6) (t := 0) e2 e1 p3) rfl (fun h17 s17 => ?_)
  refine jCS.put s17 rfl (Nat.le_of_ble_eq_true rfl) rfl (fun h18 s18 => ?_)
  refine mj_T.pl rfl rfl rfl rfl ?_
  refine jCS.new (n := n + 144) s18 rfl ?_
  iterate 2 refine mj_T.pl rfl rfl rfl rfl ?_
  refine jCS.call (n := n + 144) (N := n + 146) s18 rfl rfl (Nat.le_of_ble_eq_true rfl) (Nat.le_of_ble_eq_true rfl) rfl rfl (fun e1 e2 => jk_85 (D := D + 1) (x := 240) e2 e1 w4) rfl (fun h19 s19 => ?_)
  refine jCS.put s19 rfl (Nat.le_of_ble_eq_true rfl) rfl (fun h20 s20 => ?_)
  refine mj_T.pl rfl rfl rfl rfl ?_
  refine jCS.new (n := n + 146) s20 rfl ?_
  iterate 2 refine mj_T.pl rfl rfl rfl rfl ?_
  refine jCS.call (n := n + 146) (N := n + 148) s20 rfl rfl (Nat.le_of_ble_eq_true rfl) (Nat.le_of_ble_eq_true rfl) rfl rfl (fun e1 e2 => jk_85 (D := D + 1) (x := 240) e2 e1 w5) rfl (fun h21 s21 => ?_)
  refine jCS.put s21 rfl (Nat.le_of_ble_eq_true rfl) rfl (fun h22 s22 => ?_)
  refine mj_T.pl rfl rfl rfl rfl ?_
  refine jCS.new (n := n + 148) s22 rfl ?_
  iterate 2 refine mj_T.pl rfl rfl rfl rfl ?_
  refine jCS.call (n := n + 148) (N := n + 150) s22 rfl rfl (Nat.le_of_ble_eq_true rfl) (Nat.le_of_ble_eq_true rfl) rfl rfl (fun e1 e2 => jk_85 (D := D + 1) (x := 40) e2 e1 w6) rfl (fun h23 s23 => ?_)
  refine jCS.put s23 rfl (Nat.le_of_ble_eq_true rfl) rfl (fun h24 s24 => ?_)
  refine mj_T.pl rfl rfl rfl rfl ?_
  refine jCS.new (n := n + 150) s24 rfl ?_
  iterate 2 refine mj_T.pl rfl rfl rfl rfl ?_
  refine jCS.call (n := n + 150) (N := n + 152) s24 rfl rfl (Nat.le_of_ble_eq_true rfl) (Nat.le_of_ble_eq_true rfl) rfl rfl (fun e1 e2 => jk_29 (D := D + 1) (x := 60) e2 e1 w7) rfl (fun h25 s25 => ?_)
  refine jCS.put s25 rfl (Nat.le_of_ble_eq_true rfl) rfl (fun h26 s26 => ?_)
  exact mj_T.ret rfl rfl rfl ⟨rfl, s26.done (jCf.obj 11 (by decide) o0 rfl rfl (fun i cd hi => by
        match i, hi with
        | 0, hi => cases hi; exact ⟨_, rfl, jfv.ref (by decide) q0⟩
        | 1, hi => cases hi; exact ⟨_, rfl, jfv.ref (by decide) q1⟩
        | 2, hi => cases hi; exact ⟨_, rfl, jfv.ref (by decide) q2⟩
        | 3, hi => cases hi; exact ⟨_, rfl, jfv.ref (by decide) q3⟩
        | 4, hi => cases hi; exact ⟨_, rfl, jfv.ref (by decide) q4⟩
        | 5, hi => cases hi; exact ⟨_, rfl, jfv.ref (by decide) q5⟩
        | 6, hi => cases hi; exact ⟨_, rfl, jfv.ref (by decide) q6⟩
        | 7, hi => cases hi; exact ⟨_, rfl, jfv.ref (by decide) q7⟩
        | i + 8, hi => exact absurd hi (by simp [jfs])))⟩
/-! The class's constructors: setLong while an object is under way, Sturm, Roots, Reader. -/
-- PolyRegisters$Bench.setFirstRows()V
theorem jc_1 {D n : Nat} {tm : Int} {h g : mj_H} {K L : Nat → Nat} {R : Nat → Nat → Nat} {p0 : Nat} (ty : jTY K L R) (hg : g.length ≤ n) (o : jO K L R g n tm h) (kp0 : K p0 = 10) : mj_Ok (D + 1) 1 [.ref p0] h (jQ K L R g n tm [] jV0) := by
  refine mj_Ok.of (M := mj_m1) (loc := [some (.ref p0)]) rfl rfl rfl ?_
  refine mj_T.pl rfl rfl rfl rfl ?_
  refine jT.getR 10 106 6 ty o rfl kp0 (by decide) rfl rfl rfl (fun k1 => ?_)
  refine mj_T.pl rfl rfl rfl rfl ?_
  have l2 : 6 ≤ (L (R p0 0) : Int) ∧ (L (R p0 0) : Int) ≤ 9 := jlen 6 ty k1 (by decide) (by decide)
  refine jT.aald 6 2 ty o rfl k1 (by decide) (by decide) rfl ⟨by decide, by decide⟩ ⟨by omega, by omega⟩ (fun k3 => ?_)
  refine mj_T.pl rfl rfl rfl rfl ?_
  refine jT.lc 1 rfl rfl ?_
  have l4 : 13 ≤ (L (R (R p0 0) (0 : Int).toNat) : Int) ∧ (L (R (R p0 0) (0 : Int).toNat) : Int) ≤ 13 := jlen 2 ty k3 (by decide) (by decide)
  refine jT.last o rfl k3 ⟨by decide, by decide⟩ ⟨by omega, by omega⟩ ⟨by decide, by decide⟩ (fun h5 oh5 uh5 => ?_)
  refine mj_T.pl rfl rfl rfl rfl ?_
  refine jT.getR 10 106 6 ty oh5 rfl kp0 (by decide) rfl rfl rfl (fun k6 => ?_)
  refine mj_T.pl rfl rfl rfl rfl ?_
  refine jT.aald 6 2 ty oh5 rfl k6 (by decide) (by decide) rfl ⟨by decide, by decide⟩ ⟨by omega, by omega⟩ (fun k7 => ?_)
  refine mj_T.pl rfl rfl rfl rfl ?_
  refine mj_T.pl rfl rfl rfl rfl ?_
  refine jT.anyL (fun z8 jz8 => ?_)
  refine jT.last oh5 rfl k7 ⟨by decide, by decide⟩ ⟨by omega, by omega⟩ jz8 (fun h9 oh9 uh9 => ?_)
  refine mj_T.pl rfl rfl rfl rfl ?_
  refine jT.getR 10 106 6 ty oh9 rfl kp0 (by decide) rfl rfl rfl (fun k10 => ?_)
  refine mj_T.pl rfl rfl rfl rfl ?_
  refine jT.aald 6 2 ty oh9 rfl k10 (by decide) (by decide) rfl ⟨by decide, by decide⟩ ⟨by omega, by omega⟩ (fun k11 => ?_)
  refine mj_T.pl rfl rfl rfl rfl ?_
  refine jT.lc 1 rfl rfl ?_
  have l12 : 13 ≤ (L (R (R p0 0) (1 : Int).toNat) : Int) ∧ (L (R (R p0 0) (1 : Int).toNat) : Int) ≤ 13 := jlen 2 ty k11 (by decide) (by decide)
  refine jT.last oh9 rfl k11 ⟨by decide, by decide⟩ ⟨by omega, by omega⟩ ⟨by decide, by decide⟩ (fun h13 oh13 uh13 => ?_)
  refine mj_T.pl rfl rfl rfl rfl ?_
  refine jT.getR 10 106 6 ty oh13 rfl kp0 (by decide) rfl rfl rfl (fun k14 => ?_)
  refine mj_T.pl rfl rfl rfl rfl ?_
  refine jT.aald 6 2 ty oh13 rfl k14 (by decide) (by decide) rfl ⟨by decide, by decide⟩ ⟨by omega, by omega⟩ (fun k15 => ?_)
  refine mj_T.pl rfl rfl rfl rfl ?_
  refine mj_T.pl rfl rfl rfl rfl ?_
  refine jT.anyL (fun z16 jz16 => ?_)
  refine jT.last oh13 rfl k15 ⟨by decide, by decide⟩ ⟨by omega, by omega⟩ jz16 (fun h17 oh17 uh17 => ?_)
  refine mj_T.pl rfl rfl rfl rfl ?_
  refine jT.getR 10 106 6 ty oh17 rfl kp0 (by decide) rfl rfl rfl (fun k18 => ?_)
  refine mj_T.pl rfl rfl rfl rfl ?_
  refine jT.aald 6 2 ty oh17 rfl k18 (by decide) (by decide) rfl ⟨by decide, by decide⟩ ⟨by omega, by omega⟩ (fun k19 => ?_)
  refine mj_T.pl rfl rfl rfl rfl ?_
  refine jT.ldcL rfl ?_
  have l20 : 13 ≤ (L (R (R p0 0) (2 : Int).toNat) : Int) ∧ (L (R (R p0 0) (2 : Int).toNat) : Int) ≤ 13 := jlen 2 ty k19 (by decide) (by decide)
  refine jT.last oh17 rfl k19 ⟨by decide, by decide⟩ ⟨by omega, by omega⟩ ⟨by decide, by decide⟩ (fun h21 oh21 uh21 => ?_)
  refine mj_T.pl rfl rfl rfl rfl ?_
  refine jT.getR 10 106 6 ty oh21 rfl kp0 (by decide) rfl rfl rfl (fun k22 => ?_)
  refine mj_T.pl rfl rfl rfl rfl ?_
  refine jT.aald 6 2 ty oh21 rfl k22 (by decide) (by decide) rfl ⟨by decide, by decide⟩ ⟨by omega, by omega⟩ (fun k23 => ?_)
  refine mj_T.pl rfl rfl rfl rfl ?_
  refine mj_T.pl rfl rfl rfl rfl ?_
  refine jT.anyL (fun z24 jz24 => ?_)
  refine jT.last oh21 rfl k23 ⟨by decide, by decide⟩ ⟨by omega, by omega⟩ jz24 (fun h25 oh25 uh25 => ?_)
  refine mj_T.pl rfl rfl rfl rfl ?_
  refine jT.getR 10 106 6 ty oh25 rfl kp0 (by decide) rfl rfl rfl (fun k26 => ?_)
  refine mj_T.pl rfl rfl rfl rfl ?_
  refine jT.aald 6 2 ty oh25 rfl k26 (by decide) (by decide) rfl ⟨by decide, by decide⟩ ⟨by omega, by omega⟩ (fun k27 => ?_)
  refine mj_T.pl rfl rfl rfl rfl ?_
  refine jT.lc 1 rfl rfl ?_
  refine jT.last oh25 rfl k27 ⟨by decide, by decide⟩ ⟨by omega, by omega⟩ ⟨by decide, by decide⟩ (fun h28 oh28 uh28 => ?_)
  exact jT.ret oh28 rfl rfl rfl rfl
theorem jCf.mv {K K' L : Nat → Nat} {R : Nat → Nat → Nat} {tm : Int} {k a : Nat} {e : mj_E} (hk : k = 1 ∨ k = 18) (q : jCf K' L R tm k a e) : jCf K L R tm k a e := by
  rcases hk with hk | hk
  · subst hk
    unfold jCf at q ⊢
    rw [if_pos (by decide)] at q ⊢
    exact q
  · subst hk
    unfold jCf at q ⊢
    rw [if_neg (by decide)] at q ⊢
    obtain ⟨fs, q1, q2, q3⟩ := q
    refine ⟨fs, q1, q2, fun i c hi => ?_⟩
    obtain ⟨v, v1, v2⟩ := q3 i c hi
    refine ⟨v, v1, ?_⟩
    match i, hi with
    | 0, hi => cases hi; exact v2
    | 1, hi => cases hi; exact v2
    | 2, hi => cases hi; exact v2
    | i + 3, hi => exact absurd hi (by simp [jfs])
def jK2 (w y : Nat) : Nat := if y = w then 18 else if y = w + 1 then 1 else 0
theorem jK2_ty {K L : Nat → Nat} {R : Nat → Nat → Nat} {w x : Nat} (o : okW K L R w (w + 1) x) : jTY (jK2 w) L R := by
  obtain ⟨o0, o1, o2, o3, o4, o5⟩ := o
  have hv : ∀ y, (jK2 w y = 18 ∧ y = w) ∨ (jK2 w y = 1 ∧ y = w + 1) ∨ jK2 w y = 0 := fun y => by
    unfold jK2
    split
    · exact Or.inl ⟨rfl, by assumption⟩
    · split
      · exact Or.inr (Or.inl ⟨rfl, by assumption⟩)
      · exact Or.inr (Or.inr rfl)
  have h1 : jK2 w (w + 1) = 1 := by unfold jK2; rw [if_neg (by omega), if_pos rfl]
  refine ⟨fun b i c hi hc => ?_, fun b h2 h3 => ?_, fun b i h2 h3 => ?_, fun b h2 => ?_, fun b h2 => ?_, fun b h2 => ?_, fun b d h2 => ?_, fun b h2 => ?_⟩
  · rcases hv b with q | q | q
    · rw [q.1] at hi
      match i, hi with
      | 0, hi => cases hi; rw [q.2, o2, h1]
      | 1, hi => cases hi; exact absurd hc (by decide)
      | 2, hi => cases hi; exact absurd hc (by decide)
      | i + 3, hi => exact absurd hi (by simp [jfs])
    · rw [q.1] at hi
      exact absurd hi (by simp [jfs])
    · rw [q] at hi
      exact absurd hi (by simp [jfs])
  · rcases hv b with q | q | q
    · omega
    · rw [q.1, q.2, o3]
      exact ⟨Int.natCast_nonneg _, by show (x : Int) ≤ 1000; omega⟩
    · omega
  · rcases hv b with q | q | q <;> omega
  · rcases hv b with q | q | q <;> omega
  · rcases hv b with q | q | q <;> omega
  · rcases hv b with q | q | q <;> omega
  · rcases hv b with q | q | q <;> omega
  · rcases hv b with q | q | q <;> omega
theorem jCS.setL {D pc : Nat} {M : mj_M} {loc : mj_L} {st : List Value} {h h0 : mj_H} {Q : mj_R → Prop} {r3 r4 : Nat} {K L : Nat → Nat} {R : Nat → Nat → Nat} {a c n : Nat} {fs : List Value} {ix w x : Nat} {z : Int} (s : jCS K L R 0 h0 a c fs [] n h) (hc : M.2.2.2.2.1 pc = some (.invokevirtual ix, 86, 2, r3, r4, 8)) (hk : mj_kind (.invokevirtual ix) r3 = 3) (hcat : mj_cat st ≤ 8) (hM : M.2.2.2.2.2.1 = []) (hz : jR z) (hw : h0.length ≤ w ∧ w + 1 < n) (o : okW K L R w (w + 1) x) (k : ∀ h', jCS K L R 0 h0 a c fs [] n h' → mj_T (D + 1) M (pc + 3) loc st h' Q) : mj_T (D + 1) M pc loc (.long (jl z) :: .ref w :: st) h Q := by
  have ty := jK2_ty o
  obtain ⟨s1, s2, s3, s4, s5, s6, s7⟩ := s
  have kw : jK2 w w = 18 := by unfold jK2; rw [if_pos rfl]
  have kw1 : jK2 w (w + 1) = 1 := by unfold jK2; rw [if_neg (by omega), if_pos rfl]
  have kz : ∀ y, y ≠ w → y ≠ w + 1 → jK2 w y = 0 := fun y h1 h2 => by unfold jK2; rw [if_neg h1, if_neg h2]
  have ho : jO (jK2 w) L R h n 0 h := by
    refine ⟨s1, ⟨by decide, by decide⟩, fun _ _ => ⟨fun _ => rfl, fun p q => absurd p (by omega)⟩, fun y hy => ?_⟩
    by_cases q1 : y = w
    · subst q1
      obtain ⟨e, e1, e2⟩ := s7 y hw.1 (by omega) (fun p hp => (List.not_mem_nil hp).elim)
      rw [o.1] at e2
      exact ⟨e, e1, by rw [kw]; exact e2.mv (Or.inr rfl)⟩
    · by_cases q2 : y = w + 1
      · subst q2
        obtain ⟨e, e1, e2⟩ := s7 (w + 1) (by omega) hw.2 (fun p hp => (List.not_mem_nil hp).elim)
        rw [o.2.1] at e2
        exact ⟨e, e1, by rw [kw1]; exact e2.mv (Or.inl rfl)⟩
      · exact absurd (kz y q1 q2) hy
  refine mj_T.call hc hk (Nat.le_add_left _ _) hcat (jrv_of ho kw (by decide) rfl (by decide) rfl ix) rfl (jc_86 (D := D) ty (Nat.le_of_eq s1) ho kw hz) (fun v h' hq => ?_) (fun i h' hq => ?_)
  · obtain ⟨hv, ho'⟩ := hq
    cases hv
    obtain ⟨t1, _, t3, t4⟩ := ho'
    have old : ∀ y, y < n → y ≠ w → y ≠ w + 1 → h'[y]? = h[y]? := fun y h1 h2 h3 => (t3 y (kz y h2 h3)).1 (by omega)
    refine k h' ⟨t1, s2, s3, fun y hy hne => ?_, ?_, fun p hp => (List.not_mem_nil hp).elim, fun y h1 h2 _ => ?_⟩
    · rw [old y (by omega) (by omega) (by omega)]
      exact s4 y hy hne
    · rw [old a (by omega) (by omega) (by omega)]
      exact s5
    · by_cases q1 : y = w
      · subst q1
        obtain ⟨e, e1, e2⟩ := t4 y (by rw [kw]; decide)
        rw [kw] at e2
        exact ⟨e, e1, by rw [o.1]; exact e2.mv (Or.inr rfl)⟩
      · by_cases q2 : y = w + 1
        · subst q2
          obtain ⟨e, e1, e2⟩ := t4 (w + 1) (by rw [kw1]; decide)
          rw [kw1] at e2
          exact ⟨e, e1, by rw [o.2.1]; exact e2.mv (Or.inl rfl)⟩
        · rw [old y h2 q1 q2]
          exact s7 y h1 h2 (fun p hp => (List.not_mem_nil hp).elim)
  · exact absurd hq.1 List.not_mem_nil
def jst (i : Nat) : Nat := [7, 37, 67, 95, 121, 145, 167, 187, 205, 221, 235, 247, 257, 265, 271].getD i 0
def jsk (i : Nat) : Nat := if i < 2 then 13 else 14 - i
def jss (i : Nat) : Nat := if i < 2 then 30 else 56
def jsu (i : Nat) : Nat := if i < 2 then 2 else 4
theorem jst_s : ∀ i, i < 14 → jst (i + 1) = jst i + 4 + 2 * jsk i ∧ 7 ≤ jst i := by decide
abbrev okS (K L : Nat → Nat) (R : Nat → Nat → Nat) (a n d : Nat) : Prop := K a = 16 ∧ (R a 0 = d ∧ R a 1 = n ∧ R a 3 = n + 1 ∧ R a 4 = n + 3 ∧ R a 5 = n + 5) ∧ K n = 5 ∧ L n = 14 ∧ okW K L R (n + 1) (n + 2) 60 ∧ okW K L R (n + 3) (n + 4) 60 ∧ okW K L R (n + 5) (n + 6) 3 ∧ ∀ i, i < 14 → R n i = n + jst i ∧ okP K L R (n + jst i) (n + jst i + 1) (jsk i) (jss i) (jsu i)
abbrev okR (K L : Nat → Nat) (R : Nat → Nat → Nat) (a n d u : Nat) : Prop := K a = 15 ∧ (R a 0 = d ∧ R a 1 = u ∧ R a 6 = n ∧ R a 8 = n + 2 ∧ R a 9 = n + 4 ∧ R a 10 = n + 6 ∧ R a 11 = n + 8) ∧ okW K L R n (n + 1) 12 ∧ okW K L R (n + 2) (n + 3) 12 ∧ okW K L R (n + 4) (n + 5) 12 ∧ okW K L R (n + 6) (n + 7) 12 ∧ okW K L R (n + 8) (n + 9) 1
abbrev okE (K L : Nat → Nat) (R : Nat → Nat → Nat) (a n d u : Nat) : Prop := K a = 14 ∧ (R a 0 = d ∧ (K u = 17 ∨ K u = 27) ∧ R a 5 = n ∧ R a 6 = n + 10 ∧ R a 7 = n + 20) ∧ okRw K L R n 9 ∧ okRw K L R (n + 10) 9 ∧ K (n + 20) = 2 ∧ L (n + 20) = 13
theorem jk_67l {D n a : Nat} {h0 : mj_H} {K L : Nat → Nat} {R : Nat → Nat → Nat} {dd : Nat} (hn : h0.length = n) (o : okS K L R a n dd) : ∀ (d i : Nat) {f : Nat → Value} {h : mj_H}, i + d = 14 → (∀ j, j < i → f j = .ref (R n j)) → jCS K L R 0 h0 a 6 [.ref dd, .ref n, .int 0, .ref (n + 1), .ref (n + 3), .ref (n + 5)] [(n, .inl (4, 14, f))] (n + jst i) h → mj_T (D + 2) mj_m67 58 [some (.ref a), some (.ref dd), some (.int (jn (i : Int)))] [] h (jDr K L R 0 h0 a (n + jst 14)) := by
  obtain ⟨o0, ⟨q0, q1, q3, q4, q5⟩, o1, o2, o3, o4, o5, o6⟩ := o
  intro d
  induction d with
  | zero =>
    intro i f h hd hf s0
    have e : i = 14 := by omega
    subst e
    iterate 2 refine mj_T.pl rfl rfl rfl rfl ?_
    refine jCS.get s0 rfl rfl ?_
    refine jCS.alen s0 rfl ?_
    refine jT.icmp (a := 14) (b := 14) rfl ⟨by omega, by omega⟩ ⟨by omega, by omega⟩ (fun _ => ?_) (fun c => ?_)
    · exact mj_T.ret rfl rfl rfl ⟨rfl, (s0.full o1 ⟨by decide, by decide⟩ rfl o2 hf).done (jCf.obj 16 (by decide) o0 rfl rfl (fun i cd hi => by
        match i, hi with
        | 0, hi => cases hi; exact ⟨_, rfl, jfv.ref (by decide) q0⟩
        | 1, hi => cases hi; exact ⟨_, rfl, jfv.ref (by decide) q1⟩
        | 2, hi => cases hi; exact ⟨_, rfl, jfv_mk (x := 0) rfl (by decide) (by decide)⟩
        | 3, hi => cases hi; exact ⟨_, rfl, jfv.ref (by decide) q3⟩
        | 4, hi => cases hi; exact ⟨_, rfl, jfv.ref (by decide) q4⟩
        | 5, hi => cases hi; exact ⟨_, rfl, jfv.ref (by decide) q5⟩
        | i + 6, hi => exact absurd hi (by simp [jfs])))⟩
    · exact absurd c (by decide)
  | succ d ih =>
    intro i f h hd hf s0
    obtain ⟨p1, p2⟩ := o6 i (by omega)
    obtain ⟨g1, g2⟩ := jst_s i (by omega)
    have ee : n + jst i + 1 + 3 + 2 * jsk i = n + jst (i + 1) := by omega
    have hfn : ∀ j, j < i + 1 → updV f i (.ref (n + jst i)) j = .ref (R n j) := by
      intro j hj
      unfold updV
      split
      · rename_i q
        subst q
        rw [p1]
      · exact hf j (by omega)
    iterate 2 refine mj_T.pl rfl rfl rfl rfl ?_
    refine jCS.get s0 rfl rfl ?_
    refine jCS.alen s0 rfl ?_
    refine jT.icmp (a := (i : Int)) (b := 14) rfl ⟨by omega, by omega⟩ ⟨by omega, by omega⟩ (fun c => ?_) (fun _ => ?_)
    · have c := of_decide_eq_true c
      omega
    refine mj_T.pl rfl rfl rfl rfl ?_
    refine jCS.get s0 rfl rfl ?_
    iterate 3 refine mj_T.pl rfl rfl rfl rfl ?_
    refine jT.icmp (a := (i : Int)) (b := 2) rfl ⟨by omega, by omega⟩ ⟨by omega, by omega⟩ (fun c => ?_) (fun c => ?_)
    · have c := of_decide_eq_true c
      have e1 : jsk i = 14 - i := by unfold jsk; rw [if_neg (by omega)]
      have e2 : jss i = 56 := by unfold jss; rw [if_neg (by omega)]
      have e3 : jsu i = 4 := by unfold jsu; rw [if_neg (by omega)]
      refine jCS.new (n := n + jst i) s0 rfl ?_
      iterate 3 refine mj_T.pl rfl rfl rfl rfl ?_
      refine mj_T.isub rfl ?_
      refine mj_T.eq (st2 := [.int (jn ((jsk i : Nat) : Int)), .ref (n + jst i), .ref (n + jst i), .int (jn (i : Int)), .ref n]) ?_ rfl rfl (by rw [e1, show ((14 - i : Nat) : Int) = 14 - (i : Int) by omega]) rfl
      iterate 2 refine mj_T.pl rfl rfl rfl rfl ?_
      refine mj_T.eq (st2 := [.int (jn ((jsu i : Nat) : Int)), .int (jn ((jss i : Nat) : Int)), .int (jn ((jsk i : Nat) : Int)), .ref (n + jst i), .ref (n + jst i), .int (jn (i : Int)), .ref n]) ?_ rfl rfl (by rw [e2, e3]; rfl) rfl
      refine jCS.call (n := n + jst i) (N := n + jst i + 1 + 3 + 2 * jsk i) s0 rfl rfl (Nat.le_of_ble_eq_true rfl) (Nat.le_of_ble_eq_true rfl) rfl rfl (fun e1 e2 => jk_35 (D := D) e2 e1 p2) rfl (fun h1 s1 => ?_)
      rw [ee] at s1
      refine jCS.aast (kv := 13) s1 rfl ⟨by omega, by omega, by omega⟩ p2.1 (by decide) rfl (by omega) (by decide) (fun h2 s2 => ?_)
      refine mj_T.iinc (a := (i : Int)) rfl rfl ?_
      refine mj_T.pl rfl rfl rfl rfl ?_
      exact ih (i + 1) (by omega) hfn s2
    · have c := of_decide_eq_false c
      have e1 : jsk i = 13 := by unfold jsk; rw [if_pos (by omega)]
      have e2 : jss i = 30 := by unfold jss; rw [if_pos (by omega)]
      have e3 : jsu i = 2 := by unfold jsu; rw [if_pos (by omega)]
      refine jCS.new (n := n + jst i) s0 rfl ?_
      iterate 4 refine mj_T.pl rfl rfl rfl rfl ?_
      refine mj_T.eq (st2 := [.int (jn ((jsu i : Nat) : Int)), .int (jn ((jss i : Nat) : Int)), .int (jn ((jsk i : Nat) : Int)), .ref (n + jst i), .ref (n + jst i), .int (jn (i : Int)), .ref n]) ?_ rfl rfl (by rw [e1, e2, e3]; rfl) rfl
      refine jCS.call (n := n + jst i) (N := n + jst i + 1 + 3 + 2 * jsk i) s0 rfl rfl (Nat.le_of_ble_eq_true rfl) (Nat.le_of_ble_eq_true rfl) rfl rfl (fun e1 e2 => jk_35 (D := D) e2 e1 p2) rfl (fun h1 s1 => ?_)
      rw [ee] at s1
      refine mj_T.pl rfl rfl rfl rfl ?_
      refine jCS.aast (kv := 13) s1 rfl ⟨by omega, by omega, by omega⟩ p2.1 (by decide) rfl (by omega) (by decide) (fun h2 s2 => ?_)
      refine mj_T.iinc (a := (i : Int)) rfl rfl ?_
      refine mj_T.pl rfl rfl rfl rfl ?_
      exact ih (i + 1) (by omega) hfn s2
theorem jk_67 {D n a : Nat} {h0 : mj_H} {K L : Nat → Nat} {R : Nat → Nat → Nat} {dd : Nat} (ha : h0[a]? = some (.inr (6, [.null, .null, .int 0, .null, .null, .null]))) (hn : h0.length = n) (o : okS K L R a n dd) : mj_Ok (D + 3) 67 [.ref a, .ref dd] h0 (jDr K L R 0 h0 a (n + jst 14)) := by
  have ok := o
  obtain ⟨o0, q, o1, o2, o3, o4, o5, o6⟩ := o
  have s0 := jCS.beg (K := K) (L := L) (R := R) (tm := 0) ha hn
  refine mj_Ok.of (M := mj_m67) (loc := [some (.ref a), some (.ref dd), none]) rfl rfl rfl ?_
  refine mj_T.pl rfl rfl rfl rfl ?_
  refine mj_T.prim rfl rfl rfl ?_
  iterate 2 refine mj_T.pl rfl rfl rfl rfl ?_
  refine jCS.arrO (n := n) 14 s0 rfl (by decide) (fun h11 s11 => ?_)
  refine jCS.put s11 rfl (Nat.le_of_ble_eq_true rfl) rfl (fun h12 s12 => ?_)
  refine mj_T.pl rfl rfl rfl rfl ?_
  refine jCS.new (n := n + 1) s12 rfl ?_
  iterate 2 refine mj_T.pl rfl rfl rfl rfl ?_
  refine jCS.call (n := n + 1) (N := n + 3) s12 rfl rfl (Nat.le_of_ble_eq_true rfl) (Nat.le_of_ble_eq_true rfl) rfl rfl (fun e1 e2 => jk_85 (D := D + 1) (x := 60) e2 e1 o3) rfl (fun h13 s13 => ?_)
  refine jCS.put s13 rfl (Nat.le_of_ble_eq_true rfl) rfl (fun h14 s14 => ?_)
  refine mj_T.pl rfl rfl rfl rfl ?_
  refine jCS.new (n := n + 3) s14 rfl ?_
  iterate 2 refine mj_T.pl rfl rfl rfl rfl ?_
  refine jCS.call (n := n + 3) (N := n + 5) s14 rfl rfl (Nat.le_of_ble_eq_true rfl) (Nat.le_of_ble_eq_true rfl) rfl rfl (fun e1 e2 => jk_85 (D := D + 1) (x := 60) e2 e1 o4) rfl (fun h15 s15 => ?_)
  refine jCS.put s15 rfl (Nat.le_of_ble_eq_true rfl) rfl (fun h16 s16 => ?_)
  refine mj_T.pl rfl rfl rfl rfl ?_
  refine jCS.new (n := n + 5) s16 rfl ?_
  iterate 2 refine mj_T.pl rfl rfl rfl rfl ?_
  refine jCS.call (n := n + 5) (N := n + 7) s16 rfl rfl (Nat.le_of_ble_eq_true rfl) (Nat.le_of_ble_eq_true rfl) rfl rfl (fun e1 e2 => jk_85 (D := D + 1) (x := 3) e2 e1 o5) rfl (fun h17 s17 => ?_)
  refine jCS.put s17 rfl (Nat.le_of_ble_eq_true rfl) rfl (fun h18 s18 => ?_)
  iterate 2 refine mj_T.pl rfl rfl rfl rfl ?_
  refine jCS.put s18 rfl (Nat.le_of_ble_eq_true rfl) rfl (fun h19 s19 => ?_)
  iterate 2 refine mj_T.pl rfl rfl rfl rfl ?_
  exact jk_67l hn ok 14 0 rfl (fun j hj => absurd hj (by omega)) s19
theorem jk_58 {D n a : Nat} {h0 : mj_H} {K L : Nat → Nat} {R : Nat → Nat → Nat} {dd u : Nat} (ha : h0[a]? = some (.inr (5, [.null, .null, .int 0, .int 0, .int 0, .long 0, .null, .int 0, .null, .null, .null, .null]))) (hn : h0.length = n) (o : okR K L R a n dd u) : mj_Ok (D + 2) 58 [.ref a, .ref dd, .ref u] h0 (jDr K L R 0 h0 a (n + 10)) := by
  obtain ⟨o0, ⟨q0, q1, q6, q8, q9, q10, q11⟩, w0, w1, w2, w3, w4⟩ := o
  have s0 := jCS.beg (K := K) (L := L) (R := R) (tm := 0) ha hn
  refine mj_Ok.of (M := mj_m58) (loc := [some (.ref a), some (.ref dd), some (.ref u)]) rfl rfl rfl ?_
  refine mj_T.pl rfl rfl rfl rfl ?_
  refine mj_T.prim rfl rfl rfl ?_
  refine mj_T.pl rfl rfl rfl rfl ?_
  refine jCS.new (n := n) s0 rfl ?_
  iterate 2 refine mj_T.pl rfl rfl rfl rfl ?_
  refine jCS.call (n := n) (N := n + 2) s0 rfl rfl (Nat.le_of_ble_eq_true rfl) (Nat.le_of_ble_eq_true rfl) rfl rfl (fun e1 e2 => jk_85 (D := D) (x := 12) e2 e1 w0) rfl (fun h11 s11 => ?_)
  refine jCS.put s11 rfl (Nat.le_of_ble_eq_true rfl) rfl (fun h12 s12 => ?_)
  refine mj_T.pl rfl rfl rfl rfl ?_
  refine jCS.new (n := n + 2) s12 rfl ?_
  iterate 2 refine mj_T.pl rfl rfl rfl rfl ?_
  refine jCS.call (n := n + 2) (N := n + 4) s12 rfl rfl (Nat.le_of_ble_eq_true rfl) (Nat.le_of_ble_eq_true rfl) rfl rfl (fun e1 e2 => jk_85 (D := D) (x := 12) e2 e1 w1) rfl (fun h13 s13 => ?_)
  refine jCS.put s13 rfl (Nat.le_of_ble_eq_true rfl) rfl (fun h14 s14 => ?_)
  refine mj_T.pl rfl rfl rfl rfl ?_
  refine jCS.new (n := n + 4) s14 rfl ?_
  iterate 2 refine mj_T.pl rfl rfl rfl rfl ?_
  refine jCS.call (n := n + 4) (N := n + 6) s14 rfl rfl (Nat.le_of_ble_eq_true rfl) (Nat.le_of_ble_eq_true rfl) rfl rfl (fun e1 e2 => jk_85 (D := D) (x := 12) e2 e1 w2) rfl (fun h15 s15 => ?_)
  refine jCS.put s15 rfl (Nat.le_of_ble_eq_true rfl) rfl (fun h16 s16 => ?_)
  refine mj_T.pl rfl rfl rfl rfl ?_
  refine jCS.new (n := n + 6) s16 rfl ?_
  iterate 2 refine mj_T.pl rfl rfl rfl rfl ?_
  refine jCS.call (n := n + 6) (N := n + 8) s16 rfl rfl (Nat.le_of_ble_eq_true rfl) (Nat.le_of_ble_eq_true rfl) rfl rfl (fun e1 e2 => jk_85 (D := D) (x := 12) e2 e1 w3) rfl (fun h17 s17 => ?_)
  refine jCS.put s17 rfl (Nat.le_of_ble_eq_true rfl) rfl (fun h18 s18 => ?_)
  refine mj_T.pl rfl rfl rfl rfl ?_
  refine jCS.new (n := n + 8) s18 rfl ?_
  iterate 2 refine mj_T.pl rfl rfl rfl rfl ?_
  refine jCS.call (n := n + 8) (N := n + 10) s18 rfl rfl (Nat.le_of_ble_eq_true rfl) (Nat.le_of_ble_eq_true rfl) rfl rfl (fun e1 e2 => jk_85 (D := D) (x := 1) e2 e1 w4) rfl (fun h19 s19 => ?_)
  refine jCS.put s19 rfl (Nat.le_of_ble_eq_true rfl) rfl (fun h20 s20 => ?_)
  iterate 2 refine mj_T.pl rfl rfl rfl rfl ?_
  refine jCS.put s20 rfl (Nat.le_of_ble_eq_true rfl) rfl (fun h21 s21 => ?_)
  iterate 2 refine mj_T.pl rfl rfl rfl rfl ?_
  refine jCS.put s21 rfl (Nat.le_of_ble_eq_true rfl) rfl (fun h22 s22 => ?_)
  refine mj_T.pl rfl rfl rfl rfl ?_
  refine jCS.get s22 rfl rfl ?_
  refine mj_T.pl rfl rfl rfl rfl ?_
  refine jCS.setL (w := n + 8) (x := 1) (z := 1) s22 rfl rfl (Nat.le_of_ble_eq_true rfl) rfl ⟨by decide, by decide⟩ ⟨by omega, by omega⟩ w4 (fun h9 s9 => ?_)
  exact mj_T.ret rfl rfl rfl ⟨rfl, s9.done (jCf.obj 15 (by decide) o0 rfl rfl (fun i cd hi => by
        match i, hi with
        | 0, hi => cases hi; exact ⟨_, rfl, jfv.ref (by decide) q0⟩
        | 1, hi => cases hi; exact ⟨_, rfl, jfv.ref (by decide) q1⟩
        | 2, hi => cases hi; exact ⟨_, rfl, jfv_mk (x := 0) rfl (by decide) (by decide)⟩
        | 3, hi => cases hi; exact ⟨_, rfl, jfv_mk (x := 0) rfl (by decide) (by decide)⟩
        | 4, hi => cases hi; exact ⟨_, rfl, jfv_mk (x := 0) rfl (by decide) (by decide)⟩
        | 5, hi => cases hi; exact ⟨_, rfl, jfv.long (x := 0) ⟨by decide, by decide⟩⟩
        | 6, hi => cases hi; exact ⟨_, rfl, jfv.ref (by decide) q6⟩
        | 7, hi => cases hi; exact ⟨_, rfl, jfv_mk (x := 0) rfl (by decide) (by decide)⟩
        | 8, hi => cases hi; exact ⟨_, rfl, jfv.ref (by decide) q8⟩
        | 9, hi => cases hi; exact ⟨_, rfl, jfv.ref (by decide) q9⟩
        | 10, hi => cases hi; exact ⟨_, rfl, jfv.ref (by decide) q10⟩
        | 11, hi => cases hi; exact ⟨_, rfl, jfv.ref (by decide) q11⟩
        | i + 12, hi => exact absurd hi (by simp [jfs])))⟩
theorem jk_45 {D n a : Nat} {h0 : mj_H} {K L : Nat → Nat} {R : Nat → Nat → Nat} {dd u : Nat} (ha : h0[a]? = some (.inr (4, [.null, .null, .int 0, .int 0, .int 0, .null, .null, .null]))) (hn : h0.length = n) (o : okE K L R a n dd u) : mj_Ok (D + 1) 45 [.ref a, .ref dd, .ref u] h0 (jDr K L R 0 h0 a (n + 21)) := by
  obtain ⟨o0, ⟨q0, q1, q5, q6, q7⟩, ⟨m0, m1, m2⟩, ⟨m3, m4, m5⟩, l0, l1⟩ := o
  have s0 := jCS.beg (K := K) (L := L) (R := R) (tm := 0) ha hn
  refine mj_Ok.of (M := mj_m45) (loc := [some (.ref a), some (.ref dd), some (.ref u)]) rfl rfl rfl ?_
  refine mj_T.pl rfl rfl rfl rfl ?_
  refine mj_T.prim rfl rfl rfl ?_
  iterate 2 refine mj_T.pl rfl rfl rfl rfl ?_
  refine jCS.put s0 rfl (Nat.le_of_ble_eq_true rfl) rfl (fun h11 s11 => ?_)
  iterate 3 refine mj_T.pl rfl rfl rfl rfl ?_
  refine jCS.rows (n := n) 9 s11 rfl (by decide) m0 m1 m2 (fun h12 s12 => ?_)
  refine jCS.put s12 rfl (Nat.le_of_ble_eq_true rfl) rfl (fun h13 s13 => ?_)
  iterate 3 refine mj_T.pl rfl rfl rfl rfl ?_
  refine jCS.rows (n := n + 10) 9 s13 rfl (by decide) m3 m4 m5 (fun h14 s14 => ?_)
  refine jCS.put s14 rfl (Nat.le_of_ble_eq_true rfl) rfl (fun h15 s15 => ?_)
  iterate 2 refine mj_T.pl rfl rfl rfl rfl ?_
  refine jCS.arr (n := n + 20) (x := 13) 2 s15 rfl (Or.inr (Or.inl rfl)) rfl ⟨by decide, by decide⟩ l0 (by rw [l1]; rfl) (fun h16 s16 => ?_)
  refine jCS.put s16 rfl (Nat.le_of_ble_eq_true rfl) rfl (fun h17 s17 => ?_)
  iterate 2 refine mj_T.pl rfl rfl rfl rfl ?_
  refine jCS.put s17 rfl (Nat.le_of_ble_eq_true rfl) rfl (fun h18 s18 => ?_)
  iterate 2 refine mj_T.pl rfl rfl rfl rfl ?_
  refine jCS.put s18 rfl (Nat.le_of_ble_eq_true rfl) rfl (fun h19 s19 => ?_)
  exact mj_T.ret rfl rfl rfl ⟨rfl, s19.done (jCf.obj 14 (by decide) o0 rfl rfl (fun i cd hi => by
        match i, hi with
        | 0, hi => cases hi; exact ⟨_, rfl, jfv.ref (by decide) q0⟩
        | 1, hi => cases hi; exact ⟨_, rfl, jfv.txt q1⟩
        | 2, hi => cases hi; exact ⟨_, rfl, jfv_mk (x := 0) rfl (by decide) (by decide)⟩
        | 3, hi => cases hi; exact ⟨_, rfl, jfv_mk (x := -1) rfl (by decide) (by decide)⟩
        | 4, hi => cases hi; exact ⟨_, rfl, jfv_mk (x := 0) rfl (by decide) (by decide)⟩
        | 5, hi => cases hi; exact ⟨_, rfl, jfv.ref (by decide) q5⟩
        | 6, hi => cases hi; exact ⟨_, rfl, jfv.ref (by decide) q6⟩
        | 7, hi => cases hi; exact ⟨_, rfl, jfv.ref (by decide) q7⟩
        | i + 8, hi => exact absurd hi (by simp [jfs])))⟩
/-! The class's cells as they lie in the law's heap: place by place its kind, its length, what it holds. -/
def jdT0 : Lean.RArray (Nat × Nat × List Nat) := .branch 17 (.branch 8 (.branch 4 (.branch 2 (.branch 1 (.leaf (0, 0, [])) (.leaf (19, 0, [2, 12, 0, 0, 13, 15, 17, 19, 172, 444, 455, 477, 479, 481, 482]))) (.branch 3 (.leaf (10, 0, [3, 10, 11])) (.leaf (6, 6, [4, 5, 6, 7, 8, 9])))) (.branch 6 (.branch 5 (.leaf (2, 13, [])) (.leaf (2, 13, []))) (.branch 7 (.leaf (2, 13, [])) (.leaf (2, 13, []))))) (.branch 12 (.branch 10 (.branch 9 (.leaf (2, 13, [])) (.leaf (2, 13, []))) (.branch 11 (.leaf (1, 6, [])) (.leaf (1, 6, [])))) (.branch 14 (.branch 13 (.leaf (7, 8, [483, 493, 503, 513, 523, 533, 543, 553])) (.leaf (27, 0, [14]))) (.branch 15 (.leaf (3, 200, [])) (.branch 16 (.leaf (17, 0, [16])) (.leaf (3, 340, []))))))) (.branch 26 (.branch 21 (.branch 19 (.branch 18 (.leaf (17, 0, [18])) (.leaf (3, 340, []))) (.branch 20 (.leaf (11, 0, [20, 50, 80, 110, 164, 166, 168, 170])) (.leaf (13, 0, [23, 21])))) (.branch 23 (.branch 22 (.leaf (18, 0, [22])) (.leaf (1, 1, []))) (.branch 24 (.leaf (4, 13, [24, 26, 28, 30, 32, 34, 36, 38, 40, 42, 44, 46, 48])) (.branch 25 (.leaf (18, 0, [25])) (.leaf (1, 30, [])))))) (.branch 30 (.branch 28 (.branch 27 (.leaf (18, 0, [27])) (.leaf (1, 30, []))) (.branch 29 (.leaf (18, 0, [29])) (.leaf (1, 30, [])))) (.branch 32 (.branch 31 (.leaf (18, 0, [31])) (.leaf (1, 30, []))) (.branch 33 (.leaf (18, 0, [33])) (.branch 34 (.leaf (1, 30, [])) (.leaf (18, 0, [35])))))))
def jdT1 : Lean.RArray (Nat × Nat × List Nat) := .branch 52 (.branch 43 (.branch 39 (.branch 37 (.branch 36 (.leaf (1, 30, [])) (.leaf (18, 0, [37]))) (.branch 38 (.leaf (1, 30, [])) (.leaf (18, 0, [39])))) (.branch 41 (.branch 40 (.leaf (1, 30, [])) (.leaf (18, 0, [41]))) (.branch 42 (.leaf (1, 30, [])) (.leaf (18, 0, [43]))))) (.branch 47 (.branch 45 (.branch 44 (.leaf (1, 30, [])) (.leaf (18, 0, [45]))) (.branch 46 (.leaf (1, 30, [])) (.leaf (18, 0, [47])))) (.branch 49 (.branch 48 (.leaf (1, 30, [])) (.leaf (18, 0, [49]))) (.branch 50 (.leaf (1, 30, [])) (.branch 51 (.leaf (13, 0, [53, 51])) (.leaf (18, 0, [52]))))))) (.branch 61 (.branch 56 (.branch 54 (.branch 53 (.leaf (1, 1, [])) (.leaf (4, 13, [54, 56, 58, 60, 62, 64, 66, 68, 70, 72, 74, 76, 78]))) (.branch 55 (.leaf (18, 0, [55])) (.leaf (1, 30, [])))) (.branch 58 (.branch 57 (.leaf (18, 0, [57])) (.leaf (1, 30, []))) (.branch 59 (.leaf (18, 0, [59])) (.branch 60 (.leaf (1, 30, [])) (.leaf (18, 0, [61])))))) (.branch 65 (.branch 63 (.branch 62 (.leaf (1, 30, [])) (.leaf (18, 0, [63]))) (.branch 64 (.leaf (1, 30, [])) (.leaf (18, 0, [65])))) (.branch 67 (.branch 66 (.leaf (1, 30, [])) (.leaf (18, 0, [67]))) (.branch 68 (.leaf (1, 30, [])) (.branch 69 (.leaf (18, 0, [69])) (.leaf (1, 30, [])))))))
def jdT2 : Lean.RArray (Nat × Nat × List Nat) := .branch 87 (.branch 78 (.branch 74 (.branch 72 (.branch 71 (.leaf (18, 0, [71])) (.leaf (1, 30, []))) (.branch 73 (.leaf (18, 0, [73])) (.leaf (1, 30, [])))) (.branch 76 (.branch 75 (.leaf (18, 0, [75])) (.leaf (1, 30, []))) (.branch 77 (.leaf (18, 0, [77])) (.leaf (1, 30, []))))) (.branch 82 (.branch 80 (.branch 79 (.leaf (18, 0, [79])) (.leaf (1, 30, []))) (.branch 81 (.leaf (13, 0, [83, 81])) (.leaf (18, 0, [82])))) (.branch 84 (.branch 83 (.leaf (1, 1, [])) (.leaf (4, 13, [84, 86, 88, 90, 92, 94, 96, 98, 100, 102, 104, 106, 108]))) (.branch 85 (.leaf (18, 0, [85])) (.branch 86 (.leaf (1, 236, [])) (.leaf (18, 0, [87]))))))) (.branch 96 (.branch 91 (.branch 89 (.branch 88 (.leaf (1, 236, [])) (.leaf (18, 0, [89]))) (.branch 90 (.leaf (1, 236, [])) (.leaf (18, 0, [91])))) (.branch 93 (.branch 92 (.leaf (1, 236, [])) (.leaf (18, 0, [93]))) (.branch 94 (.leaf (1, 236, [])) (.branch 95 (.leaf (18, 0, [95])) (.leaf (1, 236, [])))))) (.branch 100 (.branch 98 (.branch 97 (.leaf (18, 0, [97])) (.leaf (1, 236, []))) (.branch 99 (.leaf (18, 0, [99])) (.leaf (1, 236, [])))) (.branch 102 (.branch 101 (.leaf (18, 0, [101])) (.leaf (1, 236, []))) (.branch 103 (.leaf (18, 0, [103])) (.branch 104 (.leaf (1, 236, [])) (.leaf (18, 0, [105])))))))
def jdT3 : Lean.RArray (Nat × Nat × List Nat) := .branch 122 (.branch 113 (.branch 109 (.branch 107 (.branch 106 (.leaf (1, 236, [])) (.leaf (18, 0, [107]))) (.branch 108 (.leaf (1, 236, [])) (.leaf (18, 0, [109])))) (.branch 111 (.branch 110 (.leaf (1, 236, [])) (.leaf (13, 0, [113, 111]))) (.branch 112 (.leaf (18, 0, [112])) (.leaf (1, 1, []))))) (.branch 117 (.branch 115 (.branch 114 (.leaf (4, 25, [114, 116, 118, 120, 122, 124, 126, 128, 130, 132, 134, 136, 138, 140, 142, 144, 146, 148, 150, 152, 154, 156, 158, 160, 162])) (.leaf (18, 0, [115]))) (.branch 116 (.leaf (1, 6, [])) (.leaf (18, 0, [117])))) (.branch 119 (.branch 118 (.leaf (1, 6, [])) (.leaf (18, 0, [119]))) (.branch 120 (.leaf (1, 6, [])) (.branch 121 (.leaf (18, 0, [121])) (.leaf (1, 6, []))))))) (.branch 131 (.branch 126 (.branch 124 (.branch 123 (.leaf (18, 0, [123])) (.leaf (1, 6, []))) (.branch 125 (.leaf (18, 0, [125])) (.leaf (1, 6, [])))) (.branch 128 (.branch 127 (.leaf (18, 0, [127])) (.leaf (1, 6, []))) (.branch 129 (.leaf (18, 0, [129])) (.branch 130 (.leaf (1, 6, [])) (.leaf (18, 0, [131])))))) (.branch 135 (.branch 133 (.branch 132 (.leaf (1, 6, [])) (.leaf (18, 0, [133]))) (.branch 134 (.leaf (1, 6, [])) (.leaf (18, 0, [135])))) (.branch 137 (.branch 136 (.leaf (1, 6, [])) (.leaf (18, 0, [137]))) (.branch 138 (.leaf (1, 6, [])) (.branch 139 (.leaf (18, 0, [139])) (.leaf (1, 6, [])))))))
def jdT4 : Lean.RArray (Nat × Nat × List Nat) := .branch 157 (.branch 148 (.branch 144 (.branch 142 (.branch 141 (.leaf (18, 0, [141])) (.leaf (1, 6, []))) (.branch 143 (.leaf (18, 0, [143])) (.leaf (1, 6, [])))) (.branch 146 (.branch 145 (.leaf (18, 0, [145])) (.leaf (1, 6, []))) (.branch 147 (.leaf (18, 0, [147])) (.leaf (1, 6, []))))) (.branch 152 (.branch 150 (.branch 149 (.leaf (18, 0, [149])) (.leaf (1, 6, []))) (.branch 151 (.leaf (18, 0, [151])) (.leaf (1, 6, [])))) (.branch 154 (.branch 153 (.leaf (18, 0, [153])) (.leaf (1, 6, []))) (.branch 155 (.leaf (18, 0, [155])) (.branch 156 (.leaf (1, 6, [])) (.leaf (18, 0, [157]))))))) (.branch 166 (.branch 161 (.branch 159 (.branch 158 (.leaf (1, 6, [])) (.leaf (18, 0, [159]))) (.branch 160 (.leaf (1, 6, [])) (.leaf (18, 0, [161])))) (.branch 163 (.branch 162 (.leaf (1, 6, [])) (.leaf (18, 0, [163]))) (.branch 164 (.leaf (1, 6, [])) (.branch 165 (.leaf (18, 0, [165])) (.leaf (1, 240, [])))))) (.branch 170 (.branch 168 (.branch 167 (.leaf (18, 0, [167])) (.leaf (1, 240, []))) (.branch 169 (.leaf (18, 0, [169])) (.leaf (1, 40, [])))) (.branch 172 (.branch 171 (.leaf (12, 0, [171])) (.leaf (1, 60, []))) (.branch 173 (.leaf (16, 0, [19, 173, 0, 174, 176, 178])) (.branch 174 (.leaf (5, 14, [180, 210, 240, 268, 294, 318, 340, 360, 378, 394, 408, 420, 430, 438])) (.leaf (18, 0, [175])))))))
def jdT5 : Lean.RArray (Nat × Nat × List Nat) := .branch 193 (.branch 184 (.branch 179 (.branch 177 (.branch 176 (.leaf (1, 60, [])) (.leaf (18, 0, [177]))) (.branch 178 (.leaf (1, 60, [])) (.leaf (18, 0, [179])))) (.branch 181 (.branch 180 (.leaf (1, 3, [])) (.leaf (13, 0, [183, 181]))) (.branch 182 (.leaf (18, 0, [182])) (.branch 183 (.leaf (1, 1, [])) (.leaf (4, 13, [184, 186, 188, 190, 192, 194, 196, 198, 200, 202, 204, 206, 208])))))) (.branch 188 (.branch 186 (.branch 185 (.leaf (18, 0, [185])) (.leaf (1, 30, []))) (.branch 187 (.leaf (18, 0, [187])) (.leaf (1, 28, [])))) (.branch 190 (.branch 189 (.leaf (18, 0, [189])) (.leaf (1, 26, []))) (.branch 191 (.leaf (18, 0, [191])) (.branch 192 (.leaf (1, 24, [])) (.leaf (18, 0, [193]))))))) (.branch 202 (.branch 197 (.branch 195 (.branch 194 (.leaf (1, 22, [])) (.leaf (18, 0, [195]))) (.branch 196 (.leaf (1, 20, [])) (.leaf (18, 0, [197])))) (.branch 199 (.branch 198 (.leaf (1, 18, [])) (.leaf (18, 0, [199]))) (.branch 200 (.leaf (1, 16, [])) (.branch 201 (.leaf (18, 0, [201])) (.leaf (1, 14, [])))))) (.branch 206 (.branch 204 (.branch 203 (.leaf (18, 0, [203])) (.leaf (1, 12, []))) (.branch 205 (.leaf (18, 0, [205])) (.leaf (1, 10, [])))) (.branch 208 (.branch 207 (.leaf (18, 0, [207])) (.leaf (1, 8, []))) (.branch 209 (.leaf (18, 0, [209])) (.branch 210 (.leaf (1, 6, [])) (.leaf (13, 0, [213, 211])))))))
def jdT6 : Lean.RArray (Nat × Nat × List Nat) := .branch 228 (.branch 219 (.branch 215 (.branch 213 (.branch 212 (.leaf (18, 0, [212])) (.leaf (1, 1, []))) (.branch 214 (.leaf (4, 13, [214, 216, 218, 220, 222, 224, 226, 228, 230, 232, 234, 236, 238])) (.leaf (18, 0, [215])))) (.branch 217 (.branch 216 (.leaf (1, 30, [])) (.leaf (18, 0, [217]))) (.branch 218 (.leaf (1, 28, [])) (.leaf (18, 0, [219]))))) (.branch 223 (.branch 221 (.branch 220 (.leaf (1, 26, [])) (.leaf (18, 0, [221]))) (.branch 222 (.leaf (1, 24, [])) (.leaf (18, 0, [223])))) (.branch 225 (.branch 224 (.leaf (1, 22, [])) (.leaf (18, 0, [225]))) (.branch 226 (.leaf (1, 20, [])) (.branch 227 (.leaf (18, 0, [227])) (.leaf (1, 18, []))))))) (.branch 237 (.branch 232 (.branch 230 (.branch 229 (.leaf (18, 0, [229])) (.leaf (1, 16, []))) (.branch 231 (.leaf (18, 0, [231])) (.leaf (1, 14, [])))) (.branch 234 (.branch 233 (.leaf (18, 0, [233])) (.leaf (1, 12, []))) (.branch 235 (.leaf (18, 0, [235])) (.branch 236 (.leaf (1, 10, [])) (.leaf (18, 0, [237])))))) (.branch 241 (.branch 239 (.branch 238 (.leaf (1, 8, [])) (.leaf (18, 0, [239]))) (.branch 240 (.leaf (1, 6, [])) (.leaf (13, 0, [243, 241])))) (.branch 243 (.branch 242 (.leaf (18, 0, [242])) (.leaf (1, 1, []))) (.branch 244 (.leaf (4, 12, [244, 246, 248, 250, 252, 254, 256, 258, 260, 262, 264, 266])) (.branch 245 (.leaf (18, 0, [245])) (.leaf (1, 56, [])))))))
def jdT7 : Lean.RArray (Nat × Nat × List Nat) := .branch 263 (.branch 254 (.branch 250 (.branch 248 (.branch 247 (.leaf (18, 0, [247])) (.leaf (1, 52, []))) (.branch 249 (.leaf (18, 0, [249])) (.leaf (1, 48, [])))) (.branch 252 (.branch 251 (.leaf (18, 0, [251])) (.leaf (1, 44, []))) (.branch 253 (.leaf (18, 0, [253])) (.leaf (1, 40, []))))) (.branch 258 (.branch 256 (.branch 255 (.leaf (18, 0, [255])) (.leaf (1, 36, []))) (.branch 257 (.leaf (18, 0, [257])) (.leaf (1, 32, [])))) (.branch 260 (.branch 259 (.leaf (18, 0, [259])) (.leaf (1, 28, []))) (.branch 261 (.leaf (18, 0, [261])) (.branch 262 (.leaf (1, 24, [])) (.leaf (18, 0, [263]))))))) (.branch 272 (.branch 267 (.branch 265 (.branch 264 (.leaf (1, 20, [])) (.leaf (18, 0, [265]))) (.branch 266 (.leaf (1, 16, [])) (.leaf (18, 0, [267])))) (.branch 269 (.branch 268 (.leaf (1, 12, [])) (.leaf (13, 0, [271, 269]))) (.branch 270 (.leaf (18, 0, [270])) (.branch 271 (.leaf (1, 1, [])) (.leaf (4, 11, [272, 274, 276, 278, 280, 282, 284, 286, 288, 290, 292])))))) (.branch 276 (.branch 274 (.branch 273 (.leaf (18, 0, [273])) (.leaf (1, 56, []))) (.branch 275 (.leaf (18, 0, [275])) (.leaf (1, 52, [])))) (.branch 278 (.branch 277 (.leaf (18, 0, [277])) (.leaf (1, 48, []))) (.branch 279 (.leaf (18, 0, [279])) (.branch 280 (.leaf (1, 44, [])) (.leaf (18, 0, [281])))))))
def jdT8 : Lean.RArray (Nat × Nat × List Nat) := .branch 298 (.branch 289 (.branch 285 (.branch 283 (.branch 282 (.leaf (1, 40, [])) (.leaf (18, 0, [283]))) (.branch 284 (.leaf (1, 36, [])) (.leaf (18, 0, [285])))) (.branch 287 (.branch 286 (.leaf (1, 32, [])) (.leaf (18, 0, [287]))) (.branch 288 (.leaf (1, 28, [])) (.leaf (18, 0, [289]))))) (.branch 293 (.branch 291 (.branch 290 (.leaf (1, 24, [])) (.leaf (18, 0, [291]))) (.branch 292 (.leaf (1, 20, [])) (.leaf (18, 0, [293])))) (.branch 295 (.branch 294 (.leaf (1, 16, [])) (.leaf (13, 0, [297, 295]))) (.branch 296 (.leaf (18, 0, [296])) (.branch 297 (.leaf (1, 1, [])) (.leaf (4, 10, [298, 300, 302, 304, 306, 308, 310, 312, 314, 316]))))))) (.branch 307 (.branch 302 (.branch 300 (.branch 299 (.leaf (18, 0, [299])) (.leaf (1, 56, []))) (.branch 301 (.leaf (18, 0, [301])) (.leaf (1, 52, [])))) (.branch 304 (.branch 303 (.leaf (18, 0, [303])) (.leaf (1, 48, []))) (.branch 305 (.leaf (18, 0, [305])) (.branch 306 (.leaf (1, 44, [])) (.leaf (18, 0, [307])))))) (.branch 311 (.branch 309 (.branch 308 (.leaf (1, 40, [])) (.leaf (18, 0, [309]))) (.branch 310 (.leaf (1, 36, [])) (.leaf (18, 0, [311])))) (.branch 313 (.branch 312 (.leaf (1, 32, [])) (.leaf (18, 0, [313]))) (.branch 314 (.leaf (1, 28, [])) (.branch 315 (.leaf (18, 0, [315])) (.leaf (1, 24, [])))))))
def jdT9 : Lean.RArray (Nat × Nat × List Nat) := .branch 333 (.branch 324 (.branch 320 (.branch 318 (.branch 317 (.leaf (18, 0, [317])) (.leaf (1, 20, []))) (.branch 319 (.leaf (13, 0, [321, 319])) (.leaf (18, 0, [320])))) (.branch 322 (.branch 321 (.leaf (1, 1, [])) (.leaf (4, 9, [322, 324, 326, 328, 330, 332, 334, 336, 338]))) (.branch 323 (.leaf (18, 0, [323])) (.leaf (1, 56, []))))) (.branch 328 (.branch 326 (.branch 325 (.leaf (18, 0, [325])) (.leaf (1, 52, []))) (.branch 327 (.leaf (18, 0, [327])) (.leaf (1, 48, [])))) (.branch 330 (.branch 329 (.leaf (18, 0, [329])) (.leaf (1, 44, []))) (.branch 331 (.leaf (18, 0, [331])) (.branch 332 (.leaf (1, 40, [])) (.leaf (18, 0, [333]))))))) (.branch 342 (.branch 337 (.branch 335 (.branch 334 (.leaf (1, 36, [])) (.leaf (18, 0, [335]))) (.branch 336 (.leaf (1, 32, [])) (.leaf (18, 0, [337])))) (.branch 339 (.branch 338 (.leaf (1, 28, [])) (.leaf (18, 0, [339]))) (.branch 340 (.leaf (1, 24, [])) (.branch 341 (.leaf (13, 0, [343, 341])) (.leaf (18, 0, [342])))))) (.branch 346 (.branch 344 (.branch 343 (.leaf (1, 1, [])) (.leaf (4, 8, [344, 346, 348, 350, 352, 354, 356, 358]))) (.branch 345 (.leaf (18, 0, [345])) (.leaf (1, 56, [])))) (.branch 348 (.branch 347 (.leaf (18, 0, [347])) (.leaf (1, 52, []))) (.branch 349 (.leaf (18, 0, [349])) (.branch 350 (.leaf (1, 48, [])) (.leaf (18, 0, [351])))))))
def jdT10 : Lean.RArray (Nat × Nat × List Nat) := .branch 369 (.branch 360 (.branch 355 (.branch 353 (.branch 352 (.leaf (1, 44, [])) (.leaf (18, 0, [353]))) (.branch 354 (.leaf (1, 40, [])) (.leaf (18, 0, [355])))) (.branch 357 (.branch 356 (.leaf (1, 36, [])) (.leaf (18, 0, [357]))) (.branch 358 (.leaf (1, 32, [])) (.branch 359 (.leaf (18, 0, [359])) (.leaf (1, 28, [])))))) (.branch 364 (.branch 362 (.branch 361 (.leaf (13, 0, [363, 361])) (.leaf (18, 0, [362]))) (.branch 363 (.leaf (1, 1, [])) (.leaf (4, 7, [364, 366, 368, 370, 372, 374, 376])))) (.branch 366 (.branch 365 (.leaf (18, 0, [365])) (.leaf (1, 56, []))) (.branch 367 (.leaf (18, 0, [367])) (.branch 368 (.leaf (1, 52, [])) (.leaf (18, 0, [369]))))))) (.branch 378 (.branch 373 (.branch 371 (.branch 370 (.leaf (1, 48, [])) (.leaf (18, 0, [371]))) (.branch 372 (.leaf (1, 44, [])) (.leaf (18, 0, [373])))) (.branch 375 (.branch 374 (.leaf (1, 40, [])) (.leaf (18, 0, [375]))) (.branch 376 (.leaf (1, 36, [])) (.branch 377 (.leaf (18, 0, [377])) (.leaf (1, 32, [])))))) (.branch 382 (.branch 380 (.branch 379 (.leaf (13, 0, [381, 379])) (.leaf (18, 0, [380]))) (.branch 381 (.leaf (1, 1, [])) (.leaf (4, 6, [382, 384, 386, 388, 390, 392])))) (.branch 384 (.branch 383 (.leaf (18, 0, [383])) (.leaf (1, 56, []))) (.branch 385 (.leaf (18, 0, [385])) (.branch 386 (.leaf (1, 52, [])) (.leaf (18, 0, [387])))))))
def jdT11 : Lean.RArray (Nat × Nat × List Nat) := .branch 404 (.branch 395 (.branch 391 (.branch 389 (.branch 388 (.leaf (1, 48, [])) (.leaf (18, 0, [389]))) (.branch 390 (.leaf (1, 44, [])) (.leaf (18, 0, [391])))) (.branch 393 (.branch 392 (.leaf (1, 40, [])) (.leaf (18, 0, [393]))) (.branch 394 (.leaf (1, 36, [])) (.leaf (13, 0, [397, 395]))))) (.branch 399 (.branch 397 (.branch 396 (.leaf (18, 0, [396])) (.leaf (1, 1, []))) (.branch 398 (.leaf (4, 5, [398, 400, 402, 404, 406])) (.leaf (18, 0, [399])))) (.branch 401 (.branch 400 (.leaf (1, 56, [])) (.leaf (18, 0, [401]))) (.branch 402 (.leaf (1, 52, [])) (.branch 403 (.leaf (18, 0, [403])) (.leaf (1, 48, []))))))) (.branch 413 (.branch 408 (.branch 406 (.branch 405 (.leaf (18, 0, [405])) (.leaf (1, 44, []))) (.branch 407 (.leaf (18, 0, [407])) (.leaf (1, 40, [])))) (.branch 410 (.branch 409 (.leaf (13, 0, [411, 409])) (.leaf (18, 0, [410]))) (.branch 411 (.leaf (1, 1, [])) (.branch 412 (.leaf (4, 4, [412, 414, 416, 418])) (.leaf (18, 0, [413])))))) (.branch 417 (.branch 415 (.branch 414 (.leaf (1, 56, [])) (.leaf (18, 0, [415]))) (.branch 416 (.leaf (1, 52, [])) (.leaf (18, 0, [417])))) (.branch 419 (.branch 418 (.leaf (1, 48, [])) (.leaf (18, 0, [419]))) (.branch 420 (.leaf (1, 44, [])) (.branch 421 (.leaf (13, 0, [423, 421])) (.leaf (18, 0, [422])))))))
def jdT12 : Lean.RArray (Nat × Nat × List Nat) := .branch 439 (.branch 430 (.branch 426 (.branch 424 (.branch 423 (.leaf (1, 1, [])) (.leaf (4, 3, [424, 426, 428]))) (.branch 425 (.leaf (18, 0, [425])) (.leaf (1, 56, [])))) (.branch 428 (.branch 427 (.leaf (18, 0, [427])) (.leaf (1, 52, []))) (.branch 429 (.leaf (18, 0, [429])) (.leaf (1, 48, []))))) (.branch 434 (.branch 432 (.branch 431 (.leaf (13, 0, [433, 431])) (.leaf (18, 0, [432]))) (.branch 433 (.leaf (1, 1, [])) (.leaf (4, 2, [434, 436])))) (.branch 436 (.branch 435 (.leaf (18, 0, [435])) (.leaf (1, 56, []))) (.branch 437 (.leaf (18, 0, [437])) (.branch 438 (.leaf (1, 52, [])) (.leaf (13, 0, [441, 439]))))))) (.branch 448 (.branch 443 (.branch 441 (.branch 440 (.leaf (18, 0, [440])) (.leaf (1, 1, []))) (.branch 442 (.leaf (4, 1, [442])) (.leaf (18, 0, [443])))) (.branch 445 (.branch 444 (.leaf (1, 56, [])) (.leaf (15, 0, [19, 172, 0, 0, 0, 0, 445, 0, 447, 449, 451, 453]))) (.branch 446 (.leaf (18, 0, [446])) (.branch 447 (.leaf (1, 12, [])) (.leaf (18, 0, [448])))))) (.branch 452 (.branch 450 (.branch 449 (.leaf (1, 12, [])) (.leaf (18, 0, [450]))) (.branch 451 (.leaf (1, 12, [])) (.leaf (18, 0, [452])))) (.branch 454 (.branch 453 (.leaf (1, 12, [])) (.leaf (18, 0, [454]))) (.branch 455 (.leaf (1, 1, [])) (.branch 456 (.leaf (14, 0, [19, 13, 0, 0, 0, 456, 466, 476])) (.leaf (6, 9, [457, 458, 459, 460, 461, 462, 463, 464, 465])))))))
def jdT13 : Lean.RArray (Nat × Nat × List Nat) := .branch 474 (.branch 465 (.branch 461 (.branch 459 (.branch 458 (.leaf (2, 13, [])) (.leaf (2, 13, []))) (.branch 460 (.leaf (2, 13, [])) (.leaf (2, 13, [])))) (.branch 463 (.branch 462 (.leaf (2, 13, [])) (.leaf (2, 13, []))) (.branch 464 (.leaf (2, 13, [])) (.leaf (2, 13, []))))) (.branch 469 (.branch 467 (.branch 466 (.leaf (2, 13, [])) (.leaf (6, 9, [467, 468, 469, 470, 471, 472, 473, 474, 475]))) (.branch 468 (.leaf (2, 13, [])) (.leaf (2, 13, [])))) (.branch 471 (.branch 470 (.leaf (2, 13, [])) (.leaf (2, 13, []))) (.branch 472 (.leaf (2, 13, [])) (.branch 473 (.leaf (2, 13, [])) (.leaf (2, 13, []))))))) (.branch 483 (.branch 478 (.branch 476 (.branch 475 (.leaf (2, 13, [])) (.leaf (2, 13, []))) (.branch 477 (.leaf (2, 13, [])) (.leaf (18, 0, [478])))) (.branch 480 (.branch 479 (.leaf (1, 10, [])) (.leaf (18, 0, [480]))) (.branch 481 (.leaf (1, 10, [])) (.branch 482 (.leaf (2, 13, [])) (.leaf (2, 13, [])))))) (.branch 487 (.branch 485 (.branch 484 (.leaf (10, 0, [484, 491, 492])) (.leaf (6, 6, [485, 486, 487, 488, 489, 490]))) (.branch 486 (.leaf (2, 13, [])) (.leaf (2, 13, [])))) (.branch 489 (.branch 488 (.leaf (2, 13, [])) (.leaf (2, 13, []))) (.branch 490 (.leaf (2, 13, [])) (.branch 491 (.leaf (2, 13, [])) (.leaf (1, 6, [])))))))
def jdT14 : Lean.RArray (Nat × Nat × List Nat) := .branch 509 (.branch 500 (.branch 496 (.branch 494 (.branch 493 (.leaf (1, 6, [])) (.leaf (10, 0, [494, 501, 502]))) (.branch 495 (.leaf (6, 6, [495, 496, 497, 498, 499, 500])) (.leaf (2, 13, [])))) (.branch 498 (.branch 497 (.leaf (2, 13, [])) (.leaf (2, 13, []))) (.branch 499 (.leaf (2, 13, [])) (.leaf (2, 13, []))))) (.branch 504 (.branch 502 (.branch 501 (.leaf (2, 13, [])) (.leaf (1, 6, []))) (.branch 503 (.leaf (1, 6, [])) (.leaf (10, 0, [504, 511, 512])))) (.branch 506 (.branch 505 (.leaf (6, 6, [505, 506, 507, 508, 509, 510])) (.leaf (2, 13, []))) (.branch 507 (.leaf (2, 13, [])) (.branch 508 (.leaf (2, 13, [])) (.leaf (2, 13, []))))))) (.branch 518 (.branch 513 (.branch 511 (.branch 510 (.leaf (2, 13, [])) (.leaf (2, 13, []))) (.branch 512 (.leaf (1, 6, [])) (.leaf (1, 6, [])))) (.branch 515 (.branch 514 (.leaf (10, 0, [514, 521, 522])) (.leaf (6, 6, [515, 516, 517, 518, 519, 520]))) (.branch 516 (.leaf (2, 13, [])) (.branch 517 (.leaf (2, 13, [])) (.leaf (2, 13, [])))))) (.branch 522 (.branch 520 (.branch 519 (.leaf (2, 13, [])) (.leaf (2, 13, []))) (.branch 521 (.leaf (2, 13, [])) (.leaf (1, 6, [])))) (.branch 524 (.branch 523 (.leaf (1, 6, [])) (.leaf (10, 0, [524, 531, 532]))) (.branch 525 (.leaf (6, 6, [525, 526, 527, 528, 529, 530])) (.branch 526 (.leaf (2, 13, [])) (.leaf (2, 13, [])))))))
def jdT15 : Lean.RArray (Nat × Nat × List Nat) := .branch 545 (.branch 536 (.branch 531 (.branch 529 (.branch 528 (.leaf (2, 13, [])) (.leaf (2, 13, []))) (.branch 530 (.leaf (2, 13, [])) (.leaf (2, 13, [])))) (.branch 533 (.branch 532 (.leaf (1, 6, [])) (.leaf (1, 6, []))) (.branch 534 (.leaf (10, 0, [534, 541, 542])) (.branch 535 (.leaf (6, 6, [535, 536, 537, 538, 539, 540])) (.leaf (2, 13, [])))))) (.branch 540 (.branch 538 (.branch 537 (.leaf (2, 13, [])) (.leaf (2, 13, []))) (.branch 539 (.leaf (2, 13, [])) (.leaf (2, 13, [])))) (.branch 542 (.branch 541 (.leaf (2, 13, [])) (.leaf (1, 6, []))) (.branch 543 (.leaf (1, 6, [])) (.branch 544 (.leaf (10, 0, [544, 551, 552])) (.leaf (6, 6, [545, 546, 547, 548, 549, 550]))))))) (.branch 554 (.branch 549 (.branch 547 (.branch 546 (.leaf (2, 13, [])) (.leaf (2, 13, []))) (.branch 548 (.leaf (2, 13, [])) (.leaf (2, 13, [])))) (.branch 551 (.branch 550 (.leaf (2, 13, [])) (.leaf (2, 13, []))) (.branch 552 (.leaf (1, 6, [])) (.branch 553 (.leaf (1, 6, [])) (.leaf (10, 0, [554, 561, 562])))))) (.branch 558 (.branch 556 (.branch 555 (.leaf (6, 6, [555, 556, 557, 558, 559, 560])) (.leaf (2, 13, []))) (.branch 557 (.leaf (2, 13, [])) (.leaf (2, 13, [])))) (.branch 560 (.branch 559 (.leaf (2, 13, [])) (.leaf (2, 13, []))) (.branch 561 (.leaf (2, 13, [])) (.branch 562 (.leaf (1, 6, [])) (.leaf (1, 6, [])))))))
def jdT : Lean.RArray (Nat × Nat × List Nat) := .branch 281 (.branch 140 (.branch 70 (.branch 35 (jdT0) (jdT1)) (.branch 105 (jdT2) (jdT3))) (.branch 211 (.branch 175 (jdT4) (jdT5)) (.branch 246 (jdT6) (jdT7)))) (.branch 422 (.branch 351 (.branch 316 (jdT8) (jdT9)) (.branch 387 (jdT10) (jdT11))) (.branch 492 (.branch 457 (jdT12) (jdT13)) (.branch 527 (jdT14) (jdT15))))
noncomputable def jdgt (t : Lean.RArray (Nat × Nat × List Nat)) : Nat → Nat × Nat × List Nat := Lean.RArray.rec (motive := fun _ => Nat → Nat × Nat × List Nat) (fun v _ => v) (fun p _ _ gl gr i => Bool.rec (motive := fun _ => Nat × Nat × List Nat) (gl i) (gr i) (Nat.ble p i)) t
noncomputable def jd (a : Nat) : Nat × Nat × List Nat := Bool.rec (motive := fun _ => Nat × Nat × List Nat) (0, 0, []) (jdgt jdT a) (Nat.blt a 563)
noncomputable def cK (a : Nat) : Nat := (jd a).1
noncomputable def cL (a : Nat) : Nat := (jd a).2.1
noncomputable def cR (a i : Nat) : Nat := (jd a).2.2.getD i 0
theorem jd_out {a : Nat} (h : 563 ≤ a) : jd a = (0, 0, []) := by
  unfold jd
  rw [show Nat.blt a 563 = false from Bool.eq_false_iff.mpr (fun q => by have := Nat.le_of_ble_eq_true q; omega)]
theorem cK_out {a : Nat} (h : 563 ≤ a) : cK a = 0 := by unfold cK; rw [jd_out h]
theorem cK_in {a : Nat} (h : cK a ≠ 0) : a < 563 := by
  rcases Nat.lt_or_ge a 563 with c | c
  · exact c
  · exact absurd (cK_out c) h
theorem jall {P : Nat → Bool} {n : Nat} (h : ((List.range n).all P) = true) {a : Nat} (ha : a < n) : P a = true := List.all_eq_true.mp h a (List.mem_range.mpr ha)
theorem cTY_1 : ((List.range 563).all (fun a => (List.range (jfs (cK a)).length).all fun i => match (jfs (cK a))[i]? with | some c => decide (c < 100) || decide (cK (cR a i) = c - 100) | none => true)) = true := by decide +kernel
theorem cTY_2 : ((List.range 563).all (fun a => !(decide (1 ≤ cK a) && decide (cK a ≤ 7)) || (decide (jal (cK a) ≤ (cL a : Int)) && decide ((cL a : Int) ≤ jah (cK a))))) = true := by decide +kernel
theorem cTY_3 : ((List.range 563).all (fun a => !(decide (4 ≤ cK a) && decide (cK a ≤ 7)) || ((List.range (cL a)).all fun i => decide (cK (cR a i) = jae (cK a))))) = true := by decide +kernel
theorem cTY_4 : ((List.range 563).all (fun a => !decide (cK a = 12) || decide (cL (cR a 0) = 60))) = true := by decide +kernel
theorem cTY_5 : ((List.range 563).all (fun a => !decide (cK a = 27) || (decide (cL (cR a 0) = 200) && decide (a = 13)))) = true := by decide +kernel
theorem cTY_6 : ((List.range 563).all (fun a => !decide (cK a = 17) || decide (cL (cR a 0) = 340))) = true := by decide +kernel
theorem cTY_8 : ((List.range 563).all (fun a => !decide (cK a = 10) || decide (cL (cR a 0) = 6))) = true := by decide +kernel
theorem cTY : jTY cK cL cR := by
  refine ⟨fun a i c hi hc => ?_, fun a h1 h2 => ?_, fun a i h1 h2 h3 => ?_, fun a h1 => ?_, fun a h1 => ?_, fun a h1 => ?_, fun a b h1 h2 => ?_, fun a h1 => ?_⟩
  · have ha : a < 563 := cK_in (fun q => by rw [q] at hi; exact absurd hi (by simp [jfs]))
    have h1 := jall (jall cTY_1 ha) (List.getElem?_eq_some_iff.mp hi).1
    simp only [hi, Bool.or_eq_true, decide_eq_true_eq] at h1
    omega
  · have h3 := jall cTY_2 (cK_in (a := a) (by omega))
    simp only [h1, h2, decide_true, Bool.and_self, Bool.not_true, Bool.false_or, Bool.and_eq_true, decide_eq_true_eq] at h3
    exact h3
  · have h4 := jall cTY_3 (cK_in (a := a) (by omega))
    simp only [h1, h2, decide_true, Bool.and_self, Bool.not_true, Bool.false_or] at h4
    exact of_decide_eq_true (jall h4 h3)
  · have h4 := jall cTY_4 (cK_in (a := a) (by omega))
    simp only [h1, decide_true, Bool.not_true, Bool.false_or, decide_eq_true_eq] at h4
    exact h4
  · have h4 := jall cTY_5 (cK_in (a := a) (by omega))
    simp only [h1, decide_true, Bool.not_true, Bool.false_or, Bool.and_eq_true, decide_eq_true_eq] at h4
    exact h4.1
  · have h4 := jall cTY_6 (cK_in (a := a) (by omega))
    simp only [h1, decide_true, Bool.not_true, Bool.false_or, decide_eq_true_eq] at h4
    exact h4
  · have h3 := jall cTY_5 (cK_in (a := a) (by omega))
    have h4 := jall cTY_5 (cK_in (a := b) (by omega))
    simp only [h1, h2, decide_true, Bool.not_true, Bool.false_or, Bool.and_eq_true, decide_eq_true_eq] at h3 h4
    omega
  · have h4 := jall cTY_8 (cK_in (a := a) (by omega))
    simp only [h1, decide_true, Bool.not_true, Bool.false_or, decide_eq_true_eq] at h4
    exact h4
theorem ckB : okB cK cL cR 2 3 := by decide +kernel
theorem ckT1 : okT cK cL cR 13 14 200 := by decide +kernel
theorem ckT2 : okT cK cL cR 15 16 340 := by decide +kernel
theorem ckT3 : okT cK cL cR 17 18 340 := by decide +kernel
theorem ckK : okK cK cL cR 19 20 := ⟨by decide +kernel, by decide +kernel, by decide +kernel, by decide +kernel, by decide +kernel, by decide +kernel, by decide +kernel, by decide +kernel, by decide +kernel, by decide +kernel⟩
theorem ckS : okS cK cL cR 172 173 19 := ⟨by decide +kernel, by decide +kernel, by decide +kernel, by decide +kernel, by decide +kernel, by decide +kernel, by decide +kernel, fun i hi => match i, hi with
  | 0, _ => ⟨by decide +kernel, by decide +kernel⟩
  | 1, _ => ⟨by decide +kernel, by decide +kernel⟩
  | 2, _ => ⟨by decide +kernel, by decide +kernel⟩
  | 3, _ => ⟨by decide +kernel, by decide +kernel⟩
  | 4, _ => ⟨by decide +kernel, by decide +kernel⟩
  | 5, _ => ⟨by decide +kernel, by decide +kernel⟩
  | 6, _ => ⟨by decide +kernel, by decide +kernel⟩
  | 7, _ => ⟨by decide +kernel, by decide +kernel⟩
  | 8, _ => ⟨by decide +kernel, by decide +kernel⟩
  | 9, _ => ⟨by decide +kernel, by decide +kernel⟩
  | 10, _ => ⟨by decide +kernel, by decide +kernel⟩
  | 11, _ => ⟨by decide +kernel, by decide +kernel⟩
  | 12, _ => ⟨by decide +kernel, by decide +kernel⟩
  | 13, _ => ⟨by decide +kernel, by decide +kernel⟩
  | i + 14, hi => absurd hi (by omega)⟩
theorem ckR : okR cK cL cR 444 445 19 172 := by decide +kernel
theorem ckE : okE cK cL cR 455 456 19 13 := by decide +kernel
theorem ckW1 : okW cK cL cR 477 478 10 := by decide +kernel
theorem ckW2 : okW cK cL cR 479 480 10 := by decide +kernel
theorem ckL1 : cK 481 = 2 ∧ cL 481 = 13 := by decide +kernel
theorem ckL2 : cK 482 = 2 ∧ cL 482 = 13 := by decide +kernel
theorem ckA : cK 12 = 7 ∧ cL 12 = 8 := by decide +kernel
theorem ckBs : ∀ i, i < 8 → cR 12 i = 483 + 10 * i ∧ okB cK cL cR (483 + 10 * i) (483 + 10 * i + 1) := by decide +kernel
theorem ck0 : cK 0 = 0 ∧ cK 1 = 19 := by decide +kernel
theorem ck1 : ∀ i, i < 15 → cR 1 i = [2, 12, 0, 0, 13, 15, 17, 19, 172, 444, 455, 477, 479, 481, 482].getD i 0 := by decide +kernel
/-! What stays in any run that stores no bytes and does not touch the field 15 of an object of class 9: arrays of bytes, and that field. -/
def jqt (h h' : mj_H) : Prop := ∀ a : Nat, (∀ (n : Nat) (f : Nat → Value), h[a]? = some (.inl (2, n, f)) → h'[a]? = some (.inl (2, n, f))) ∧ (∀ fs : List Value, h[a]? = some (.inr (9, fs)) → ∃ fs' : List Value, h'[a]? = some (.inr (9, fs')) ∧ fs'[15]? = fs[15]?)
theorem jqt.rf {h : mj_H} : jqt h h := fun a => ⟨fun _ _ e => e, fun fs e => ⟨fs, e, rfl⟩⟩
theorem jqt.tr {h h1 h2 : mj_H} (p : jqt h h1) (q : jqt h1 h2) : jqt h h2 := fun a => ⟨fun n f e => (q a).1 n f ((p a).1 n f e), fun fs e => by
  obtain ⟨f1, e1, e2⟩ := (p a).2 fs e
  obtain ⟨f2, e3, e4⟩ := (q a).2 f1 e1
  exact ⟨f2, e3, e4.trans e2⟩⟩
theorem jqt.app {h : mj_H} (es : mj_H) : jqt h (h ++ es) := fun a => ⟨fun n f e => by rw [List.getElem?_append_left (List.getElem?_eq_some_iff.mp e).1]; exact e, fun fs e => ⟨fs, by rw [List.getElem?_append_left (List.getElem?_eq_some_iff.mp e).1]; exact e, rfl⟩⟩
theorem jqt.set {h : mj_H} {p : Nat} {e0 e : mj_E} (h0 : h[p]? = some e0) (h1 : ∀ n f, e0 = .inl (2, n, f) → e = e0) (h2 : ∀ fs, e0 = .inr (9, fs) → ∃ fs' : List Value, e = .inr (9, fs') ∧ fs'[15]? = fs[15]?) : jqt h (h.set p e) := fun a => by
  have hl := (List.getElem?_eq_some_iff.mp h0).1
  by_cases c : p = a
  · subst c
    rw [List.getElem?_set_self hl]
    refine ⟨fun n f q => ?_, fun fs q => ?_⟩
    · rw [h0] at q
      cases q
      rw [h1 n f rfl]
    · rw [h0] at q
      cases q
      obtain ⟨fs', e1, e2⟩ := h2 fs rfl
      exact ⟨fs', by rw [e1], e2⟩
  · rw [List.getElem?_set_ne c]
    exact ⟨fun _ _ q => q, fun fs q => ⟨fs, q, rfl⟩⟩
theorem jqt.arr {h : mj_H} {p t n : Nat} {f : Nat → Value} {e : mj_E} (h0 : h[p]? = some (.inl (t, n, f))) (ht : t ≠ 2) : jqt h (h.set p e) := jqt.set h0 (fun n f q => by cases q; exact absurd rfl ht) (fun fs q => by cases q)
theorem jqt.obj {h : mj_H} {p c i : Nat} {fs : List Value} {v : Value} (h0 : h[p]? = some (.inr (c, fs))) (hn : ¬ (c = 9 ∧ i = 15)) : jqt h (h.set p (.inr (c, fs.set i v))) := jqt.set h0 (fun n f q => by cases q) (fun fs q => by
  cases q
  exact ⟨_, rfl, List.getElem?_set_ne (fun q => hn ⟨rfl, q⟩)⟩)
def jQi (cl : Nat → Bool) (I : mj_I) : Bool := match I.1 with
  | .bastore => false
  | .putfield _ => !(decide (I.2.1 = 9) && decide (I.2.2.1 = 15))
  | .invokestatic _ => !decide (I.2.2.2.1 ≤ 1) || cl I.2.1
  | .invokevirtual _ => !decide (I.2.2.2.1 ≤ 1) || cl I.2.1
  | .invokespecial _ => !decide (I.2.2.2.1 ≤ 1) || cl I.2.1
  | _ => true
theorem jQi.call {cl : Nat → Bool} {ins : Instr} {r1 r2 r3 r4 r5 : Nat} (hq : jQi cl (ins, r1, r2, r3, r4, r5) = true) (hk : mj_kind ins r3 = 3) : cl r1 = true := by
  have key : ∀ ins : Instr, (mj_kind ins r3 = if r3 ≤ 1 then 3 else 4) → mj_kind ins r3 = 3 → r3 ≤ 1 := fun ins e k => by
    by_cases c : r3 ≤ 1
    · exact c
    · rw [if_neg c] at e
      rw [e] at k
      exact absurd k (by decide)
  cases ins
  case invokestatic n =>
    have c := key _ rfl hk
    simp only [jQi, c, decide_true, Bool.not_true, Bool.false_or] at hq
    exact hq
  case invokevirtual n =>
    have c := key _ rfl hk
    simp only [jQi, c, decide_true, Bool.not_true, Bool.false_or] at hq
    exact hq
  case invokespecial n =>
    have c := key _ rfl hk
    simp only [jQi, c, decide_true, Bool.not_true, Bool.false_or] at hq
    exact hq
  case new n =>
    exfalso
    simp only [mj_kind] at hk
    split at hk <;> exact absurd hk (by decide)
  all_goals exact absurd hk (by simp [mj_kind])
theorem mj_el_n2 {t c : Nat} (e : mj_el t = some c) : t ≠ 2 := by
  intro q
  subst q
  cases e
theorem jqt.step {cl : Nat → Bool} {ins : Instr} {r1 r2 r3 r4 r5 pc pc' : Nat} {loc loc' : mj_L} {st st' : List Value} {h h' : mj_H} (hq : jQi cl (ins, r1, r2, r3, r4, r5) = true) (hs : mj_step ins r1 r2 r3 mj_new pc loc st h = some (pc', loc', st', h')) : jqt h h' := by
  cases ins
  case bastore => cases hq
  case putfield n =>
    simp only [jQi, Bool.not_eq_true', Bool.and_eq_false_iff, decide_eq_false_iff_not] at hq
    simp only [mj_step] at hs
    repeat' split at hs
    all_goals (try (cases hs; done))
    rename_i hh
    cases hs
    refine jqt.obj (by assumption) (fun q => ?_)
    rcases hq with hq | hq
    · exact hq (hh.1 ▸ q.1)
    · exact hq q.2
  case iastore =>
    simp only [mj_step] at hs
    repeat' split at hs
    all_goals (try (cases hs; done))
    rename_i hh
    cases hs
    exact jqt.arr (by assumption) (by rw [hh.1]; decide)
  case lastore =>
    simp only [mj_step] at hs
    repeat' split at hs
    all_goals (try (cases hs; done))
    rename_i hh
    cases hs
    exact jqt.arr (by assumption) (by rw [hh.1]; decide)
  case aastore =>
    simp only [mj_step] at hs
    repeat' split at hs
    all_goals (try (cases hs; done))
    rename_i hh
    cases hs
    exact jqt.arr (by assumption) (mj_el_n2 hh.1)
  all_goals simp only [mj_step, Option.map_eq_some_iff] at hs
  all_goals (try (cases hs; done))
  all_goals (try (cases hs; exact jqt.rf))
  all_goals (try (obtain ⟨_, _, hs⟩ := hs; cases hs; exact jqt.rf))
  all_goals (repeat' split at hs)
  all_goals (try (cases hs; done))
  all_goals (try (cases hs; exact jqt.rf))
  all_goals (try (cases hs; exact jqt.app _))
theorem jqt.prim {r3 : Nat} {st st' : List Value} {h h' : mj_H} (hs : mj_prim r3 st h = some (st', h')) : jqt h h' := by
  unfold mj_prim at hs
  repeat' split at hs
  all_goals (try (cases hs; done))
  all_goals (try (cases hs; exact jqt.rf))
  rename_i t0 n0 f h0 _ t1 n1 g h1 hc
  cases hs
  have e0 := hc.2.1
  have e1 := hc.2.2.1
  subst e0
  exact jqt.arr h1 (by omega)
theorem jqt.loop {cl : Nat → Bool} {call : Nat → List Value → mj_H → Option mj_R} (hcall : ∀ j as h r, cl j = true → call j as h = some r → jqt h r.2) {M : mj_M} (hM : ∀ pc I, M.2.2.2.2.1 pc = some I → jQi cl I = true) : ∀ {F pc : Nat} {loc : mj_L} {st : List Value} {h : mj_H} {r : mj_R}, mj_loop call M F pc loc st h = some r → jqt h r.2
  | 0, _, _, _, _, _, hs => by cases hs
  | F + 1, pc, loc, st, h, r, hs => by
    unfold mj_loop at hs
    cases hcode : M.2.2.2.2.1 pc with
    | none => rw [hcode] at hs; cases hs
    | some I =>
      have hI := hM pc I hcode
      obtain ⟨ins, r1, r2, r3, r4, r5⟩ := I
      rw [hcode] at hs
      simp only at hs
      split at hs
      · split at hs
        · rename_i h1
          exact (jqt.step hI h1).tr (jqt.loop hcall hM hs)
        · cases hs
      · split at hs
        · cases hs
          exact jqt.rf
        · cases hs
      · split at hs
        · cases hs
          exact jqt.app _
        · cases hs
      · rename_i hk
        have hcl := jQi.call hI hk
        split at hs
        · split at hs
          · rename_i h1
            exact (hcall _ _ _ _ hcl h1).tr (jqt.loop hcall hM hs)
          · rename_i h1
            split at hs
            · cases hs
              exact hcall _ _ _ _ hcl h1
            · split at hs
              · split at hs
                · exact (hcall _ _ _ _ hcl h1).tr (jqt.loop hcall hM hs)
                · cases hs
              · cases hs
          · cases hs
        · cases hs
      · split at hs
        · rename_i h1
          exact (jqt.prim h1).tr (jqt.loop hcall hM hs)
        · cases hs
theorem jqt.run {cl : Nat → Bool} {P : List mj_M} (hP : ∀ j M, P[j]? = some M → cl j = true → ∀ pc I, M.2.2.2.2.1 pc = some I → jQi cl I = true) (F : Nat) : ∀ (D j : Nat) (as : List Value) (h : mj_H) (r : mj_R), cl j = true → mj_run P F D j as h = some r → jqt h r.2
  | 0, _, _, _, _, _, hs => by cases hs
  | D + 1, j, as, h, r, hc, hs => by
    simp only [mj_run] at hs
    split at hs
    · cases hs
    · rename_i M hM
      split at hs
      · exact jqt.loop (fun j as h r q => jqt.run hP F D j as h r q) (hP j M hM hc) hs
      · cases hs
/-! The methods that store no bytes and leave the place of the error. -/
def jqcl (j : Nat) : Bool := !([80, 81, 82, 83, 84, 101, 114, 141, 144, 148, 322, 344, 345].contains j)
theorem jq_look {cl : Nat → Bool} {l : List (Option mj_I)} (h : (l.all fun o => match o with | none => true | some I => jQi cl I) = true) : ∀ pc I, mj_look l pc = some I → jQi cl I = true := by
  intro pc I hI
  unfold mj_look at hI
  split at hI
  · rename_i x hx
    subst hI
    exact List.all_eq_true.mp h _ (List.mem_of_getElem? hx)
  · cases hI
def jqM (M : mj_M) : Prop := ∀ pc I, M.2.2.2.2.1 pc = some I → jQi jqcl I = true
theorem jq_k0 : (mj_l0.all fun o => match o with | none => true | some I => jQi jqcl I) = true := by decide +kernel
theorem jq_k1 : (mj_l1.all fun o => match o with | none => true | some I => jQi jqcl I) = true := by decide +kernel
theorem jq_k2 : (mj_l2.all fun o => match o with | none => true | some I => jQi jqcl I) = true := by decide +kernel
theorem jq_k3 : (mj_l3.all fun o => match o with | none => true | some I => jQi jqcl I) = true := by decide +kernel
theorem jq_k4 : (mj_l4.all fun o => match o with | none => true | some I => jQi jqcl I) = true := by decide +kernel
theorem jq_k5 : (mj_l5.all fun o => match o with | none => true | some I => jQi jqcl I) = true := by decide +kernel
theorem jq_k6 : (mj_l6.all fun o => match o with | none => true | some I => jQi jqcl I) = true := by decide +kernel
theorem jq_k7 : (mj_l7.all fun o => match o with | none => true | some I => jQi jqcl I) = true := by decide +kernel
theorem jq_k8 : (mj_l8.all fun o => match o with | none => true | some I => jQi jqcl I) = true := by decide +kernel
theorem jq_k9 : (mj_l9.all fun o => match o with | none => true | some I => jQi jqcl I) = true := by decide +kernel
theorem jq_k10 : (mj_l10.all fun o => match o with | none => true | some I => jQi jqcl I) = true := by decide +kernel
theorem jq_k11 : (mj_l11.all fun o => match o with | none => true | some I => jQi jqcl I) = true := by decide +kernel
theorem jq_k12 : (mj_l12.all fun o => match o with | none => true | some I => jQi jqcl I) = true := by decide +kernel
theorem jq_k13 : (mj_l13.all fun o => match o with | none => true | some I => jQi jqcl I) = true := by decide +kernel
theorem jq_k14 : (mj_l14.all fun o => match o with | none => true | some I => jQi jqcl I) = true := by decide +kernel
theorem jq_k15 : (mj_l15.all fun o => match o with | none => true | some I => jQi jqcl I) = true := by decide +kernel
theorem jq_k16 : (mj_l16.all fun o => match o with | none => true | some I => jQi jqcl I) = true := by decide +kernel
theorem jq_k17 : (mj_l17.all fun o => match o with | none => true | some I => jQi jqcl I) = true := by decide +kernel
theorem jq_k18 : (mj_l18.all fun o => match o with | none => true | some I => jQi jqcl I) = true := by decide +kernel
theorem jq_k19 : (mj_l19.all fun o => match o with | none => true | some I => jQi jqcl I) = true := by decide +kernel
theorem jq_k20 : (mj_l20.all fun o => match o with | none => true | some I => jQi jqcl I) = true := by decide +kernel
theorem jq_k21 : (mj_l21.all fun o => match o with | none => true | some I => jQi jqcl I) = true := by decide +kernel
theorem jq_k22 : (mj_l22.all fun o => match o with | none => true | some I => jQi jqcl I) = true := by decide +kernel
theorem jq_k23 : (mj_l23.all fun o => match o with | none => true | some I => jQi jqcl I) = true := by decide +kernel
theorem jq_k24 : (mj_l24.all fun o => match o with | none => true | some I => jQi jqcl I) = true := by decide +kernel
theorem jq_k25 : (mj_l25.all fun o => match o with | none => true | some I => jQi jqcl I) = true := by decide +kernel
theorem jq_k26 : (mj_l26.all fun o => match o with | none => true | some I => jQi jqcl I) = true := by decide +kernel
theorem jq_k27 : (mj_l27.all fun o => match o with | none => true | some I => jQi jqcl I) = true := by decide +kernel
theorem jq_k28 : (mj_l28.all fun o => match o with | none => true | some I => jQi jqcl I) = true := by decide +kernel
theorem jq_k29 : (mj_l29.all fun o => match o with | none => true | some I => jQi jqcl I) = true := by decide +kernel
theorem jq_k30 : (mj_l30.all fun o => match o with | none => true | some I => jQi jqcl I) = true := by decide +kernel
theorem jq_k31 : (mj_l31.all fun o => match o with | none => true | some I => jQi jqcl I) = true := by decide +kernel
theorem jq_k32 : (mj_l32.all fun o => match o with | none => true | some I => jQi jqcl I) = true := by decide +kernel
theorem jq_k33 : (mj_l33.all fun o => match o with | none => true | some I => jQi jqcl I) = true := by decide +kernel
theorem jq_k34 : (mj_l34.all fun o => match o with | none => true | some I => jQi jqcl I) = true := by decide +kernel
theorem jq_k35 : (mj_l35.all fun o => match o with | none => true | some I => jQi jqcl I) = true := by decide +kernel
theorem jq_k36 : (mj_l36.all fun o => match o with | none => true | some I => jQi jqcl I) = true := by decide +kernel
theorem jq_k37 : (mj_l37.all fun o => match o with | none => true | some I => jQi jqcl I) = true := by decide +kernel
theorem jq_k38 : (mj_l38.all fun o => match o with | none => true | some I => jQi jqcl I) = true := by decide +kernel
theorem jq_k39 : (mj_l39.all fun o => match o with | none => true | some I => jQi jqcl I) = true := by decide +kernel
theorem jq_k40 : (mj_l40.all fun o => match o with | none => true | some I => jQi jqcl I) = true := by decide +kernel
theorem jq_k41 : (mj_l41.all fun o => match o with | none => true | some I => jQi jqcl I) = true := by decide +kernel
theorem jq_k42 : (mj_l42.all fun o => match o with | none => true | some I => jQi jqcl I) = true := by decide +kernel
theorem jq_k43 : (mj_l43.all fun o => match o with | none => true | some I => jQi jqcl I) = true := by decide +kernel
theorem jq_k44 : (mj_l44.all fun o => match o with | none => true | some I => jQi jqcl I) = true := by decide +kernel
theorem jq_k45 : (mj_l45.all fun o => match o with | none => true | some I => jQi jqcl I) = true := by decide +kernel
theorem jq_k46 : (mj_l46.all fun o => match o with | none => true | some I => jQi jqcl I) = true := by decide +kernel
theorem jq_k47 : (mj_l47.all fun o => match o with | none => true | some I => jQi jqcl I) = true := by decide +kernel
theorem jq_k48 : (mj_l48.all fun o => match o with | none => true | some I => jQi jqcl I) = true := by decide +kernel
theorem jq_k49 : (mj_l49.all fun o => match o with | none => true | some I => jQi jqcl I) = true := by decide +kernel
theorem jq_k50 : (mj_l50.all fun o => match o with | none => true | some I => jQi jqcl I) = true := by decide +kernel
theorem jq_k51 : (mj_l51.all fun o => match o with | none => true | some I => jQi jqcl I) = true := by decide +kernel
theorem jq_k52 : (mj_l52.all fun o => match o with | none => true | some I => jQi jqcl I) = true := by decide +kernel
theorem jq_k53 : (mj_l53.all fun o => match o with | none => true | some I => jQi jqcl I) = true := by decide +kernel
theorem jq_k54 : (mj_l54.all fun o => match o with | none => true | some I => jQi jqcl I) = true := by decide +kernel
theorem jq_k55 : (mj_l55.all fun o => match o with | none => true | some I => jQi jqcl I) = true := by decide +kernel
theorem jq_k56 : (mj_l56.all fun o => match o with | none => true | some I => jQi jqcl I) = true := by decide +kernel
theorem jq_k57 : (mj_l57.all fun o => match o with | none => true | some I => jQi jqcl I) = true := by decide +kernel
theorem jq_k58 : (mj_l58.all fun o => match o with | none => true | some I => jQi jqcl I) = true := by decide +kernel
theorem jq_k59 : (mj_l59.all fun o => match o with | none => true | some I => jQi jqcl I) = true := by decide +kernel
theorem jq_k60 : (mj_l60.all fun o => match o with | none => true | some I => jQi jqcl I) = true := by decide +kernel
theorem jq_k61 : (mj_l61.all fun o => match o with | none => true | some I => jQi jqcl I) = true := by decide +kernel
theorem jq_k62 : (mj_l62.all fun o => match o with | none => true | some I => jQi jqcl I) = true := by decide +kernel
theorem jq_k63 : (mj_l63.all fun o => match o with | none => true | some I => jQi jqcl I) = true := by decide +kernel
theorem jq_k64 : (mj_l64.all fun o => match o with | none => true | some I => jQi jqcl I) = true := by decide +kernel
theorem jq_k65 : (mj_l65.all fun o => match o with | none => true | some I => jQi jqcl I) = true := by decide +kernel
theorem jq_k66 : (mj_l66.all fun o => match o with | none => true | some I => jQi jqcl I) = true := by decide +kernel
theorem jq_k67 : (mj_l67.all fun o => match o with | none => true | some I => jQi jqcl I) = true := by decide +kernel
theorem jq_k68 : (mj_l68.all fun o => match o with | none => true | some I => jQi jqcl I) = true := by decide +kernel
theorem jq_k69 : (mj_l69.all fun o => match o with | none => true | some I => jQi jqcl I) = true := by decide +kernel
theorem jq_k70 : (mj_l70.all fun o => match o with | none => true | some I => jQi jqcl I) = true := by decide +kernel
theorem jq_k71 : (mj_l71.all fun o => match o with | none => true | some I => jQi jqcl I) = true := by decide +kernel
theorem jq_k72 : (mj_l72.all fun o => match o with | none => true | some I => jQi jqcl I) = true := by decide +kernel
theorem jq_k73 : (mj_l73.all fun o => match o with | none => true | some I => jQi jqcl I) = true := by decide +kernel
theorem jq_k74 : (mj_l74.all fun o => match o with | none => true | some I => jQi jqcl I) = true := by decide +kernel
theorem jq_k75 : (mj_l75.all fun o => match o with | none => true | some I => jQi jqcl I) = true := by decide +kernel
theorem jq_k76 : (mj_l76.all fun o => match o with | none => true | some I => jQi jqcl I) = true := by decide +kernel
theorem jq_k77 : (mj_l77.all fun o => match o with | none => true | some I => jQi jqcl I) = true := by decide +kernel
theorem jq_k78 : (mj_l78.all fun o => match o with | none => true | some I => jQi jqcl I) = true := by decide +kernel
theorem jq_k79 : (mj_l79.all fun o => match o with | none => true | some I => jQi jqcl I) = true := by decide +kernel
theorem jq_k85 : (mj_l85.all fun o => match o with | none => true | some I => jQi jqcl I) = true := by decide +kernel
theorem jq_k86 : (mj_l86.all fun o => match o with | none => true | some I => jQi jqcl I) = true := by decide +kernel
theorem jq_k87 : (mj_l87.all fun o => match o with | none => true | some I => jQi jqcl I) = true := by decide +kernel
theorem jq_k88 : (mj_l88.all fun o => match o with | none => true | some I => jQi jqcl I) = true := by decide +kernel
theorem jq_k89 : (mj_l89.all fun o => match o with | none => true | some I => jQi jqcl I) = true := by decide +kernel
theorem jq_k90 : (mj_l90.all fun o => match o with | none => true | some I => jQi jqcl I) = true := by decide +kernel
theorem jq_k91 : (mj_l91.all fun o => match o with | none => true | some I => jQi jqcl I) = true := by decide +kernel
theorem jq_k92 : (mj_l92.all fun o => match o with | none => true | some I => jQi jqcl I) = true := by decide +kernel
theorem jq_k93 : (mj_l93.all fun o => match o with | none => true | some I => jQi jqcl I) = true := by decide +kernel
theorem jq_k94 : (mj_l94.all fun o => match o with | none => true | some I => jQi jqcl I) = true := by decide +kernel
theorem jq_k95 : (mj_l95.all fun o => match o with | none => true | some I => jQi jqcl I) = true := by decide +kernel
theorem jq_k96 : (mj_l96.all fun o => match o with | none => true | some I => jQi jqcl I) = true := by decide +kernel
theorem jq_k97 : (mj_l97.all fun o => match o with | none => true | some I => jQi jqcl I) = true := by decide +kernel
theorem jq_k98 : (mj_l98.all fun o => match o with | none => true | some I => jQi jqcl I) = true := by decide +kernel
theorem jq_k99 : (mj_l99.all fun o => match o with | none => true | some I => jQi jqcl I) = true := by decide +kernel
theorem jq_k100 : (mj_l100.all fun o => match o with | none => true | some I => jQi jqcl I) = true := by decide +kernel
theorem jq_k102 : (mj_l102.all fun o => match o with | none => true | some I => jQi jqcl I) = true := by decide +kernel
theorem jq_k103 : (mj_l103.all fun o => match o with | none => true | some I => jQi jqcl I) = true := by decide +kernel
theorem jq_k104 : (mj_l104.all fun o => match o with | none => true | some I => jQi jqcl I) = true := by decide +kernel
theorem jq_k105 : (mj_l105.all fun o => match o with | none => true | some I => jQi jqcl I) = true := by decide +kernel
theorem jq_k106 : (mj_l106.all fun o => match o with | none => true | some I => jQi jqcl I) = true := by decide +kernel
theorem jq_k107 : (mj_l107.all fun o => match o with | none => true | some I => jQi jqcl I) = true := by decide +kernel
theorem jq_k108 : (mj_l108.all fun o => match o with | none => true | some I => jQi jqcl I) = true := by decide +kernel
theorem jq_k109 : (mj_l109.all fun o => match o with | none => true | some I => jQi jqcl I) = true := by decide +kernel
theorem jq_k110 : (mj_l110.all fun o => match o with | none => true | some I => jQi jqcl I) = true := by decide +kernel
theorem jq_k111 : (mj_l111.all fun o => match o with | none => true | some I => jQi jqcl I) = true := by decide +kernel
theorem jq_k112 : (mj_l112.all fun o => match o with | none => true | some I => jQi jqcl I) = true := by decide +kernel
theorem jq_k113 : (mj_l113.all fun o => match o with | none => true | some I => jQi jqcl I) = true := by decide +kernel
theorem jq_k115 : (mj_l115.all fun o => match o with | none => true | some I => jQi jqcl I) = true := by decide +kernel
theorem jq_k116 : (mj_l116.all fun o => match o with | none => true | some I => jQi jqcl I) = true := by decide +kernel
theorem jq_k117 : (mj_l117.all fun o => match o with | none => true | some I => jQi jqcl I) = true := by decide +kernel
theorem jq_k118 : (mj_l118.all fun o => match o with | none => true | some I => jQi jqcl I) = true := by decide +kernel
theorem jq_k119 : (mj_l119.all fun o => match o with | none => true | some I => jQi jqcl I) = true := by decide +kernel
theorem jq_k120 : (mj_l120.all fun o => match o with | none => true | some I => jQi jqcl I) = true := by decide +kernel
theorem jq_k121 : (mj_l121.all fun o => match o with | none => true | some I => jQi jqcl I) = true := by decide +kernel
theorem jq_k122 : (mj_l122.all fun o => match o with | none => true | some I => jQi jqcl I) = true := by decide +kernel
theorem jq_k123 : (mj_l123.all fun o => match o with | none => true | some I => jQi jqcl I) = true := by decide +kernel
theorem jq_k124 : (mj_l124.all fun o => match o with | none => true | some I => jQi jqcl I) = true := by decide +kernel
theorem jq_k125 : (mj_l125.all fun o => match o with | none => true | some I => jQi jqcl I) = true := by decide +kernel
theorem jq_k126 : (mj_l126.all fun o => match o with | none => true | some I => jQi jqcl I) = true := by decide +kernel
theorem jq_k127 : (mj_l127.all fun o => match o with | none => true | some I => jQi jqcl I) = true := by decide +kernel
theorem jq_k128 : (mj_l128.all fun o => match o with | none => true | some I => jQi jqcl I) = true := by decide +kernel
theorem jq_k129 : (mj_l129.all fun o => match o with | none => true | some I => jQi jqcl I) = true := by decide +kernel
theorem jq_k130 : (mj_l130.all fun o => match o with | none => true | some I => jQi jqcl I) = true := by decide +kernel
theorem jq_k131 : (mj_l131.all fun o => match o with | none => true | some I => jQi jqcl I) = true := by decide +kernel
theorem jq_k132 : (mj_l132.all fun o => match o with | none => true | some I => jQi jqcl I) = true := by decide +kernel
theorem jq_k133 : (mj_l133.all fun o => match o with | none => true | some I => jQi jqcl I) = true := by decide +kernel
theorem jq_k134 : (mj_l134.all fun o => match o with | none => true | some I => jQi jqcl I) = true := by decide +kernel
theorem jq_k135 : (mj_l135.all fun o => match o with | none => true | some I => jQi jqcl I) = true := by decide +kernel
theorem jq_k136 : (mj_l136.all fun o => match o with | none => true | some I => jQi jqcl I) = true := by decide +kernel
theorem jq_k137 : (mj_l137.all fun o => match o with | none => true | some I => jQi jqcl I) = true := by decide +kernel
theorem jq_k138 : (mj_l138.all fun o => match o with | none => true | some I => jQi jqcl I) = true := by decide +kernel
theorem jq_k139 : (mj_l139.all fun o => match o with | none => true | some I => jQi jqcl I) = true := by decide +kernel
theorem jq_k140 : (mj_l140.all fun o => match o with | none => true | some I => jQi jqcl I) = true := by decide +kernel
theorem jq_k142 : (mj_l142.all fun o => match o with | none => true | some I => jQi jqcl I) = true := by decide +kernel
theorem jq_k143 : (mj_l143.all fun o => match o with | none => true | some I => jQi jqcl I) = true := by decide +kernel
theorem jq_k145 : (mj_l145.all fun o => match o with | none => true | some I => jQi jqcl I) = true := by decide +kernel
theorem jq_k146 : (mj_l146.all fun o => match o with | none => true | some I => jQi jqcl I) = true := by decide +kernel
theorem jq_k147 : (mj_l147.all fun o => match o with | none => true | some I => jQi jqcl I) = true := by decide +kernel
theorem jq_k149 : (mj_l149.all fun o => match o with | none => true | some I => jQi jqcl I) = true := by decide +kernel
theorem jq_k150 : (mj_l150.all fun o => match o with | none => true | some I => jQi jqcl I) = true := by decide +kernel
theorem jq_k151 : (mj_l151.all fun o => match o with | none => true | some I => jQi jqcl I) = true := by decide +kernel
theorem jq_k152 : (mj_l152.all fun o => match o with | none => true | some I => jQi jqcl I) = true := by decide +kernel
theorem jq_k153 : (mj_l153.all fun o => match o with | none => true | some I => jQi jqcl I) = true := by decide +kernel
theorem jq_k154 : (mj_l154.all fun o => match o with | none => true | some I => jQi jqcl I) = true := by decide +kernel
theorem jq_k155 : (mj_l155.all fun o => match o with | none => true | some I => jQi jqcl I) = true := by decide +kernel
theorem jq_k156 : (mj_l156.all fun o => match o with | none => true | some I => jQi jqcl I) = true := by decide +kernel
theorem jq_k157 : (mj_l157.all fun o => match o with | none => true | some I => jQi jqcl I) = true := by decide +kernel
theorem jq_k158 : (mj_l158.all fun o => match o with | none => true | some I => jQi jqcl I) = true := by decide +kernel
theorem jq_k159 : (mj_l159.all fun o => match o with | none => true | some I => jQi jqcl I) = true := by decide +kernel
theorem jq_k160 : (mj_l160.all fun o => match o with | none => true | some I => jQi jqcl I) = true := by decide +kernel
theorem jq_k161 : (mj_l161.all fun o => match o with | none => true | some I => jQi jqcl I) = true := by decide +kernel
theorem jq_k162 : (mj_l162.all fun o => match o with | none => true | some I => jQi jqcl I) = true := by decide +kernel
theorem jq_k163 : (mj_l163.all fun o => match o with | none => true | some I => jQi jqcl I) = true := by decide +kernel
theorem jq_k164 : (mj_l164.all fun o => match o with | none => true | some I => jQi jqcl I) = true := by decide +kernel
theorem jq_k165 : (mj_l165.all fun o => match o with | none => true | some I => jQi jqcl I) = true := by decide +kernel
theorem jq_k166 : (mj_l166.all fun o => match o with | none => true | some I => jQi jqcl I) = true := by decide +kernel
theorem jq_k167 : (mj_l167.all fun o => match o with | none => true | some I => jQi jqcl I) = true := by decide +kernel
theorem jq_k168 : (mj_l168.all fun o => match o with | none => true | some I => jQi jqcl I) = true := by decide +kernel
theorem jq_k169 : (mj_l169.all fun o => match o with | none => true | some I => jQi jqcl I) = true := by decide +kernel
theorem jq_k170 : (mj_l170.all fun o => match o with | none => true | some I => jQi jqcl I) = true := by decide +kernel
theorem jq_k171 : (mj_l171.all fun o => match o with | none => true | some I => jQi jqcl I) = true := by decide +kernel
theorem jq_k172 : (mj_l172.all fun o => match o with | none => true | some I => jQi jqcl I) = true := by decide +kernel
theorem jq_k173 : (mj_l173.all fun o => match o with | none => true | some I => jQi jqcl I) = true := by decide +kernel
theorem jq_k174 : (mj_l174.all fun o => match o with | none => true | some I => jQi jqcl I) = true := by decide +kernel
theorem jq_k175 : (mj_l175.all fun o => match o with | none => true | some I => jQi jqcl I) = true := by decide +kernel
theorem jq_k176 : (mj_l176.all fun o => match o with | none => true | some I => jQi jqcl I) = true := by decide +kernel
theorem jq_k177 : (mj_l177.all fun o => match o with | none => true | some I => jQi jqcl I) = true := by decide +kernel
theorem jq_k178 : (mj_l178.all fun o => match o with | none => true | some I => jQi jqcl I) = true := by decide +kernel
theorem jq_k179 : (mj_l179.all fun o => match o with | none => true | some I => jQi jqcl I) = true := by decide +kernel
theorem jq_k180 : (mj_l180.all fun o => match o with | none => true | some I => jQi jqcl I) = true := by decide +kernel
theorem jq_k181 : (mj_l181.all fun o => match o with | none => true | some I => jQi jqcl I) = true := by decide +kernel
theorem jq_k182 : (mj_l182.all fun o => match o with | none => true | some I => jQi jqcl I) = true := by decide +kernel
theorem jq_k183 : (mj_l183.all fun o => match o with | none => true | some I => jQi jqcl I) = true := by decide +kernel
theorem jq_k184 : (mj_l184.all fun o => match o with | none => true | some I => jQi jqcl I) = true := by decide +kernel
theorem jq_k185 : (mj_l185.all fun o => match o with | none => true | some I => jQi jqcl I) = true := by decide +kernel
theorem jq_k186 : (mj_l186.all fun o => match o with | none => true | some I => jQi jqcl I) = true := by decide +kernel
theorem jq_k187 : (mj_l187.all fun o => match o with | none => true | some I => jQi jqcl I) = true := by decide +kernel
theorem jq_k188 : (mj_l188.all fun o => match o with | none => true | some I => jQi jqcl I) = true := by decide +kernel
theorem jq_k189 : (mj_l189.all fun o => match o with | none => true | some I => jQi jqcl I) = true := by decide +kernel
theorem jq_k190 : (mj_l190.all fun o => match o with | none => true | some I => jQi jqcl I) = true := by decide +kernel
theorem jq_k191 : (mj_l191.all fun o => match o with | none => true | some I => jQi jqcl I) = true := by decide +kernel
theorem jq_k192 : (mj_l192.all fun o => match o with | none => true | some I => jQi jqcl I) = true := by decide +kernel
theorem jq_k193 : (mj_l193.all fun o => match o with | none => true | some I => jQi jqcl I) = true := by decide +kernel
theorem jq_k194 : (mj_l194.all fun o => match o with | none => true | some I => jQi jqcl I) = true := by decide +kernel
theorem jq_k195 : (mj_l195.all fun o => match o with | none => true | some I => jQi jqcl I) = true := by decide +kernel
theorem jq_k196 : (mj_l196.all fun o => match o with | none => true | some I => jQi jqcl I) = true := by decide +kernel
theorem jq_k197 : (mj_l197.all fun o => match o with | none => true | some I => jQi jqcl I) = true := by decide +kernel
theorem jq_k198 : (mj_l198.all fun o => match o with | none => true | some I => jQi jqcl I) = true := by decide +kernel
theorem jq_k199 : (mj_l199.all fun o => match o with | none => true | some I => jQi jqcl I) = true := by decide +kernel
theorem jq_k200 : (mj_l200.all fun o => match o with | none => true | some I => jQi jqcl I) = true := by decide +kernel
theorem jq_k201 : (mj_l201.all fun o => match o with | none => true | some I => jQi jqcl I) = true := by decide +kernel
theorem jq_k202 : (mj_l202.all fun o => match o with | none => true | some I => jQi jqcl I) = true := by decide +kernel
theorem jq_k203 : (mj_l203.all fun o => match o with | none => true | some I => jQi jqcl I) = true := by decide +kernel
theorem jq_k204 : (mj_l204.all fun o => match o with | none => true | some I => jQi jqcl I) = true := by decide +kernel
theorem jq_k205 : (mj_l205.all fun o => match o with | none => true | some I => jQi jqcl I) = true := by decide +kernel
theorem jq_k206 : (mj_l206.all fun o => match o with | none => true | some I => jQi jqcl I) = true := by decide +kernel
theorem jq_k207 : (mj_l207.all fun o => match o with | none => true | some I => jQi jqcl I) = true := by decide +kernel
theorem jq_k208 : (mj_l208.all fun o => match o with | none => true | some I => jQi jqcl I) = true := by decide +kernel
theorem jq_k209 : (mj_l209.all fun o => match o with | none => true | some I => jQi jqcl I) = true := by decide +kernel
theorem jq_k210 : (mj_l210.all fun o => match o with | none => true | some I => jQi jqcl I) = true := by decide +kernel
theorem jq_k211 : (mj_l211.all fun o => match o with | none => true | some I => jQi jqcl I) = true := by decide +kernel
theorem jq_k212 : (mj_l212.all fun o => match o with | none => true | some I => jQi jqcl I) = true := by decide +kernel
theorem jq_k213 : (mj_l213.all fun o => match o with | none => true | some I => jQi jqcl I) = true := by decide +kernel
theorem jq_k214 : (mj_l214.all fun o => match o with | none => true | some I => jQi jqcl I) = true := by decide +kernel
theorem jq_k215 : (mj_l215.all fun o => match o with | none => true | some I => jQi jqcl I) = true := by decide +kernel
theorem jq_k216 : (mj_l216.all fun o => match o with | none => true | some I => jQi jqcl I) = true := by decide +kernel
theorem jq_k217 : (mj_l217.all fun o => match o with | none => true | some I => jQi jqcl I) = true := by decide +kernel
theorem jq_k218 : (mj_l218.all fun o => match o with | none => true | some I => jQi jqcl I) = true := by decide +kernel
theorem jq_k219 : (mj_l219.all fun o => match o with | none => true | some I => jQi jqcl I) = true := by decide +kernel
theorem jq_k220 : (mj_l220.all fun o => match o with | none => true | some I => jQi jqcl I) = true := by decide +kernel
theorem jq_k221 : (mj_l221.all fun o => match o with | none => true | some I => jQi jqcl I) = true := by decide +kernel
theorem jq_k222 : (mj_l222.all fun o => match o with | none => true | some I => jQi jqcl I) = true := by decide +kernel
theorem jq_k223 : (mj_l223.all fun o => match o with | none => true | some I => jQi jqcl I) = true := by decide +kernel
theorem jq_k224 : (mj_l224.all fun o => match o with | none => true | some I => jQi jqcl I) = true := by decide +kernel
theorem jq_k225 : (mj_l225.all fun o => match o with | none => true | some I => jQi jqcl I) = true := by decide +kernel
theorem jq_k226 : (mj_l226.all fun o => match o with | none => true | some I => jQi jqcl I) = true := by decide +kernel
theorem jq_k227 : (mj_l227.all fun o => match o with | none => true | some I => jQi jqcl I) = true := by decide +kernel
theorem jq_k228 : (mj_l228.all fun o => match o with | none => true | some I => jQi jqcl I) = true := by decide +kernel
theorem jq_k229 : (mj_l229.all fun o => match o with | none => true | some I => jQi jqcl I) = true := by decide +kernel
theorem jq_k230 : (mj_l230.all fun o => match o with | none => true | some I => jQi jqcl I) = true := by decide +kernel
theorem jq_k231 : (mj_l231.all fun o => match o with | none => true | some I => jQi jqcl I) = true := by decide +kernel
theorem jq_k232 : (mj_l232.all fun o => match o with | none => true | some I => jQi jqcl I) = true := by decide +kernel
theorem jq_k233 : (mj_l233.all fun o => match o with | none => true | some I => jQi jqcl I) = true := by decide +kernel
theorem jq_k234 : (mj_l234.all fun o => match o with | none => true | some I => jQi jqcl I) = true := by decide +kernel
theorem jq_k235 : (mj_l235.all fun o => match o with | none => true | some I => jQi jqcl I) = true := by decide +kernel
theorem jq_k236 : (mj_l236.all fun o => match o with | none => true | some I => jQi jqcl I) = true := by decide +kernel
theorem jq_k237 : (mj_l237.all fun o => match o with | none => true | some I => jQi jqcl I) = true := by decide +kernel
theorem jq_k238 : (mj_l238.all fun o => match o with | none => true | some I => jQi jqcl I) = true := by decide +kernel
theorem jq_k239 : (mj_l239.all fun o => match o with | none => true | some I => jQi jqcl I) = true := by decide +kernel
theorem jq_k240 : (mj_l240.all fun o => match o with | none => true | some I => jQi jqcl I) = true := by decide +kernel
theorem jq_k241 : (mj_l241.all fun o => match o with | none => true | some I => jQi jqcl I) = true := by decide +kernel
theorem jq_k242 : (mj_l242.all fun o => match o with | none => true | some I => jQi jqcl I) = true := by decide +kernel
theorem jq_k243 : (mj_l243.all fun o => match o with | none => true | some I => jQi jqcl I) = true := by decide +kernel
theorem jq_k244 : (mj_l244.all fun o => match o with | none => true | some I => jQi jqcl I) = true := by decide +kernel
theorem jq_k245 : (mj_l245.all fun o => match o with | none => true | some I => jQi jqcl I) = true := by decide +kernel
theorem jq_k246 : (mj_l246.all fun o => match o with | none => true | some I => jQi jqcl I) = true := by decide +kernel
theorem jq_k247 : (mj_l247.all fun o => match o with | none => true | some I => jQi jqcl I) = true := by decide +kernel
theorem jq_k248 : (mj_l248.all fun o => match o with | none => true | some I => jQi jqcl I) = true := by decide +kernel
theorem jq_k249 : (mj_l249.all fun o => match o with | none => true | some I => jQi jqcl I) = true := by decide +kernel
theorem jq_k250 : (mj_l250.all fun o => match o with | none => true | some I => jQi jqcl I) = true := by decide +kernel
theorem jq_k251 : (mj_l251.all fun o => match o with | none => true | some I => jQi jqcl I) = true := by decide +kernel
theorem jq_k252 : (mj_l252.all fun o => match o with | none => true | some I => jQi jqcl I) = true := by decide +kernel
theorem jq_k253 : (mj_l253.all fun o => match o with | none => true | some I => jQi jqcl I) = true := by decide +kernel
theorem jq_k254 : (mj_l254.all fun o => match o with | none => true | some I => jQi jqcl I) = true := by decide +kernel
theorem jq_k255 : (mj_l255.all fun o => match o with | none => true | some I => jQi jqcl I) = true := by decide +kernel
theorem jq_k256 : (mj_l256.all fun o => match o with | none => true | some I => jQi jqcl I) = true := by decide +kernel
theorem jq_k257 : (mj_l257.all fun o => match o with | none => true | some I => jQi jqcl I) = true := by decide +kernel
theorem jq_k258 : (mj_l258.all fun o => match o with | none => true | some I => jQi jqcl I) = true := by decide +kernel
theorem jq_k259 : (mj_l259.all fun o => match o with | none => true | some I => jQi jqcl I) = true := by decide +kernel
theorem jq_k260 : (mj_l260.all fun o => match o with | none => true | some I => jQi jqcl I) = true := by decide +kernel
theorem jq_k261 : (mj_l261.all fun o => match o with | none => true | some I => jQi jqcl I) = true := by decide +kernel
theorem jq_k262 : (mj_l262.all fun o => match o with | none => true | some I => jQi jqcl I) = true := by decide +kernel
theorem jq_k263 : (mj_l263.all fun o => match o with | none => true | some I => jQi jqcl I) = true := by decide +kernel
theorem jq_k264 : (mj_l264.all fun o => match o with | none => true | some I => jQi jqcl I) = true := by decide +kernel
theorem jq_k265 : (mj_l265.all fun o => match o with | none => true | some I => jQi jqcl I) = true := by decide +kernel
theorem jq_k266 : (mj_l266.all fun o => match o with | none => true | some I => jQi jqcl I) = true := by decide +kernel
theorem jq_k267 : (mj_l267.all fun o => match o with | none => true | some I => jQi jqcl I) = true := by decide +kernel
theorem jq_k268 : (mj_l268.all fun o => match o with | none => true | some I => jQi jqcl I) = true := by decide +kernel
theorem jq_k269 : (mj_l269.all fun o => match o with | none => true | some I => jQi jqcl I) = true := by decide +kernel
theorem jq_k270 : (mj_l270.all fun o => match o with | none => true | some I => jQi jqcl I) = true := by decide +kernel
theorem jq_k271 : (mj_l271.all fun o => match o with | none => true | some I => jQi jqcl I) = true := by decide +kernel
theorem jq_k272 : (mj_l272.all fun o => match o with | none => true | some I => jQi jqcl I) = true := by decide +kernel
theorem jq_k273 : (mj_l273.all fun o => match o with | none => true | some I => jQi jqcl I) = true := by decide +kernel
theorem jq_k274 : (mj_l274.all fun o => match o with | none => true | some I => jQi jqcl I) = true := by decide +kernel
theorem jq_k275 : (mj_l275.all fun o => match o with | none => true | some I => jQi jqcl I) = true := by decide +kernel
theorem jq_k276 : (mj_l276.all fun o => match o with | none => true | some I => jQi jqcl I) = true := by decide +kernel
theorem jq_k277 : (mj_l277.all fun o => match o with | none => true | some I => jQi jqcl I) = true := by decide +kernel
theorem jq_k278 : (mj_l278.all fun o => match o with | none => true | some I => jQi jqcl I) = true := by decide +kernel
theorem jq_k279 : (mj_l279.all fun o => match o with | none => true | some I => jQi jqcl I) = true := by decide +kernel
theorem jq_k280 : (mj_l280.all fun o => match o with | none => true | some I => jQi jqcl I) = true := by decide +kernel
theorem jq_k281 : (mj_l281.all fun o => match o with | none => true | some I => jQi jqcl I) = true := by decide +kernel
theorem jq_k282 : (mj_l282.all fun o => match o with | none => true | some I => jQi jqcl I) = true := by decide +kernel
theorem jq_k283 : (mj_l283.all fun o => match o with | none => true | some I => jQi jqcl I) = true := by decide +kernel
theorem jq_k284 : (mj_l284.all fun o => match o with | none => true | some I => jQi jqcl I) = true := by decide +kernel
theorem jq_k285 : (mj_l285.all fun o => match o with | none => true | some I => jQi jqcl I) = true := by decide +kernel
theorem jq_k286 : (mj_l286.all fun o => match o with | none => true | some I => jQi jqcl I) = true := by decide +kernel
theorem jq_k287 : (mj_l287.all fun o => match o with | none => true | some I => jQi jqcl I) = true := by decide +kernel
theorem jq_k288 : (mj_l288.all fun o => match o with | none => true | some I => jQi jqcl I) = true := by decide +kernel
theorem jq_k289 : (mj_l289.all fun o => match o with | none => true | some I => jQi jqcl I) = true := by decide +kernel
theorem jq_k290 : (mj_l290.all fun o => match o with | none => true | some I => jQi jqcl I) = true := by decide +kernel
theorem jq_k291 : (mj_l291.all fun o => match o with | none => true | some I => jQi jqcl I) = true := by decide +kernel
theorem jq_k292 : (mj_l292.all fun o => match o with | none => true | some I => jQi jqcl I) = true := by decide +kernel
theorem jq_k293 : (mj_l293.all fun o => match o with | none => true | some I => jQi jqcl I) = true := by decide +kernel
theorem jq_k294 : (mj_l294.all fun o => match o with | none => true | some I => jQi jqcl I) = true := by decide +kernel
theorem jq_k295 : (mj_l295.all fun o => match o with | none => true | some I => jQi jqcl I) = true := by decide +kernel
theorem jq_k296 : (mj_l296.all fun o => match o with | none => true | some I => jQi jqcl I) = true := by decide +kernel
theorem jq_k297 : (mj_l297.all fun o => match o with | none => true | some I => jQi jqcl I) = true := by decide +kernel
theorem jq_k298 : (mj_l298.all fun o => match o with | none => true | some I => jQi jqcl I) = true := by decide +kernel
theorem jq_k299 : (mj_l299.all fun o => match o with | none => true | some I => jQi jqcl I) = true := by decide +kernel
theorem jq_k300 : (mj_l300.all fun o => match o with | none => true | some I => jQi jqcl I) = true := by decide +kernel
theorem jq_k301 : (mj_l301.all fun o => match o with | none => true | some I => jQi jqcl I) = true := by decide +kernel
theorem jq_k302 : (mj_l302.all fun o => match o with | none => true | some I => jQi jqcl I) = true := by decide +kernel
theorem jq_k303 : (mj_l303.all fun o => match o with | none => true | some I => jQi jqcl I) = true := by decide +kernel
theorem jq_k304 : (mj_l304.all fun o => match o with | none => true | some I => jQi jqcl I) = true := by decide +kernel
theorem jq_k305 : (mj_l305.all fun o => match o with | none => true | some I => jQi jqcl I) = true := by decide +kernel
theorem jq_k306 : (mj_l306.all fun o => match o with | none => true | some I => jQi jqcl I) = true := by decide +kernel
theorem jq_k307 : (mj_l307.all fun o => match o with | none => true | some I => jQi jqcl I) = true := by decide +kernel
theorem jq_k308 : (mj_l308.all fun o => match o with | none => true | some I => jQi jqcl I) = true := by decide +kernel
theorem jq_k309 : (mj_l309.all fun o => match o with | none => true | some I => jQi jqcl I) = true := by decide +kernel
theorem jq_k310 : (mj_l310.all fun o => match o with | none => true | some I => jQi jqcl I) = true := by decide +kernel
theorem jq_k311 : (mj_l311.all fun o => match o with | none => true | some I => jQi jqcl I) = true := by decide +kernel
theorem jq_k312 : (mj_l312.all fun o => match o with | none => true | some I => jQi jqcl I) = true := by decide +kernel
theorem jq_k313 : (mj_l313.all fun o => match o with | none => true | some I => jQi jqcl I) = true := by decide +kernel
theorem jq_k314 : (mj_l314.all fun o => match o with | none => true | some I => jQi jqcl I) = true := by decide +kernel
theorem jq_k315 : (mj_l315.all fun o => match o with | none => true | some I => jQi jqcl I) = true := by decide +kernel
theorem jq_k316 : (mj_l316.all fun o => match o with | none => true | some I => jQi jqcl I) = true := by decide +kernel
theorem jq_k317 : (mj_l317.all fun o => match o with | none => true | some I => jQi jqcl I) = true := by decide +kernel
theorem jq_k318 : (mj_l318.all fun o => match o with | none => true | some I => jQi jqcl I) = true := by decide +kernel
theorem jq_k319 : (mj_l319.all fun o => match o with | none => true | some I => jQi jqcl I) = true := by decide +kernel
theorem jq_k320 : (mj_l320.all fun o => match o with | none => true | some I => jQi jqcl I) = true := by decide +kernel
theorem jq_k321 : (mj_l321.all fun o => match o with | none => true | some I => jQi jqcl I) = true := by decide +kernel
theorem jq_k323 : (mj_l323.all fun o => match o with | none => true | some I => jQi jqcl I) = true := by decide +kernel
theorem jq_k324 : (mj_l324.all fun o => match o with | none => true | some I => jQi jqcl I) = true := by decide +kernel
theorem jq_k325 : (mj_l325.all fun o => match o with | none => true | some I => jQi jqcl I) = true := by decide +kernel
theorem jq_k326 : (mj_l326.all fun o => match o with | none => true | some I => jQi jqcl I) = true := by decide +kernel
theorem jq_k327 : (mj_l327.all fun o => match o with | none => true | some I => jQi jqcl I) = true := by decide +kernel
theorem jq_k328 : (mj_l328.all fun o => match o with | none => true | some I => jQi jqcl I) = true := by decide +kernel
theorem jq_k329 : (mj_l329.all fun o => match o with | none => true | some I => jQi jqcl I) = true := by decide +kernel
theorem jq_k330 : (mj_l330.all fun o => match o with | none => true | some I => jQi jqcl I) = true := by decide +kernel
theorem jq_k331 : (mj_l331.all fun o => match o with | none => true | some I => jQi jqcl I) = true := by decide +kernel
theorem jq_k332 : (mj_l332.all fun o => match o with | none => true | some I => jQi jqcl I) = true := by decide +kernel
theorem jq_k333 : (mj_l333.all fun o => match o with | none => true | some I => jQi jqcl I) = true := by decide +kernel
theorem jq_k334 : (mj_l334.all fun o => match o with | none => true | some I => jQi jqcl I) = true := by decide +kernel
theorem jq_k335 : (mj_l335.all fun o => match o with | none => true | some I => jQi jqcl I) = true := by decide +kernel
theorem jq_k336 : (mj_l336.all fun o => match o with | none => true | some I => jQi jqcl I) = true := by decide +kernel
theorem jq_k337 : (mj_l337.all fun o => match o with | none => true | some I => jQi jqcl I) = true := by decide +kernel
theorem jq_k338 : (mj_l338.all fun o => match o with | none => true | some I => jQi jqcl I) = true := by decide +kernel
theorem jq_k339 : (mj_l339.all fun o => match o with | none => true | some I => jQi jqcl I) = true := by decide +kernel
theorem jq_k340 : (mj_l340.all fun o => match o with | none => true | some I => jQi jqcl I) = true := by decide +kernel
theorem jq_k341 : (mj_l341.all fun o => match o with | none => true | some I => jQi jqcl I) = true := by decide +kernel
theorem jq_k342 : (mj_l342.all fun o => match o with | none => true | some I => jQi jqcl I) = true := by decide +kernel
theorem jq_k343 : (mj_l343.all fun o => match o with | none => true | some I => jQi jqcl I) = true := by decide +kernel
theorem jq_k346 : (mj_l346.all fun o => match o with | none => true | some I => jQi jqcl I) = true := by decide +kernel
theorem jq_K_0 : ∀ (j : Nat) (M : mj_M), mj_P_0[j]? = some M → jqcl (0 + j) = true → jqM M := by
  intro j M h hc
  match j, h, hc with
  | 0, h, hc => cases h; exact jq_look jq_k0
  | 1, h, hc => cases h; exact jq_look jq_k1
  | 2, h, hc => cases h; exact jq_look jq_k2
  | 3, h, hc => cases h; exact jq_look jq_k3
  | 4, h, hc => cases h; exact jq_look jq_k4
  | 5, h, hc => cases h; exact jq_look jq_k5
  | 6, h, hc => cases h; exact jq_look jq_k6
  | 7, h, hc => cases h; exact jq_look jq_k7
  | 8, h, hc => cases h; exact jq_look jq_k8
  | 9, h, hc => cases h; exact jq_look jq_k9
  | 10, h, hc => cases h; exact jq_look jq_k10
  | 11, h, hc => cases h; exact jq_look jq_k11
  | 12, h, hc => cases h; exact jq_look jq_k12
  | 13, h, hc => cases h; exact jq_look jq_k13
  | 14, h, hc => cases h; exact jq_look jq_k14
  | 15, h, hc => cases h; exact jq_look jq_k15
  | 16, h, hc => cases h; exact jq_look jq_k16
  | 17, h, hc => cases h; exact jq_look jq_k17
  | 18, h, hc => cases h; exact jq_look jq_k18
  | 19, h, hc => cases h; exact jq_look jq_k19
  | 20, h, hc => cases h; exact jq_look jq_k20
  | 21, h, hc => cases h; exact jq_look jq_k21
  | 22, h, hc => cases h; exact jq_look jq_k22
  | 23, h, hc => cases h; exact jq_look jq_k23
  | 24, h, hc => cases h; exact jq_look jq_k24
  | 25, h, hc => cases h; exact jq_look jq_k25
  | 26, h, hc => cases h; exact jq_look jq_k26
  | 27, h, hc => cases h; exact jq_look jq_k27
  | 28, h, hc => cases h; exact jq_look jq_k28
  | 29, h, hc => cases h; exact jq_look jq_k29
  | 30, h, hc => cases h; exact jq_look jq_k30
  | 31, h, hc => cases h; exact jq_look jq_k31
  | 32, h, hc => cases h; exact jq_look jq_k32
  | 33, h, hc => cases h; exact jq_look jq_k33
  | 34, h, hc => cases h; exact jq_look jq_k34
  | 35, h, hc => cases h; exact jq_look jq_k35
  | 36, h, hc => cases h; exact jq_look jq_k36
  | 37, h, hc => cases h; exact jq_look jq_k37
  | 38, h, hc => cases h; exact jq_look jq_k38
  | 39, h, hc => cases h; exact jq_look jq_k39
  | 40, h, hc => cases h; exact jq_look jq_k40
  | 41, h, hc => cases h; exact jq_look jq_k41
  | 42, h, hc => cases h; exact jq_look jq_k42
  | 43, h, hc => cases h; exact jq_look jq_k43
  | 44, h, hc => cases h; exact jq_look jq_k44
  | 45, h, hc => cases h; exact jq_look jq_k45
  | 46, h, hc => cases h; exact jq_look jq_k46
  | 47, h, hc => cases h; exact jq_look jq_k47
  | 48, h, hc => cases h; exact jq_look jq_k48
  | 49, h, hc => cases h; exact jq_look jq_k49
  | j + 50, h, hc => simp [mj_P_0] at h
theorem jq_K_1 : ∀ (j : Nat) (M : mj_M), mj_P_1[j]? = some M → jqcl (50 + j) = true → jqM M := by
  intro j M h hc
  match j, h, hc with
  | 0, h, hc => cases h; exact jq_look jq_k50
  | 1, h, hc => cases h; exact jq_look jq_k51
  | 2, h, hc => cases h; exact jq_look jq_k52
  | 3, h, hc => cases h; exact jq_look jq_k53
  | 4, h, hc => cases h; exact jq_look jq_k54
  | 5, h, hc => cases h; exact jq_look jq_k55
  | 6, h, hc => cases h; exact jq_look jq_k56
  | 7, h, hc => cases h; exact jq_look jq_k57
  | 8, h, hc => cases h; exact jq_look jq_k58
  | 9, h, hc => cases h; exact jq_look jq_k59
  | 10, h, hc => cases h; exact jq_look jq_k60
  | 11, h, hc => cases h; exact jq_look jq_k61
  | 12, h, hc => cases h; exact jq_look jq_k62
  | 13, h, hc => cases h; exact jq_look jq_k63
  | 14, h, hc => cases h; exact jq_look jq_k64
  | 15, h, hc => cases h; exact jq_look jq_k65
  | 16, h, hc => cases h; exact jq_look jq_k66
  | 17, h, hc => cases h; exact jq_look jq_k67
  | 18, h, hc => cases h; exact jq_look jq_k68
  | 19, h, hc => cases h; exact jq_look jq_k69
  | 20, h, hc => cases h; exact jq_look jq_k70
  | 21, h, hc => cases h; exact jq_look jq_k71
  | 22, h, hc => cases h; exact jq_look jq_k72
  | 23, h, hc => cases h; exact jq_look jq_k73
  | 24, h, hc => cases h; exact jq_look jq_k74
  | 25, h, hc => cases h; exact jq_look jq_k75
  | 26, h, hc => cases h; exact jq_look jq_k76
  | 27, h, hc => cases h; exact jq_look jq_k77
  | 28, h, hc => cases h; exact jq_look jq_k78
  | 29, h, hc => cases h; exact jq_look jq_k79
  | 30, h, hc => exact absurd hc (by decide)
  | 31, h, hc => exact absurd hc (by decide)
  | 32, h, hc => exact absurd hc (by decide)
  | 33, h, hc => exact absurd hc (by decide)
  | 34, h, hc => exact absurd hc (by decide)
  | 35, h, hc => cases h; exact jq_look jq_k85
  | 36, h, hc => cases h; exact jq_look jq_k86
  | 37, h, hc => cases h; exact jq_look jq_k87
  | 38, h, hc => cases h; exact jq_look jq_k88
  | 39, h, hc => cases h; exact jq_look jq_k89
  | 40, h, hc => cases h; exact jq_look jq_k90
  | 41, h, hc => cases h; exact jq_look jq_k91
  | 42, h, hc => cases h; exact jq_look jq_k92
  | 43, h, hc => cases h; exact jq_look jq_k93
  | 44, h, hc => cases h; exact jq_look jq_k94
  | 45, h, hc => cases h; exact jq_look jq_k95
  | 46, h, hc => cases h; exact jq_look jq_k96
  | 47, h, hc => cases h; exact jq_look jq_k97
  | 48, h, hc => cases h; exact jq_look jq_k98
  | 49, h, hc => cases h; exact jq_look jq_k99
  | j + 50, h, hc => simp [mj_P_1] at h
theorem jq_K_2 : ∀ (j : Nat) (M : mj_M), mj_P_2[j]? = some M → jqcl (100 + j) = true → jqM M := by
  intro j M h hc
  match j, h, hc with
  | 0, h, hc => cases h; exact jq_look jq_k100
  | 1, h, hc => exact absurd hc (by decide)
  | 2, h, hc => cases h; exact jq_look jq_k102
  | 3, h, hc => cases h; exact jq_look jq_k103
  | 4, h, hc => cases h; exact jq_look jq_k104
  | 5, h, hc => cases h; exact jq_look jq_k105
  | 6, h, hc => cases h; exact jq_look jq_k106
  | 7, h, hc => cases h; exact jq_look jq_k107
  | 8, h, hc => cases h; exact jq_look jq_k108
  | 9, h, hc => cases h; exact jq_look jq_k109
  | 10, h, hc => cases h; exact jq_look jq_k110
  | 11, h, hc => cases h; exact jq_look jq_k111
  | 12, h, hc => cases h; exact jq_look jq_k112
  | 13, h, hc => cases h; exact jq_look jq_k113
  | 14, h, hc => exact absurd hc (by decide)
  | 15, h, hc => cases h; exact jq_look jq_k115
  | 16, h, hc => cases h; exact jq_look jq_k116
  | 17, h, hc => cases h; exact jq_look jq_k117
  | 18, h, hc => cases h; exact jq_look jq_k118
  | 19, h, hc => cases h; exact jq_look jq_k119
  | 20, h, hc => cases h; exact jq_look jq_k120
  | 21, h, hc => cases h; exact jq_look jq_k121
  | 22, h, hc => cases h; exact jq_look jq_k122
  | 23, h, hc => cases h; exact jq_look jq_k123
  | 24, h, hc => cases h; exact jq_look jq_k124
  | 25, h, hc => cases h; exact jq_look jq_k125
  | 26, h, hc => cases h; exact jq_look jq_k126
  | 27, h, hc => cases h; exact jq_look jq_k127
  | 28, h, hc => cases h; exact jq_look jq_k128
  | 29, h, hc => cases h; exact jq_look jq_k129
  | 30, h, hc => cases h; exact jq_look jq_k130
  | 31, h, hc => cases h; exact jq_look jq_k131
  | 32, h, hc => cases h; exact jq_look jq_k132
  | 33, h, hc => cases h; exact jq_look jq_k133
  | 34, h, hc => cases h; exact jq_look jq_k134
  | 35, h, hc => cases h; exact jq_look jq_k135
  | 36, h, hc => cases h; exact jq_look jq_k136
  | 37, h, hc => cases h; exact jq_look jq_k137
  | 38, h, hc => cases h; exact jq_look jq_k138
  | 39, h, hc => cases h; exact jq_look jq_k139
  | 40, h, hc => cases h; exact jq_look jq_k140
  | 41, h, hc => exact absurd hc (by decide)
  | 42, h, hc => cases h; exact jq_look jq_k142
  | 43, h, hc => cases h; exact jq_look jq_k143
  | 44, h, hc => exact absurd hc (by decide)
  | 45, h, hc => cases h; exact jq_look jq_k145
  | 46, h, hc => cases h; exact jq_look jq_k146
  | 47, h, hc => cases h; exact jq_look jq_k147
  | 48, h, hc => exact absurd hc (by decide)
  | 49, h, hc => cases h; exact jq_look jq_k149
  | j + 50, h, hc => simp [mj_P_2] at h
theorem jq_K_3 : ∀ (j : Nat) (M : mj_M), mj_P_3[j]? = some M → jqcl (150 + j) = true → jqM M := by
  intro j M h hc
  match j, h, hc with
  | 0, h, hc => cases h; exact jq_look jq_k150
  | 1, h, hc => cases h; exact jq_look jq_k151
  | 2, h, hc => cases h; exact jq_look jq_k152
  | 3, h, hc => cases h; exact jq_look jq_k153
  | 4, h, hc => cases h; exact jq_look jq_k154
  | 5, h, hc => cases h; exact jq_look jq_k155
  | 6, h, hc => cases h; exact jq_look jq_k156
  | 7, h, hc => cases h; exact jq_look jq_k157
  | 8, h, hc => cases h; exact jq_look jq_k158
  | 9, h, hc => cases h; exact jq_look jq_k159
  | 10, h, hc => cases h; exact jq_look jq_k160
  | 11, h, hc => cases h; exact jq_look jq_k161
  | 12, h, hc => cases h; exact jq_look jq_k162
  | 13, h, hc => cases h; exact jq_look jq_k163
  | 14, h, hc => cases h; exact jq_look jq_k164
  | 15, h, hc => cases h; exact jq_look jq_k165
  | 16, h, hc => cases h; exact jq_look jq_k166
  | 17, h, hc => cases h; exact jq_look jq_k167
  | 18, h, hc => cases h; exact jq_look jq_k168
  | 19, h, hc => cases h; exact jq_look jq_k169
  | 20, h, hc => cases h; exact jq_look jq_k170
  | 21, h, hc => cases h; exact jq_look jq_k171
  | 22, h, hc => cases h; exact jq_look jq_k172
  | 23, h, hc => cases h; exact jq_look jq_k173
  | 24, h, hc => cases h; exact jq_look jq_k174
  | 25, h, hc => cases h; exact jq_look jq_k175
  | 26, h, hc => cases h; exact jq_look jq_k176
  | 27, h, hc => cases h; exact jq_look jq_k177
  | 28, h, hc => cases h; exact jq_look jq_k178
  | 29, h, hc => cases h; exact jq_look jq_k179
  | 30, h, hc => cases h; exact jq_look jq_k180
  | 31, h, hc => cases h; exact jq_look jq_k181
  | 32, h, hc => cases h; exact jq_look jq_k182
  | 33, h, hc => cases h; exact jq_look jq_k183
  | 34, h, hc => cases h; exact jq_look jq_k184
  | 35, h, hc => cases h; exact jq_look jq_k185
  | 36, h, hc => cases h; exact jq_look jq_k186
  | 37, h, hc => cases h; exact jq_look jq_k187
  | 38, h, hc => cases h; exact jq_look jq_k188
  | 39, h, hc => cases h; exact jq_look jq_k189
  | 40, h, hc => cases h; exact jq_look jq_k190
  | 41, h, hc => cases h; exact jq_look jq_k191
  | 42, h, hc => cases h; exact jq_look jq_k192
  | 43, h, hc => cases h; exact jq_look jq_k193
  | 44, h, hc => cases h; exact jq_look jq_k194
  | 45, h, hc => cases h; exact jq_look jq_k195
  | 46, h, hc => cases h; exact jq_look jq_k196
  | 47, h, hc => cases h; exact jq_look jq_k197
  | 48, h, hc => cases h; exact jq_look jq_k198
  | 49, h, hc => cases h; exact jq_look jq_k199
  | j + 50, h, hc => simp [mj_P_3] at h
theorem jq_K_4 : ∀ (j : Nat) (M : mj_M), mj_P_4[j]? = some M → jqcl (200 + j) = true → jqM M := by
  intro j M h hc
  match j, h, hc with
  | 0, h, hc => cases h; exact jq_look jq_k200
  | 1, h, hc => cases h; exact jq_look jq_k201
  | 2, h, hc => cases h; exact jq_look jq_k202
  | 3, h, hc => cases h; exact jq_look jq_k203
  | 4, h, hc => cases h; exact jq_look jq_k204
  | 5, h, hc => cases h; exact jq_look jq_k205
  | 6, h, hc => cases h; exact jq_look jq_k206
  | 7, h, hc => cases h; exact jq_look jq_k207
  | 8, h, hc => cases h; exact jq_look jq_k208
  | 9, h, hc => cases h; exact jq_look jq_k209
  | 10, h, hc => cases h; exact jq_look jq_k210
  | 11, h, hc => cases h; exact jq_look jq_k211
  | 12, h, hc => cases h; exact jq_look jq_k212
  | 13, h, hc => cases h; exact jq_look jq_k213
  | 14, h, hc => cases h; exact jq_look jq_k214
  | 15, h, hc => cases h; exact jq_look jq_k215
  | 16, h, hc => cases h; exact jq_look jq_k216
  | 17, h, hc => cases h; exact jq_look jq_k217
  | 18, h, hc => cases h; exact jq_look jq_k218
  | 19, h, hc => cases h; exact jq_look jq_k219
  | 20, h, hc => cases h; exact jq_look jq_k220
  | 21, h, hc => cases h; exact jq_look jq_k221
  | 22, h, hc => cases h; exact jq_look jq_k222
  | 23, h, hc => cases h; exact jq_look jq_k223
  | 24, h, hc => cases h; exact jq_look jq_k224
  | 25, h, hc => cases h; exact jq_look jq_k225
  | 26, h, hc => cases h; exact jq_look jq_k226
  | 27, h, hc => cases h; exact jq_look jq_k227
  | 28, h, hc => cases h; exact jq_look jq_k228
  | 29, h, hc => cases h; exact jq_look jq_k229
  | 30, h, hc => cases h; exact jq_look jq_k230
  | 31, h, hc => cases h; exact jq_look jq_k231
  | 32, h, hc => cases h; exact jq_look jq_k232
  | 33, h, hc => cases h; exact jq_look jq_k233
  | 34, h, hc => cases h; exact jq_look jq_k234
  | 35, h, hc => cases h; exact jq_look jq_k235
  | 36, h, hc => cases h; exact jq_look jq_k236
  | 37, h, hc => cases h; exact jq_look jq_k237
  | 38, h, hc => cases h; exact jq_look jq_k238
  | 39, h, hc => cases h; exact jq_look jq_k239
  | 40, h, hc => cases h; exact jq_look jq_k240
  | 41, h, hc => cases h; exact jq_look jq_k241
  | 42, h, hc => cases h; exact jq_look jq_k242
  | 43, h, hc => cases h; exact jq_look jq_k243
  | 44, h, hc => cases h; exact jq_look jq_k244
  | 45, h, hc => cases h; exact jq_look jq_k245
  | 46, h, hc => cases h; exact jq_look jq_k246
  | 47, h, hc => cases h; exact jq_look jq_k247
  | 48, h, hc => cases h; exact jq_look jq_k248
  | 49, h, hc => cases h; exact jq_look jq_k249
  | j + 50, h, hc => simp [mj_P_4] at h
theorem jq_K_5 : ∀ (j : Nat) (M : mj_M), mj_P_5[j]? = some M → jqcl (250 + j) = true → jqM M := by
  intro j M h hc
  match j, h, hc with
  | 0, h, hc => cases h; exact jq_look jq_k250
  | 1, h, hc => cases h; exact jq_look jq_k251
  | 2, h, hc => cases h; exact jq_look jq_k252
  | 3, h, hc => cases h; exact jq_look jq_k253
  | 4, h, hc => cases h; exact jq_look jq_k254
  | 5, h, hc => cases h; exact jq_look jq_k255
  | 6, h, hc => cases h; exact jq_look jq_k256
  | 7, h, hc => cases h; exact jq_look jq_k257
  | 8, h, hc => cases h; exact jq_look jq_k258
  | 9, h, hc => cases h; exact jq_look jq_k259
  | 10, h, hc => cases h; exact jq_look jq_k260
  | 11, h, hc => cases h; exact jq_look jq_k261
  | 12, h, hc => cases h; exact jq_look jq_k262
  | 13, h, hc => cases h; exact jq_look jq_k263
  | 14, h, hc => cases h; exact jq_look jq_k264
  | 15, h, hc => cases h; exact jq_look jq_k265
  | 16, h, hc => cases h; exact jq_look jq_k266
  | 17, h, hc => cases h; exact jq_look jq_k267
  | 18, h, hc => cases h; exact jq_look jq_k268
  | 19, h, hc => cases h; exact jq_look jq_k269
  | 20, h, hc => cases h; exact jq_look jq_k270
  | 21, h, hc => cases h; exact jq_look jq_k271
  | 22, h, hc => cases h; exact jq_look jq_k272
  | 23, h, hc => cases h; exact jq_look jq_k273
  | 24, h, hc => cases h; exact jq_look jq_k274
  | 25, h, hc => cases h; exact jq_look jq_k275
  | 26, h, hc => cases h; exact jq_look jq_k276
  | 27, h, hc => cases h; exact jq_look jq_k277
  | 28, h, hc => cases h; exact jq_look jq_k278
  | 29, h, hc => cases h; exact jq_look jq_k279
  | 30, h, hc => cases h; exact jq_look jq_k280
  | 31, h, hc => cases h; exact jq_look jq_k281
  | 32, h, hc => cases h; exact jq_look jq_k282
  | 33, h, hc => cases h; exact jq_look jq_k283
  | 34, h, hc => cases h; exact jq_look jq_k284
  | 35, h, hc => cases h; exact jq_look jq_k285
  | 36, h, hc => cases h; exact jq_look jq_k286
  | 37, h, hc => cases h; exact jq_look jq_k287
  | 38, h, hc => cases h; exact jq_look jq_k288
  | 39, h, hc => cases h; exact jq_look jq_k289
  | 40, h, hc => cases h; exact jq_look jq_k290
  | 41, h, hc => cases h; exact jq_look jq_k291
  | 42, h, hc => cases h; exact jq_look jq_k292
  | 43, h, hc => cases h; exact jq_look jq_k293
  | 44, h, hc => cases h; exact jq_look jq_k294
  | 45, h, hc => cases h; exact jq_look jq_k295
  | 46, h, hc => cases h; exact jq_look jq_k296
  | 47, h, hc => cases h; exact jq_look jq_k297
  | 48, h, hc => cases h; exact jq_look jq_k298
  | 49, h, hc => cases h; exact jq_look jq_k299
  | j + 50, h, hc => simp [mj_P_5] at h
theorem jq_K_6 : ∀ (j : Nat) (M : mj_M), mj_P_6[j]? = some M → jqcl (300 + j) = true → jqM M := by
  intro j M h hc
  match j, h, hc with
  | 0, h, hc => cases h; exact jq_look jq_k300
  | 1, h, hc => cases h; exact jq_look jq_k301
  | 2, h, hc => cases h; exact jq_look jq_k302
  | 3, h, hc => cases h; exact jq_look jq_k303
  | 4, h, hc => cases h; exact jq_look jq_k304
  | 5, h, hc => cases h; exact jq_look jq_k305
  | 6, h, hc => cases h; exact jq_look jq_k306
  | 7, h, hc => cases h; exact jq_look jq_k307
  | 8, h, hc => cases h; exact jq_look jq_k308
  | 9, h, hc => cases h; exact jq_look jq_k309
  | 10, h, hc => cases h; exact jq_look jq_k310
  | 11, h, hc => cases h; exact jq_look jq_k311
  | 12, h, hc => cases h; exact jq_look jq_k312
  | 13, h, hc => cases h; exact jq_look jq_k313
  | 14, h, hc => cases h; exact jq_look jq_k314
  | 15, h, hc => cases h; exact jq_look jq_k315
  | 16, h, hc => cases h; exact jq_look jq_k316
  | 17, h, hc => cases h; exact jq_look jq_k317
  | 18, h, hc => cases h; exact jq_look jq_k318
  | 19, h, hc => cases h; exact jq_look jq_k319
  | 20, h, hc => cases h; exact jq_look jq_k320
  | 21, h, hc => cases h; exact jq_look jq_k321
  | 22, h, hc => exact absurd hc (by decide)
  | 23, h, hc => cases h; exact jq_look jq_k323
  | 24, h, hc => cases h; exact jq_look jq_k324
  | 25, h, hc => cases h; exact jq_look jq_k325
  | 26, h, hc => cases h; exact jq_look jq_k326
  | 27, h, hc => cases h; exact jq_look jq_k327
  | 28, h, hc => cases h; exact jq_look jq_k328
  | 29, h, hc => cases h; exact jq_look jq_k329
  | 30, h, hc => cases h; exact jq_look jq_k330
  | 31, h, hc => cases h; exact jq_look jq_k331
  | 32, h, hc => cases h; exact jq_look jq_k332
  | 33, h, hc => cases h; exact jq_look jq_k333
  | 34, h, hc => cases h; exact jq_look jq_k334
  | 35, h, hc => cases h; exact jq_look jq_k335
  | 36, h, hc => cases h; exact jq_look jq_k336
  | 37, h, hc => cases h; exact jq_look jq_k337
  | 38, h, hc => cases h; exact jq_look jq_k338
  | 39, h, hc => cases h; exact jq_look jq_k339
  | 40, h, hc => cases h; exact jq_look jq_k340
  | 41, h, hc => cases h; exact jq_look jq_k341
  | 42, h, hc => cases h; exact jq_look jq_k342
  | 43, h, hc => cases h; exact jq_look jq_k343
  | 44, h, hc => exact absurd hc (by decide)
  | 45, h, hc => exact absurd hc (by decide)
  | 46, h, hc => cases h; exact jq_look jq_k346
  | j + 47, h, hc => simp [mj_P_6] at h
theorem jq_app {a b : List mj_M} {o n : Nat} (hn : a.length = n) (ha : ∀ (j : Nat) (M : mj_M), a[j]? = some M → jqcl (o + j) = true → jqM M) (hb : ∀ (j : Nat) (M : mj_M), b[j]? = some M → jqcl (o + n + j) = true → jqM M) : ∀ (j : Nat) (M : mj_M), (a ++ b)[j]? = some M → jqcl (o + j) = true → jqM M := by
  intro j M h hc
  by_cases hj : j < a.length
  · rw [List.getElem?_append_left hj] at h
    exact ha j M h hc
  · rw [List.getElem?_append_right (by omega)] at h
    refine hb _ M h ?_
    rw [show o + n + (j - a.length) = o + j by omega]
    exact hc
theorem jq_all : ∀ (j : Nat) (M : mj_M), mj_P[j]? = some M → jqcl j = true → jqM M := fun j M h hc => (jq_app (n := 50) (o := 0) rfl jq_K_0 (jq_app (n := 50) (o := 50) rfl jq_K_1 (jq_app (n := 50) (o := 100) rfl jq_K_2 (jq_app (n := 50) (o := 150) rfl jq_K_3 (jq_app (n := 50) (o := 200) rfl jq_K_4 (jq_app (n := 50) (o := 250) rfl jq_K_5 jq_K_6)))))) j M h (by rw [Nat.zero_add]; exact hc)
theorem mj_Ok.qt {D j : Nat} {as : List Value} {h : mj_H} {Q : mj_R → Prop} (c : mj_Ok D j as h Q) (hj : jqcl j = true) : mj_Ok D j as h (fun r => Q r ∧ jqt h r.2) := by
  obtain ⟨F, r, h1, h2⟩ := c
  exact ⟨F, r, h1, h2, jqt.run jq_all F D j as h r hj h1⟩
/-! The class's heap with four cells apart: the object itself, the buffer, its bytes, the reader. -/
noncomputable def cK0 (a : Nat) : Nat := if a = 1 ∨ a = 13 ∨ a = 14 ∨ a = 455 then 0 else cK a
theorem cK0_0 {a : Nat} (h : a = 1 ∨ a = 13 ∨ a = 14 ∨ a = 455) : cK0 a = 0 := if_pos h
theorem cK0_e {a : Nat} (h : ¬ (a = 1 ∨ a = 13 ∨ a = 14 ∨ a = 455)) : cK0 a = cK a := if_neg h
theorem cK0_n {a : Nat} (h : cK0 a ≠ 0) : ¬ (a = 1 ∨ a = 13 ∨ a = 14 ∨ a = 455) ∧ cK a = cK0 a ∧ cK a ≠ 0 := by
  by_cases c : a = 1 ∨ a = 13 ∨ a = 14 ∨ a = 455
  · exact absurd (cK0_0 c) h
  · have e := cK0_e c
    exact ⟨c, e.symm, by rw [← e]; exact h⟩
theorem cK4 : cK 1 = 19 ∧ cK 13 = 27 ∧ cK 14 = 3 ∧ cK 455 = 14 ∧ cL 14 = 200 ∧ cR 13 0 = 14 ∧ cR 455 0 = 19 ∧ cR 455 5 = 456 ∧ cR 455 6 = 466 ∧ cR 455 7 = 476 ∧ cR 1 4 = 13 ∧ cR 1 10 = 455 := by decide +kernel
theorem cT0_1 : ((List.range 563).all (fun a => decide (cK0 a = 0) || (List.range (jfs (cK0 a)).length).all fun i => match (jfs (cK0 a))[i]? with | some c => decide (c < 100) || decide (cK0 (cR a i) = c - 100) | none => true)) = true := by decide +kernel
theorem cT0_3 : ((List.range 563).all (fun a => !(decide (4 ≤ cK0 a) && decide (cK0 a ≤ 7)) || ((List.range (cL a)).all fun i => decide (cK0 (cR a i) = jae (cK0 a))))) = true := by decide +kernel
theorem cT0_k : ((List.range 563).all (fun a => decide (cK0 a = 0) || (!decide (cK0 a = 27) && !decide (cK0 a = 14)))) = true := by decide +kernel
theorem cK0_k {a : Nat} (h : cK0 a ≠ 0) : cK0 a ≠ 27 ∧ cK0 a ≠ 14 := by
  have h1 := cK0_n h
  have h2 := jall cT0_k (cK_in h1.2.2)
  simp only [h, decide_false, Bool.false_or, Bool.and_eq_true, Bool.not_eq_true', decide_eq_false_iff_not] at h2
  exact h2
theorem cTY0 : jTY cK0 cL cR := by
  have nz : ∀ a, cK0 a ≠ 0 → a < 563 ∧ cK a = cK0 a := fun a h => ⟨cK_in (cK0_n h).2.2, (cK0_n h).2.1⟩
  refine ⟨fun a i c hi hc => ?_, fun a h1 h2 => ?_, fun a i h1 h2 h3 => ?_, fun a h1 => ?_, fun a h1 => ?_, fun a h1 => ?_, fun a b h1 h2 => ?_, fun a h1 => ?_⟩
  · have h0 : cK0 a ≠ 0 := fun q => by rw [q] at hi; exact absurd hi (by simp [jfs])
    have h1 := jall cT0_1 (nz a h0).1
    simp only [h0, decide_false, Bool.false_or] at h1
    have h1 := jall h1 (List.getElem?_eq_some_iff.mp hi).1
    simp only [hi, Bool.or_eq_true, decide_eq_true_eq] at h1
    omega
  · have h0 : cK0 a ≠ 0 := by omega
    rw [← (nz a h0).2] at h1 h2 ⊢
    exact cTY.2.1 a h1 h2
  · have h0 : cK0 a ≠ 0 := by omega
    have h4 := jall cT0_3 (nz a h0).1
    simp only [h1, h2, decide_true, Bool.and_self, Bool.not_true, Bool.false_or] at h4
    exact of_decide_eq_true (jall h4 h3)
  · exact cTY.2.2.2.1 a (by rw [(nz a (by omega)).2]; exact h1)
  · exact cTY.2.2.2.2.1 a (by rw [(nz a (by omega)).2]; exact h1)
  · exact cTY.2.2.2.2.2.1 a (by rw [(nz a (by omega)).2]; exact h1)
  · exact absurd h1 (cK0_k (by omega)).1
  · exact cTY.2.2.2.2.2.2.2 a (by rw [(nz a (by omega)).2]; exact h1)
theorem jCf.mv2 {K K' L : Nat → Nat} {R : Nat → Nat → Nat} {tm tm' : Int} {k a : Nat} {e : mj_E} (h1 : k ≠ 14) (h2 : k ≠ 27) (q : jCf K' L R tm' k a e) : jCf K L R tm k a e := by
  unfold jCf at q ⊢
  by_cases c7 : k ≤ 7
  · rw [if_pos c7] at q ⊢
    exact q
  · rw [if_neg c7] at q ⊢
    obtain ⟨fs, q1, q2, q3⟩ := q
    refine ⟨fs, q1, q2, fun i c hi => ?_⟩
    obtain ⟨v, v1, v2⟩ := q3 i c hi
    refine ⟨v, v1, ?_⟩
    have hm := List.mem_of_getElem? hi
    have hc : c ≠ 4 ∧ c ≠ 7 := by
      revert hm
      unfold jfs
      split
      all_goals first | (exact absurd rfl h1) | (exact absurd rfl h2) | (intro hm; exact ⟨fun q => by subst q; exact absurd hm (by decide), fun q => by subst q; exact absurd hm (by decide)⟩)
    unfold jfv at v2 ⊢
    by_cases p1 : 100 ≤ c
    · rw [if_pos p1] at v2 ⊢
      exact v2
    · rw [if_neg p1] at v2 ⊢
      by_cases p2 : c = 1
      · rw [if_pos p2] at v2 ⊢
        exact v2
      · rw [if_neg p2, if_neg hc.1] at v2 ⊢
        obtain ⟨y, y1, y2, y3⟩ := v2
        refine ⟨y, ?_, ?_, y3⟩
        · unfold jlo at y1 ⊢
          split <;> first | (exact absurd rfl hc.2) | (simp only at y1; exact y1) | omega
        · unfold jhi at y2 ⊢
          split <;> first | (exact absurd rfl hc.2) | (simp only at y2; exact y2) | omega
/-- from the whole to the four apart -/
theorem jO.fr {g h : mj_H} {n : Nat} {tm : Int} (o : jO cK cL cR g n tm h) : jO cK0 cL cR h n 0 h := ⟨o.1, ⟨by decide, by decide⟩, fun _ _ => ⟨fun _ => rfl, fun p q => absurd p (by rw [o.1]; omega)⟩, fun a ha => by
  obtain ⟨c, e, hc⟩ := cK0_n ha
  obtain ⟨x, h1, h2⟩ := o.2.2.2 a hc
  rw [e] at h2
  exact ⟨x, h1, h2.mv2 (cK0_k ha).2 (cK0_k ha).1⟩⟩
/-- and back -/
theorem jO.un {g h : mj_H} {n : Nat} {tm' tm : Int} (o : jO cK0 cL cR g n tm' h) (ht : 0 ≤ tm ∧ tm ≤ 200) (h4 : ∀ a, (a = 1 ∨ a = 13 ∨ a = 14 ∨ a = 455) → ∃ e, h[a]? = some e ∧ jCf cK cL cR tm (cK a) a e) : jO cK cL cR h n tm h := ⟨o.1, ht, fun _ _ => ⟨fun _ => rfl, fun p q => absurd p (by rw [o.1]; omega)⟩, fun a ha => by
  by_cases c : a = 1 ∨ a = 13 ∨ a = 14 ∨ a = 455
  · exact h4 a c
  · have e := cK0_e c
    obtain ⟨x, h1, h2⟩ := o.2.2.2 a (by rw [e]; exact ha)
    rw [e] at h2
    exact ⟨x, h1, h2.mv2 (by rw [← e]; exact (cK0_k (by rw [e]; exact ha)).2) (by rw [← e]; exact (cK0_k (by rw [e]; exact ha)).1)⟩⟩
/-- a call that goes by the four apart -/
theorem jO.self0 {g h : mj_H} {n : Nat} {tm : Int} (o : jO cK0 cL cR g n tm h) : jO cK0 cL cR h n tm h := o.self
/-! What is known of the four. -/
/-- a byte as it is kept -/
def jbv (v : Int) : Value := .int (jn v).toInt8.toInt32
/-- the buffer: its length, its bytes -/
def jBuf (tm : Nat) (T : Nat → Int) (h : mj_H) : Prop := h[13]? = some (.inr (7, [.ref 14, .int (jn (tm : Int))])) ∧ ∃ f : Nat → Value, h[14]? = some (.inl (2, 200, f)) ∧ ∀ j : Nat, j < tm → f j = jbv (T j)
/-- where the error is, and the bytes -/
def jcx (er tm : Int) (T : Nat → Int) (h : mj_H) : Prop := (∃ fs : List Value, h[1]? = some (.inr (9, fs)) ∧ fs[15]? = some (.int (jn er))) ∧ ∃ f : Nat → Value, h[14]? = some (.inl (2, 200, f)) ∧ ∀ j : Nat, (j : Int) < tm → f j = jbv (T j)
theorem jcx.qt {er tm : Int} {T : Nat → Int} {h h' : mj_H} (x : jcx er tm T h) (q : jqt h h') : jcx er tm T h' := by
  obtain ⟨⟨fs, h1, h2⟩, f, h3, h4⟩ := x
  obtain ⟨fs', e1, e2⟩ := (q 1).2 fs h1
  exact ⟨⟨fs', e1, by rw [e2]; exact h2⟩, f, (q 14).1 200 f h3, h4⟩
theorem jcx.le {er tm tm' : Int} {T : Nat → Int} {h : mj_H} (x : jcx er tm T h) (hl : tm' ≤ tm) : jcx er tm' T h := ⟨x.1, by
  obtain ⟨f, h3, h4⟩ := x.2
  exact ⟨f, h3, fun j hj => h4 j (by omega)⟩⟩
theorem jfv_at {K : Nat → Nat} {R : Nat → Nat → Nat} {tm : Int} {c a i : Nat} {v : Value} (hc : 100 ≤ c) (q : jfv K R tm c a i v) : v = .ref (R a i) := by
  unfold jfv at q
  rw [if_pos hc] at q
  exact q
theorem jO.buf {g h : mj_H} {n tm : Nat} (o : jO cK cL cR g n (tm : Int) h) : h[13]? = some (.inr (7, [.ref 14, .int (jn (tm : Int))])) := by
  obtain ⟨fs, h1, h2, h3⟩ := o.obj (a := 13) cK4.2.1 (by decide)
  obtain ⟨v0, a0, b0⟩ := h3 0 103 rfl
  obtain ⟨v1, a1, b1⟩ := h3 1 7 rfl
  have e0 := jfv_at (by decide) b0
  rw [cK4.2.2.2.2.2.1] at e0
  obtain ⟨x, x1, x2, e1⟩ := jfv_int rfl b1
  have x1 : (tm : Int) ≤ x := x1
  have x2 : x ≤ (tm : Int) := x2
  have ex : x = (tm : Int) := by omega
  subst ex
  have h2 : fs.length = 2 := h2
  match fs, h2, a0, a1 with
  | [y0, y1], _, a0, a1 =>
    cases a0
    cases a1
    rw [h1, e0, e1]
    rfl
theorem jcx.jBuf {g h : mj_H} {n tm : Nat} {er : Int} {T : Nat → Int} (x : jcx er (tm : Int) T h) (o : jO cK cL cR g n (tm : Int) h) : jBuf tm T h := ⟨o.buf, by
  obtain ⟨f, h3, h4⟩ := x.2
  exact ⟨f, h3, fun j hj => h4 j (by omega)⟩⟩
/-- the reader's fields -/
def RF (a e t : Int) : List Value := [.ref 19, .ref 13, .int (jn a), .int (jn e), .int (jn t), .ref 456, .ref 466, .ref 476]
theorem jO.rdr {g h : mj_H} {n : Nat} {tm : Int} (o : jO cK cL cR g n tm h) : ∃ (b : Nat) (a e t : Int), h[455]? = some (.inr (4, [.ref 19, .ref b, .int (jn a), .int (jn e), .int (jn t), .ref 456, .ref 466, .ref 476])) := by
  obtain ⟨fs, h1, h2, h3⟩ := o.obj (a := 455) cK4.2.2.2.1 (by decide)
  obtain ⟨v0, a0, b0⟩ := h3 0 111 rfl
  obtain ⟨v1, a1, b1⟩ := h3 1 4 rfl
  obtain ⟨v2, a2, b2⟩ := h3 2 0 rfl
  obtain ⟨v3, a3, b3⟩ := h3 3 0 rfl
  obtain ⟨v4, a4, b4⟩ := h3 4 2 rfl
  obtain ⟨v5, a5, b5⟩ := h3 5 106 rfl
  obtain ⟨v6, a6, b6⟩ := h3 6 106 rfl
  obtain ⟨v7, a7, b7⟩ := h3 7 102 rfl
  have e0 := jfv_at (by decide) b0
  have e5 := jfv_at (by decide) b5
  have e6 := jfv_at (by decide) b6
  have e7 := jfv_at (by decide) b7
  rw [cK4.2.2.2.2.2.2.1] at e0
  rw [cK4.2.2.2.2.2.2.2.1] at e5
  rw [cK4.2.2.2.2.2.2.2.2.1] at e6
  rw [cK4.2.2.2.2.2.2.2.2.2.1] at e7
  obtain ⟨b, _, e1⟩ := b1
  obtain ⟨x2, _, _, e2⟩ := jfv_int rfl b2
  obtain ⟨x3, _, _, e3⟩ := jfv_int rfl b3
  obtain ⟨x4, _, _, e4⟩ := jfv_int rfl b4
  have h2 : fs.length = 8 := h2
  refine ⟨b, x2, x3, x4, ?_⟩
  match fs, h2, a0, a1, a2, a3, a4, a5, a6, a7 with
  | [y0, y1, y2, y3, y4, y5, y6, y7], _, a0, a1, a2, a3, a4, a5, a6, a7 =>
    cases a0; cases a1; cases a2; cases a3; cases a4; cases a5; cases a6; cases a7
    rw [h1, e0, e1, e2, e3, e4, e5, e6, e7]
    rfl
theorem jCf_rdr {a e t tm : Int} (ha : jr a) (he : jr e) (ht : t = 0 ∨ t = 1) : jCf cK cL cR tm (cK 455) 455 (.inr (4, RF a e t)) := jCf.obj 14 (by decide) cK4.2.2.2.1 rfl rfl (fun i cd hi => by
  match i, hi with
  | 0, hi => cases hi; exact ⟨_, rfl, jfv.ref (by decide) cK4.2.2.2.2.2.2.1⟩
  | 1, hi => cases hi; exact ⟨_, rfl, jfv.txt (Or.inr cK4.2.1)⟩
  | 2, hi => cases hi; exact ⟨_, rfl, jfv_mk rfl ha.1 (by have := ha.2; show a ≤ 2147483647; omega)⟩
  | 3, hi => cases hi; exact ⟨_, rfl, jfv_mk rfl he.1 (by have := he.2; show e ≤ 2147483647; omega)⟩
  | 4, hi => cases hi; exact ⟨_, rfl, jfv_mk rfl (by show (0 : Int) ≤ t; omega) (by show t ≤ 1; omega)⟩
  | 5, hi => cases hi; exact ⟨_, rfl, jfv.ref (by decide) cK4.2.2.2.2.2.2.2.1⟩
  | 6, hi => cases hi; exact ⟨_, rfl, jfv.ref (by decide) cK4.2.2.2.2.2.2.2.2.1⟩
  | 7, hi => cases hi; exact ⟨_, rfl, jfv.ref (by decide) cK4.2.2.2.2.2.2.2.2.2.1⟩
  | i + 8, hi => exact absurd hi (by simp [jfs]))
theorem jCf_buf {tm : Nat} : jCf cK cL cR (tm : Int) (cK 13) 13 (.inr (7, [.ref 14, .int (jn (tm : Int))])) := jCf.obj 27 (by decide) cK4.2.1 rfl rfl (fun i cd hi => by
  match i, hi with
  | 0, hi => cases hi; exact ⟨_, rfl, jfv.ref (by decide) cK4.2.2.2.2.2.1⟩
  | 1, hi => cases hi; exact ⟨_, rfl, jfv_mk rfl (Int.le_refl _) (Int.le_refl _)⟩
  | i + 2, hi => exact absurd hi (by simp [jfs]))
/-! The buffer, exactly: at, put, putBytes, append. -/
theorem mj_Ok.and {D j : Nat} {as : List Value} {h : mj_H} {Q1 Q2 : mj_R → Prop} (c1 : mj_Ok D j as h Q1) (c2 : mj_Ok D j as h Q2) : mj_Ok D j as h (fun r => Q1 r ∧ Q2 r) := by
  obtain ⟨F1, r1, a1, b1⟩ := c1
  obtain ⟨F2, r2, a2, b2⟩ := c2
  have e1 := mj_run_up mj_P (Nat.le_refl D) (Nat.le_max_left F1 F2) a1
  have e2 := mj_run_up mj_P (Nat.le_refl D) (Nat.le_max_right F1 F2) a2
  rw [e1] at e2
  cases e2
  exact ⟨max F1 F2, r1, e1, b1, b2⟩
theorem jb_255 : ∀ v : Nat, v < 256 → (jn (v : Int)).toInt8.toInt32 &&& jn 255 = jn (v : Int) := by decide +kernel
section JBT
variable {D tm : Nat} {T : Nat → Int} {h : mj_H}
theorem rq_at {i : Int} (b : jBuf tm T h) (ht : tm ≤ 200) (hT : ∀ j : Nat, j < tm → 1 ≤ T j ∧ T j ≤ 255) (hi : jr i) : mj_Ok (D + 1) 79 [.ref 13, .int (jn i)] h (fun r => r = (.inl (some (.int (jn (if 0 ≤ i ∧ i < (tm : Int) then T i.toNat else -1)))), h)) := by
  obtain ⟨b1, f, b2, b3⟩ := b
  have no : ¬ (0 ≤ i ∧ i < (tm : Int)) → mj_T D mj_m79 34 [some (.ref 13), some (.int (jn i))] [] h (fun r => r = (.inl (some (.int (jn (if 0 ≤ i ∧ i < (tm : Int) then T i.toNat else -1)))), h)) := fun hn => by
    rw [if_neg hn]
    refine mj_T.pl rfl rfl rfl rfl ?_
    exact mj_T.ret rfl rfl rfl rfl
  refine mj_Ok.of (M := mj_m79) (loc := [some (.ref 13), some (.int (jn i))]) rfl rfl rfl ?_
  refine mj_T.pl rfl rfl rfl rfl ?_
  refine mj_T.if0 (a := i) rfl hi (fun c => ?_) (fun c => ?_)
  · have c := of_decide_eq_true c
    exact no (by omega)
  have c := of_decide_eq_false c
  iterate 2 refine mj_T.pl rfl rfl rfl rfl ?_
  refine mj_T.gfl rfl b1 rfl ?_
  refine mj_T.icmp (a := i) (b := (tm : Int)) rfl hi ⟨by omega, by omega⟩ (fun c2 => ?_) (fun c2 => ?_)
  · have c2 := of_decide_eq_true c2
    exact no (by omega)
  have c2 := of_decide_eq_false c2
  iterate 2 refine mj_T.pl rfl rfl rfl rfl ?_
  refine mj_T.gfl rfl b1 rfl ?_
  refine mj_T.alen rfl b2 ?_
  refine mj_T.icmp (a := i) (b := 200) rfl hi ⟨by decide, by decide⟩ (fun c3 => ?_) (fun c3 => ?_)
  · have c3 := of_decide_eq_true c3
    omega
  refine mj_T.pl rfl rfl rfl rfl ?_
  refine mj_T.gfl rfl b1 rfl ?_
  refine mj_T.pl rfl rfl rfl rfl ?_
  obtain ⟨k, rfl⟩ := Int.eq_ofNat_of_zero_le (show 0 ≤ i by omega)
  have hin : mj_in (jn (k : Int)) 200 = true := by rw [jn_in hi]; exact decide_eq_true ⟨by omega, by omega⟩
  have hn : (jn (k : Int)).toNatClampNeg = k := by rw [jn_nat (by omega) hi]; rfl
  refine mj_T.step (pc' := 27) (loc' := [some (.ref 13), some (.int (jn (k : Int)))]) (st' := [jbv (T k)]) (h' := h) rfl rfl (by simp only [mj_step, b2, hin, hn, b3 k (by omega), true_and, if_true]) ?_
  refine mj_T.pl rfl rfl rfl rfl ?_
  have hTk := hT k (by omega)
  have e : (jn (T k)).toInt8.toInt32 &&& Int32.ofInt 255 = jn (T k) := by
    have := jb_255 (T k).toNat (by omega)
    rw [Int.toNat_of_nonneg (by omega)] at this
    exact this
  refine mj_T.step (pc' := 31) (loc' := [some (.ref 13), some (.int (jn (k : Int)))]) (st' := [.int (jn (T k))]) (h' := h) rfl rfl (by simp only [mj_step, jbv, e]) ?_
  refine mj_T.pl rfl rfl rfl rfl ?_
  refine mj_T.ret rfl rfl rfl ?_
  rw [if_pos ⟨by omega, by omega⟩]
  rfl
/-- all else stays -/
def jBf (h h' : mj_H) : Prop := h'.length = h.length ∧ ∀ a : Nat, a ≠ 13 → a ≠ 14 → h'[a]? = h[a]?
theorem jBf.rf : jBf h h := ⟨rfl, fun _ _ _ => rfl⟩
theorem jBf.tr {h1 h2 : mj_H} (p : jBf h h1) (q : jBf h1 h2) : jBf h h2 := ⟨q.1.trans p.1, fun a x y => (q.2 a x y).trans (p.2 a x y)⟩
theorem rq_put {v : Int} (b : jBuf tm T h) (ht : tm < 200) : mj_Ok (D + 1) 80 [.ref 13, .int (jn v)] h (fun r => ∃ h', r = (.inl none, h') ∧ jBuf (tm + 1) (jvu T tm v) h' ∧ jBf h h') := by
  obtain ⟨b1, f, b2, b3⟩ := b
  have hl1 := (List.getElem?_eq_some_iff.mp b1).1
  have hl2 := (List.getElem?_eq_some_iff.mp b2).1
  refine mj_Ok.of (M := mj_m80) (loc := [some (.ref 13), some (.int (jn v))]) rfl rfl rfl ?_
  refine mj_T.pl rfl rfl rfl rfl ?_
  refine mj_T.gfl rfl b1 rfl ?_
  refine mj_T.if0 (a := (tm : Int)) rfl ⟨by omega, by omega⟩ (fun c => ?_) (fun c => ?_)
  · simp only [jc, decide_eq_true_eq] at c
    omega
  clear c
  refine mj_T.pl rfl rfl rfl rfl ?_
  refine mj_T.gfl rfl b1 rfl ?_
  refine mj_T.pl rfl rfl rfl rfl ?_
  refine mj_T.gfl rfl b1 rfl ?_
  refine mj_T.alen rfl b2 ?_
  refine mj_T.icmp (a := (tm : Int)) (b := 200) rfl ⟨by omega, by omega⟩ ⟨by decide, by decide⟩ (fun c => ?_) (fun c => ?_)
  · have c := of_decide_eq_true c
    omega
  clear c
  refine mj_T.pl rfl rfl rfl rfl ?_
  refine mj_T.gfl rfl b1 rfl ?_
  refine mj_T.pl rfl rfl rfl rfl ?_
  refine mj_T.gfl rfl b1 rfl ?_
  iterate 2 refine mj_T.pl rfl rfl rfl rfl ?_
  have hj : jr (tm : Int) := ⟨by omega, by omega⟩
  have hin : mj_in (jn (tm : Int)) 200 = true := by rw [jn_in hj]; exact decide_eq_true ⟨by omega, by omega⟩
  have hn : (jn (tm : Int)).toNatClampNeg = tm := by rw [jn_nat (by omega) hj]; rfl
  have e8 : (jn v).toInt8.toInt32.toInt8 = (jn v).toInt8 := Int8.toInt8_toInt32 _
  refine mj_T.step (pc' := 30) (loc' := [some (.ref 13), some (.int (jn v))]) (st' := []) (h' := h.set 14 (.inl (2, 200, updV f tm (jbv v)))) rfl rfl (by simp only [mj_step, b2, hin, hn, e8, true_and, if_true, jbv]) ?_
  have g1 : (h.set 14 (.inl (2, 200, updV f tm (jbv v))))[13]? = some (.inr (7, [.ref 14, .int (jn (tm : Int))])) := by rw [List.getElem?_set_ne (by decide)]; exact b1
  iterate 2 refine mj_T.pl rfl rfl rfl rfl ?_
  refine mj_T.gfl rfl g1 rfl ?_
  refine mj_T.pl rfl rfl rfl rfl ?_
  refine mj_T.iadd rfl ?_
  refine mj_T.pfl rfl g1 (Nat.le_of_ble_eq_true rfl) rfl ?_
  refine mj_T.ret rfl rfl rfl ⟨_, rfl, ⟨?_, updV f tm (jbv v), ?_, fun j hj => ?_⟩, ?_, fun a x y => ?_⟩
  · rw [List.getElem?_set_self (by rw [List.length_set]; exact hl1)]
    rfl
  · rw [List.getElem?_set_ne (by decide), List.getElem?_set_self hl2]
  · unfold updV
    by_cases c : j = tm
    · subst c
      rw [if_pos rfl, jvu_at]
    · rw [if_neg c, jvu_ne _ _ _ c]
      exact b3 j (by omega)
  · rw [List.length_set, List.length_set]
  · rw [List.getElem?_set_ne (Ne.symm x), List.getElem?_set_ne (Ne.symm y)]
/-- one byte more, if it is not 0 -/
def pb1 (b : Nat) (p : Nat × (Nat → Int)) : Nat × (Nat → Int) := if b = 0 then p else (p.1 + 1, jvu p.2 p.1 (b : Int))
theorem pb1_le (b : Nat) (p : Nat × (Nat → Int)) : p.1 ≤ (pb1 b p).1 := by
  unfold pb1
  split
  · exact Nat.le_refl _
  · exact Nat.le_succ _
def pb4 (x : Int32) (p : Nat × (Nat → Int)) : Nat × (Nat → Int) := pb1 (mq_byt x 0) (pb1 (mq_byt x 1) (pb1 (mq_byt x 2) (pb1 (mq_byt x 3) p)))
theorem pb4_le (x : Int32) (p : Nat × (Nat → Int)) : p.1 ≤ (pb4 x p).1 := Nat.le_trans (pb1_le _ p) (Nat.le_trans (pb1_le _ _) (Nat.le_trans (pb1_le _ _) (pb1_le _ _)))
theorem rb81_step {s : Nat} {x : Int32} {l3 : Option Value} {Q : mj_R → Prop} {p : Nat × (Nat → Int)} (b : jBuf p.1 p.2 h) (hs : s = 24 ∨ s = 16 ∨ s = 8 ∨ s = 0) (hroom : (pb1 (mq_byt x (s / 8)) p).1 ≤ 200) (k : ∀ h' l3', jBuf (pb1 (mq_byt x (s / 8)) p).1 (pb1 (mq_byt x (s / 8)) p).2 h' → jBf h h' → mj_T (D + 1) mj_m81 3 [some (.ref 13), some (.int x), some (.int (jn ((s : Nat) + -8))), l3'] [] h' Q) : mj_T (D + 1) mj_m81 3 [some (.ref 13), some (.int x), some (.int (jn (s : Nat))), l3] [] h Q := by
  have hb := jb_byt_lt x (s / 8)
  refine mj_T.pl rfl rfl rfl rfl ?_
  refine mj_T.if0 rfl ⟨by omega, by omega⟩ (fun hc => ?_) (fun hc => ?_)
  · simp only [jc, decide_eq_true_eq] at hc; omega
  iterate 5 refine mj_T.pl rfl rfl rfl rfl ?_
  refine mj_T.eq (st2 := [.int (jn (mq_byt x (s / 8) : Nat))]) ?_ rfl rfl (congrArg (fun v => [Value.int v]) (jb_shr x hs)) rfl
  refine mj_T.pl (loc' := [some (.ref 13), some (.int x), some (.int (jn (s : Nat))), some (.int (jn (mq_byt x (s / 8) : Nat)))]) rfl rfl rfl rfl ?_
  have fin : ∀ h', jBuf (pb1 (mq_byt x (s / 8)) p).1 (pb1 (mq_byt x (s / 8)) p).2 h' → jBf h h' → mj_T (D + 1) mj_m81 24 [some (.ref 13), some (.int x), some (.int (jn (s : Nat))), some (.int (jn (mq_byt x (s / 8) : Nat)))] [] h' Q := fun h' o' f' => by
    refine mj_T.iinc (a := (s : Int)) rfl rfl ?_
    exact mj_T.pl rfl rfl rfl rfl (k h' _ o' f')
  refine mj_T.pl rfl rfl rfl rfl ?_
  refine mj_T.if0 rfl ⟨by omega, by omega⟩ (fun hc => ?_) (fun hc => ?_)
  · simp only [jc, decide_eq_true_eq] at hc
    refine fin h ?_ jBf.rf
    rw [show pb1 (mq_byt x (s / 8)) p = p from if_pos (by omega)]
    exact b
  · simp only [jc, decide_eq_false_iff_not] at hc
    have hn : mq_byt x (s / 8) ≠ 0 := by omega
    have e : pb1 (mq_byt x (s / 8)) p = (p.1 + 1, jvu p.2 p.1 ((mq_byt x (s / 8) : Nat) : Int)) := if_neg hn
    rw [e] at fin hroom
    iterate 2 refine mj_T.pl rfl rfl rfl rfl ?_
    refine mj_T.call rfl rfl (Nat.le_of_ble_eq_true rfl) (Nat.le_of_ble_eq_true rfl) (by simp [mj_recv, b.1]) rfl (rq_put (D := D) b (by simp only at hroom; omega)) (fun v h' hq => ?_) (fun i h' hq => by obtain ⟨_, hq, _⟩ := hq; cases hq)
    obtain ⟨h2, hq, o2, f2⟩ := hq
    cases hq
    exact fin _ o2 f2
theorem rq_putBytes {x : Int32} {p : Nat × (Nat → Int)} (b : jBuf p.1 p.2 h) (hr : (pb4 x p).1 ≤ 200) : mj_Ok (D + 2) 81 [.ref 13, .int x] h (fun r => ∃ h', r = (.inl none, h') ∧ jBuf (pb4 x p).1 (pb4 x p).2 h' ∧ jBf h h') := by
  refine mj_Ok.of (M := mj_m81) (loc := [some (.ref 13), some (.int x), none, none]) rfl rfl rfl ?_
  have r0 : (pb1 (mq_byt x 0) (pb1 (mq_byt x 1) (pb1 (mq_byt x 2) (pb1 (mq_byt x 3) p)))).1 ≤ 200 := hr
  have r1 := Nat.le_trans (pb1_le _ _) r0
  have r2 := Nat.le_trans (pb1_le _ _) r1
  have r3 := Nat.le_trans (pb1_le _ _) r2
  iterate 2 refine mj_T.pl rfl rfl rfl rfl ?_
  refine rb81_step (s := 24) b (by decide) r3 (fun g3 l3 o3 f3 => ?_)
  refine rb81_step (s := 16) o3 (by decide) r2 (fun g2 l2 o2 f2 => ?_)
  refine rb81_step (s := 8) o2 (by decide) r1 (fun g1 l1 o1 f1 => ?_)
  refine rb81_step (s := 0) o1 (by decide) r0 (fun g0 l0 o0 f0 => ?_)
  refine mj_T.pl rfl rfl rfl rfl ?_
  refine mj_T.if0 (a := ((0 : Nat) : Int) + -8) rfl ⟨by omega, by omega⟩ (fun hc => ?_) (fun hc => ?_)
  rotate_left
  · simp only [jc, decide_eq_false_iff_not] at hc; omega
  exact mj_T.ret rfl rfl rfl ⟨g0, rfl, o0, ((f3.tr f2).tr f1).tr f0⟩
/-- what append makes, byte by byte -/
theorem pb_ap (x1 x2 x3 x4 x5 : Int32) (tm : Nat) (T : Nat → Int) (k : Nat) : pb1 (jbk x1 x2 x3 x4 x5 k) (tm + jcn x1 x2 x3 x4 x5 k, apT x1 x2 x3 x4 x5 tm T k) = (tm + jcn x1 x2 x3 x4 x5 (k + 1), apT x1 x2 x3 x4 x5 tm T (k + 1)) := by
  unfold pb1
  show _ = (tm + (jcn x1 x2 x3 x4 x5 k + (if jbk x1 x2 x3 x4 x5 k = 0 then 0 else 1)), (if jbk x1 x2 x3 x4 x5 k = 0 then apT x1 x2 x3 x4 x5 tm T k else jvu (apT x1 x2 x3 x4 x5 tm T k) (tm + jcn x1 x2 x3 x4 x5 k) (jbk x1 x2 x3 x4 x5 k : Nat)))
  by_cases c : jbk x1 x2 x3 x4 x5 k = 0
  · rw [if_pos c, if_pos c, if_pos c]
    rfl
  · rw [if_neg c, if_neg c, if_neg c]
    rfl
theorem pb_all (x1 x2 x3 x4 x5 : Int32) (tm : Nat) (T : Nat → Int) : pb4 x5 (pb4 x4 (pb4 x3 (pb4 x2 (pb4 x1 (tm, T))))) = (tm + jcn x1 x2 x3 x4 x5 20, apT x1 x2 x3 x4 x5 tm T 20) := by
  have s : ∀ k, pb1 (jbk x1 x2 x3 x4 x5 k) (tm + jcn x1 x2 x3 x4 x5 k, apT x1 x2 x3 x4 x5 tm T k) = (tm + jcn x1 x2 x3 x4 x5 (k + 1), apT x1 x2 x3 x4 x5 tm T (k + 1)) := pb_ap x1 x2 x3 x4 x5 tm T
  have e1 : pb4 x1 (tm, T) = (tm + jcn x1 x2 x3 x4 x5 4, apT x1 x2 x3 x4 x5 tm T 4) := by
    rw [← s 3, ← s 2, ← s 1, ← s 0]
    rfl
  have e2 : pb4 x2 (tm + jcn x1 x2 x3 x4 x5 4, apT x1 x2 x3 x4 x5 tm T 4) = (tm + jcn x1 x2 x3 x4 x5 8, apT x1 x2 x3 x4 x5 tm T 8) := by
    rw [← s 7, ← s 6, ← s 5, ← s 4]
    rfl
  have e3 : pb4 x3 (tm + jcn x1 x2 x3 x4 x5 8, apT x1 x2 x3 x4 x5 tm T 8) = (tm + jcn x1 x2 x3 x4 x5 12, apT x1 x2 x3 x4 x5 tm T 12) := by
    rw [← s 11, ← s 10, ← s 9, ← s 8]
    rfl
  have e4 : pb4 x4 (tm + jcn x1 x2 x3 x4 x5 12, apT x1 x2 x3 x4 x5 tm T 12) = (tm + jcn x1 x2 x3 x4 x5 16, apT x1 x2 x3 x4 x5 tm T 16) := by
    rw [← s 15, ← s 14, ← s 13, ← s 12]
    rfl
  have e5 : pb4 x5 (tm + jcn x1 x2 x3 x4 x5 16, apT x1 x2 x3 x4 x5 tm T 16) = (tm + jcn x1 x2 x3 x4 x5 20, apT x1 x2 x3 x4 x5 tm T 20) := by
    rw [← s 19, ← s 18, ← s 17, ← s 16]
    rfl
  rw [e1, e2, e3, e4, e5]
/-- append: the bytes -/
theorem rq_append {mf : List Value} {x1 x2 x3 x4 x5 : Int32} (hm : h[1]? = some (.inr (9, mf))) (hm4 : mf[4]? = some (.ref 13)) (b : jBuf tm T h) (ht : tm ≤ 200) : mj_Ok (D + 3) 141 [.ref 1, .int x1, .int x2, .int x3, .int x4, .int x5] h (fun r => (200 < tm + jcn x1 x2 x3 x4 x5 20 ∧ jqt h r.2) ∨ (tm + jcn x1 x2 x3 x4 x5 20 ≤ 200 ∧ jBuf (tm + jcn x1 x2 x3 x4 x5 20) (apT x1 x2 x3 x4 x5 tm T 20) r.2 ∧ jBf h r.2)) := by
  rw [jcn_20]
  have n1 := mq_nby_le x1
  have n2 := mq_nby_le x2
  have n3 := mq_nby_le x3
  have n4 := mq_nby_le x4
  have n5 := mq_nby_le x5
  refine mj_Ok.of (M := mj_m141) (loc := [some (.ref 1), some (.int x1), some (.int x2), some (.int x3), some (.int x4), some (.int x5), none]) rfl rfl rfl ?_
  refine mj_T.pl rfl rfl rfl rfl ?_
  refine mj_T.call rfl rfl (Nat.le_of_ble_eq_true rfl) (Nat.le_of_ble_eq_true rfl) rfl rfl (mj_Ok.up (by omega) (jb_in (D := D) (x := x1))) (fun v h' hq => ?_) (fun i h' hq => by cases hq)
  cases hq
  refine mj_T.pl rfl rfl rfl rfl ?_
  refine mj_T.call rfl rfl (Nat.le_of_ble_eq_true rfl) (Nat.le_of_ble_eq_true rfl) rfl rfl (mj_Ok.up (by omega) (jb_in (D := D) (x := x2))) (fun v h' hq => ?_) (fun i h' hq => by cases hq)
  cases hq
  refine mj_T.eq (st2 := [.int (jn (mq_nby x2 : Int)), .int (jn ((mq_nby x1 : Int) : Int))]) ?_ rfl rfl rfl rfl
  refine mj_T.iadd rfl ?_
  refine mj_T.pl rfl rfl rfl rfl ?_
  refine mj_T.call rfl rfl (Nat.le_of_ble_eq_true rfl) (Nat.le_of_ble_eq_true rfl) rfl rfl (mj_Ok.up (by omega) (jb_in (D := D) (x := x3))) (fun v h' hq => ?_) (fun i h' hq => by cases hq)
  cases hq
  refine mj_T.eq (st2 := [.int (jn (mq_nby x3 : Int)), .int (jn ((((mq_nby x1 : Int) : Int) + (mq_nby x2 : Int)) : Int))]) ?_ rfl rfl rfl rfl
  refine mj_T.iadd rfl ?_
  refine mj_T.pl rfl rfl rfl rfl ?_
  refine mj_T.call rfl rfl (Nat.le_of_ble_eq_true rfl) (Nat.le_of_ble_eq_true rfl) rfl rfl (mj_Ok.up (by omega) (jb_in (D := D) (x := x4))) (fun v h' hq => ?_) (fun i h' hq => by cases hq)
  cases hq
  refine mj_T.eq (st2 := [.int (jn (mq_nby x4 : Int)), .int (jn ((((((mq_nby x1 : Int) : Int) + (mq_nby x2 : Int)) : Int) + (mq_nby x3 : Int)) : Int))]) ?_ rfl rfl rfl rfl
  refine mj_T.iadd rfl ?_
  refine mj_T.pl rfl rfl rfl rfl ?_
  refine mj_T.call rfl rfl (Nat.le_of_ble_eq_true rfl) (Nat.le_of_ble_eq_true rfl) rfl rfl (mj_Ok.up (by omega) (jb_in (D := D) (x := x5))) (fun v h' hq => ?_) (fun i h' hq => by cases hq)
  cases hq
  refine mj_T.eq (st2 := [.int (jn (mq_nby x5 : Int)), .int (jn ((((((((mq_nby x1 : Int) : Int) + (mq_nby x2 : Int)) : Int) + (mq_nby x3 : Int)) : Int) + (mq_nby x4 : Int)) : Int))]) ?_ rfl rfl rfl rfl
  refine mj_T.iadd rfl ?_
  have ea : (((((((((mq_nby x1 : Int) : Int) + (mq_nby x2 : Int)) : Int) + (mq_nby x3 : Int)) : Int) + (mq_nby x4 : Int)) : Int) + (mq_nby x5 : Int)) = ((mq_nby x1 + mq_nby x2 + mq_nby x3 + mq_nby x4 + mq_nby x5 : Nat) : Int) := by omega
  rw [ea]
  have pall := pb_all x1 x2 x3 x4 x5 tm T
  rw [jcn_20] at pall
  generalize eN : mq_nby x1 + mq_nby x2 + mq_nby x3 + mq_nby x4 + mq_nby x5 = N at pall
  refine mj_T.pl (loc' := [some (.ref 1), some (.int x1), some (.int x2), some (.int x3), some (.int x4), some (.int x5), some (.int (jn (N : Int)))]) rfl rfl rfl rfl ?_
  refine mj_T.pl rfl rfl rfl rfl ?_
  refine mj_T.gfl rfl hm hm4 ?_
  refine mj_T.gfl rfl b.1 rfl ?_
  refine mj_T.pl rfl rfl rfl rfl ?_
  refine mj_T.iadd rfl ?_
  refine mj_T.pl rfl rfl rfl rfl ?_
  refine mj_T.icmp (a := (tm : Int) + (N : Int)) (b := 200) rfl ⟨by omega, by omega⟩ ⟨by decide, by decide⟩ (fun c => ?_) (fun c => ?_)
  rotate_left
  · have c := of_decide_eq_false c
    exact mj_T.throws rfl rfl rfl (Nat.le_of_ble_eq_true rfl) (Or.inl ⟨by omega, jqt.app _⟩)
  have c := of_decide_eq_true c
  have hp : ((pb4 x5 (pb4 x4 (pb4 x3 (pb4 x2 (pb4 x1 (tm, T)))))) ).1 ≤ 200 := by rw [pall]; show tm + N ≤ 200; omega
  have p4 := Nat.le_trans (pb4_le x5 _) hp
  have p3 := Nat.le_trans (pb4_le x4 _) p4
  have p2 := Nat.le_trans (pb4_le x3 _) p3
  have p1 := Nat.le_trans (pb4_le x2 _) p2
  have mm : ∀ {g : mj_H}, jBf h g → g[1]? = some (.inr (9, mf)) := fun f => by rw [f.2 1 (by decide) (by decide)]; exact hm
  refine mj_T.pl rfl rfl rfl rfl ?_
  refine mj_T.gfl rfl hm hm4 ?_
  refine mj_T.pl rfl rfl rfl rfl ?_
  refine mj_T.call rfl rfl (Nat.le_of_ble_eq_true rfl) (Nat.le_of_ble_eq_true rfl) (by simp [mj_recv, b.1]) rfl (rq_putBytes (D := D) (x := x1) (p := (tm, T)) b p1) (fun v h' hq => ?_) (fun i h' hq => by obtain ⟨_, hq, _⟩ := hq; cases hq)
  obtain ⟨h1, hq, o1, f1⟩ := hq
  cases hq
  refine mj_T.pl rfl rfl rfl rfl ?_
  refine mj_T.gfl rfl (mm f1) hm4 ?_
  refine mj_T.pl rfl rfl rfl rfl ?_
  refine mj_T.call rfl rfl (Nat.le_of_ble_eq_true rfl) (Nat.le_of_ble_eq_true rfl) (by simp [mj_recv, o1.1]) rfl (rq_putBytes (D := D) (x := x2) o1 p2) (fun v h' hq => ?_) (fun i h' hq => by obtain ⟨_, hq, _⟩ := hq; cases hq)
  obtain ⟨h2, hq, o2, f2⟩ := hq
  cases hq
  refine mj_T.pl rfl rfl rfl rfl ?_
  refine mj_T.gfl rfl (mm (f1.tr f2)) hm4 ?_
  refine mj_T.pl rfl rfl rfl rfl ?_
  refine mj_T.call rfl rfl (Nat.le_of_ble_eq_true rfl) (Nat.le_of_ble_eq_true rfl) (by simp [mj_recv, o2.1]) rfl (rq_putBytes (D := D) (x := x3) o2 p3) (fun v h' hq => ?_) (fun i h' hq => by obtain ⟨_, hq, _⟩ := hq; cases hq)
  obtain ⟨h3, hq, o3, f3⟩ := hq
  cases hq
  refine mj_T.pl rfl rfl rfl rfl ?_
  refine mj_T.gfl rfl (mm ((f1.tr f2).tr f3)) hm4 ?_
  refine mj_T.pl rfl rfl rfl rfl ?_
  refine mj_T.call rfl rfl (Nat.le_of_ble_eq_true rfl) (Nat.le_of_ble_eq_true rfl) (by simp [mj_recv, o3.1]) rfl (rq_putBytes (D := D) (x := x4) o3 p4) (fun v h' hq => ?_) (fun i h' hq => by obtain ⟨_, hq, _⟩ := hq; cases hq)
  obtain ⟨h4, hq, o4, f4⟩ := hq
  cases hq
  refine mj_T.pl rfl rfl rfl rfl ?_
  refine mj_T.gfl rfl (mm (((f1.tr f2).tr f3).tr f4)) hm4 ?_
  refine mj_T.pl rfl rfl rfl rfl ?_
  refine mj_T.call rfl rfl (Nat.le_of_ble_eq_true rfl) (Nat.le_of_ble_eq_true rfl) (by simp [mj_recv, o4.1]) rfl (rq_putBytes (D := D) (x := x5) o4 hp) (fun v h' hq => ?_) (fun i h' hq => by obtain ⟨_, hq, _⟩ := hq; cases hq)
  obtain ⟨h5, hq, o5, f5⟩ := hq
  cases hq
  have f6 := (((f1.tr f2).tr f3).tr f4).tr f5
  refine mj_T.pl rfl rfl rfl rfl ?_
  refine mj_T.gfl rfl (mm f6) hm4 ?_
  refine mj_T.gfl rfl o5.1 rfl ?_
  refine mj_T.ret rfl rfl rfl (Or.inr ⟨by omega, ?_, f6⟩)
  rw [pall] at o5
  exact o5
end JBT
/-! The class's reader, exactly: where it is, where the error is. -/
section JRD
variable {D tm n : Nat} {T : Nat → Int} {g h h' : mj_H} {a e : Int}
variable {pc : Nat} {M : mj_M} {loc : mj_L} {st : List Value} {Q : mj_R → Prop} {r1 r2 r3 r4 r5 : Nat}
/-- at the place a, with the error e; all else is of its kind, what lies apart is as in g -/
def rR (g : mj_H) (n : Nat) (a e : Int) (h : mj_H) : Prop := jO cK0 cL cR h n 0 h ∧ (∀ p, cK0 p = 0 → p ≠ 455 → h[p]? = g[p]?) ∧ ∃ t : Int, (t = 0 ∨ t = 1) ∧ h[455]? = some (.inr (4, RF a e t))
theorem rR.jBuf (s : rR g n a e h) (b : jBuf tm T g) : jBuf tm T h := ⟨by rw [s.2.1 13 (cK0_0 (by decide)) (by decide)]; exact b.1, by
  obtain ⟨f, h1, h2⟩ := b.2
  exact ⟨f, by rw [s.2.1 14 (cK0_0 (by decide)) (by decide)]; exact h1, h2⟩⟩
theorem rR.ty (s : rR g n a e h) (o : jO cK0 cL cR h n 0 h') : rR g n a e h' := by
  have old : ∀ p, cK0 p = 0 → h'[p]? = h[p]? := fun p hp => by
    by_cases c : p < h.length
    · exact (o.2.2.1 p hp).1 c
    · rw [List.getElem?_eq_none (by rw [o.1, ← s.1.1]; omega), List.getElem?_eq_none (by omega)]
  obtain ⟨t, t1, t2⟩ := s.2.2
  exact ⟨o.self, fun p hp hn => by rw [old p hp]; exact s.2.1 p hp hn, t, t1, by rw [old 455 (cK0_0 (by decide))]; exact t2⟩
theorem rR.set (s : rR g n a e h) {fs : List Value} {b x t : Int} (ht : t = 0 ∨ t = 1) (hf : fs = RF b x t) : rR g n b x (h.set 455 (.inr (4, fs))) := by
  subst hf
  obtain ⟨o, f, t0, _, hc⟩ := s
  have hl := (List.getElem?_eq_some_iff.mp hc).1
  refine ⟨?_, fun p hp hn => by rw [List.getElem?_set_ne (Ne.symm hn)]; exact f p hp hn, t, ht, List.getElem?_set_self hl⟩
  have := o.keep (h' := h.set 455 (.inr (4, RF b x t))) (fun p hp => by rw [List.getElem?_set_ne (by intro q; rw [← q] at hp; exact hp (cK0_0 (by decide)))])
  rw [List.length_set, o.1] at this
  exact this
theorem rr_g {f i : Nat} {v : Value} (s : rR g n a e h) (hc : M.2.2.2.2.1 pc = some (.getfield f, 4, i, r3, r4, r5)) (hf : ∀ t, (RF a e t)[i]? = some v) (k : mj_T D M (pc + 3) loc (v :: st) h Q) : mj_T D M pc loc (.ref 455 :: st) h Q := by
  obtain ⟨t, _, hc2⟩ := s.2.2
  exact mj_T.gfl hc hc2 (hf t) k
theorem rr_p2 {f : Nat} {b : Int} (s : rR g n a e h) (hc : M.2.2.2.2.1 pc = some (.putfield f, 4, 2, 0, r4, r5)) (k : ∀ h', rR g n b e h' → mj_T D M (pc + 3) loc st h' Q) : mj_T D M pc loc (.int (jn b) :: .ref 455 :: st) h Q := by
  obtain ⟨t, t1, hc2⟩ := s.2.2
  exact mj_T.pfl hc hc2 (Nat.le_of_ble_eq_true rfl) rfl (k _ (s.set t1 rfl))
theorem rr_p3 {f : Nat} {b : Int} (s : rR g n a e h) (hc : M.2.2.2.2.1 pc = some (.putfield f, 4, 3, 0, r4, r5)) (k : ∀ h', rR g n a b h' → mj_T D M (pc + 3) loc st h' Q) : mj_T D M pc loc (.int (jn b) :: .ref 455 :: st) h Q := by
  obtain ⟨t, t1, hc2⟩ := s.2.2
  exact mj_T.pfl hc hc2 (Nat.le_of_ble_eq_true rfl) rfl (k _ (s.set t1 rfl))
theorem rr_p4 {f : Nat} {b : Int} (hb : b = 0 ∨ b = 1) (s : rR g n a e h) (hc : M.2.2.2.2.1 pc = some (.putfield f, 4, 4, 2, r4, r5)) (k : ∀ h', rR g n a e h' → mj_T D M (pc + 3) loc st h' Q) : mj_T D M pc loc (.int (jn b) :: .ref 455 :: st) h Q := by
  obtain ⟨t, t1, hc2⟩ := s.2.2
  refine mj_T.pfl hc hc2 (Nat.le_of_ble_eq_true rfl) ?_ (k _ (s.set hb rfl))
  rcases hb with q | q <;> subst q <;> rfl
theorem rR.rv (s : rR g n a e h) (hr : 1 ≤ r2) (hd : st.drop (r2 - 1) = .ref 455 :: st.drop r2) : ∀ m, mj_recv (.invokevirtual m) r2 4 st h = true := by
  intro m
  obtain ⟨t, _, h1⟩ := s.2.2
  match r2, hr, hd with
  | r2 + 1, _, hd =>
    simp only [mj_recv, hd, h1, decide_true]
/-- a call by kinds -/
theorem rr_c {V : Option Value → Prop} {ins : Instr} {as : List Value} (s : rR g n a e h) (hc : M.2.2.2.2.1 pc = some (ins, r1, r2, r3, r4, r5)) (hk : mj_kind ins r3 = 3) (hl : r2 ≤ st.length) (hcat : mj_cat (st.drop r2) ≤ 8) (hr : mj_recv ins r2 r5 st h = true) (has : (st.take r2).reverse = as) (hcall : mj_Ok D r1 as h (jQ cK0 cL cR h n 0 [] V)) (k : ∀ v h', V v → rR g n a e h' → mj_T D M (pc + 3) loc (v.toList ++ st.drop r2) h' Q) : mj_T D M pc loc st h Q :=
  mj_T.call hc hk hl hcat hr has hcall (fun v h' hq => k v h' hq.1 (s.ty hq.2)) (fun i h' hq => absurd hq.1 List.not_mem_nil)
theorem rr_cp {V : Option Value → Prop} {ins : Instr} {as : List Value} (hc : M.2.2.2.2.1 pc = some (ins, r1, r2, r3, r4, r5)) (hk : mj_kind ins r3 = 3) (hl : r2 ≤ st.length) (hcat : mj_cat (st.drop r2) ≤ 8) (hr : mj_recv ins r2 r5 st h = true) (has : (st.take r2).reverse = as) (hcall : mj_Ok D r1 as h (jQp cK0 cL cR h n 0 h [] V)) (k : ∀ v, V v → mj_T D M (pc + 3) loc (v.toList ++ st.drop r2) h Q) : mj_T D M pc loc st h Q :=
  mj_T.call hc hk hl hcat hr has hcall (fun v h' hq => by
    obtain ⟨h1, h2⟩ := hq
    have h2 : h' = h := h2
    subst h2
    exact k v h1) (fun i h' hq => absurd hq.1 List.not_mem_nil)
theorem rq_isDigit {v : Int} (hv : jr v) : mj_Ok (D + 1) 55 [.int (jn v)] h (fun r => ((48 ≤ v ∧ v ≤ 57) ∧ r = (.inl (some (.int (jn 1))), h)) ∨ (¬ (48 ≤ v ∧ v ≤ 57) ∧ r = (.inl (some (.int (jn 0))), h))) := by
  refine mj_Ok.of (M := mj_m55) rfl rfl rfl ?_
  iterate 2 refine mj_T.pl rfl rfl rfl rfl ?_
  refine mj_T.icmp (a := v) (b := 48) rfl hv ⟨by decide, by decide⟩ (fun hc => ?_) (fun hc => ?_)
  · simp only [jc, decide_eq_true_eq] at hc
    refine mj_T.pl rfl rfl rfl rfl ?_
    exact mj_T.ret rfl rfl rfl (Or.inr ⟨by omega, rfl⟩)
  simp only [jc, decide_eq_false_iff_not] at hc
  iterate 2 refine mj_T.pl rfl rfl rfl rfl ?_
  refine mj_T.icmp (a := v) (b := 57) rfl hv ⟨by decide, by decide⟩ (fun hc2 => ?_) (fun hc2 => ?_)
  · simp only [jc, decide_eq_true_eq] at hc2
    refine mj_T.pl rfl rfl rfl rfl ?_
    exact mj_T.ret rfl rfl rfl (Or.inr ⟨by omega, rfl⟩)
  · simp only [jc, decide_eq_false_iff_not] at hc2
    iterate 2 refine mj_T.pl rfl rfl rfl rfl ?_
    exact mj_T.ret rfl rfl rfl (Or.inl ⟨⟨by omega, by omega⟩, rfl⟩)
/-- the sign at a place, -1 behind the last -/
def rvt (T : Nat → Int) (tm a : Nat) : Int := if a < tm then T a else -1
theorem rvt_bd (hT : ∀ j : Nat, j < tm → 1 ≤ T j ∧ T j ≤ 255) (a : Nat) : -1 ≤ rvt T tm a ∧ rvt T tm a ≤ 255 := by
  unfold rvt
  split
  · rename_i c
    have := hT a c
    omega
  · omega
/-- the text is asked for the sign at the place -/
theorem rr_at {p : Nat} {m : Nat} (s : rR g n (p : Int) e h) (hB : jBuf tm T g) (ht : tm ≤ 200) (hT : ∀ j : Nat, j < tm → 1 ≤ T j ∧ T j ≤ 255) (hp : p ≤ 200) (hc : M.2.2.2.2.1 pc = some (.invokevirtual m, 79, 2, r3, r4, 7)) (hk : mj_kind (.invokevirtual m) r3 = 3) (hcat : mj_cat st ≤ 8) (k : mj_T (D + 1) M (pc + 3) loc (.int (jn (rvt T tm p)) :: st) h Q) : mj_T (D + 1) M pc loc (.int (jn (p : Int)) :: .ref 13 :: st) h Q := by
  have b := s.jBuf hB
  refine mj_T.call hc hk (Nat.le_add_left _ _) hcat (by simp [mj_recv, b.1]) rfl (rq_at (D := D) b ht hT ⟨by omega, by omega⟩) (fun v h' hq => ?_) (fun i h' hq => by cases hq)
  cases hq
  have e : (if 0 ≤ (p : Int) ∧ (p : Int) < (tm : Int) then T (p : Int).toNat else -1) = rvt T tm p := by
    unfold rvt
    rw [Int.toNat_natCast]
    by_cases c : p < tm
    · rw [if_pos c, if_pos ⟨by omega, by omega⟩]
    · rw [if_neg c, if_neg (by omega)]
  rw [e]
  exact k
theorem rq_skips_loop (hB : jBuf tm T g) (ht : tm ≤ 200) (hT : ∀ j : Nat, j < tm → 1 ≤ T j ∧ T j ≤ 255) {Q : mj_R → Prop} : ∀ (m p i : Nat) (h : mj_H), p + m = tm → i ≤ p → rR g n (p : Int) e h → (∀ h2, rR g n (rsk T m p : Nat) e h2 → Q (.inl none, h2)) → mj_T (D + 1) mj_m56 2 [some (.ref 455), some (.int (jn (i : Int)))] [] h Q := by
  intro m
  induction m with
  | zero =>
    intro p i h hp hi s hend
    have b := s.jBuf hB
    iterate 2 refine mj_T.pl rfl rfl rfl rfl ?_
    refine rr_g s rfl (fun t => rfl) ?_
    refine mj_T.gfl rfl b.1 rfl ?_
    refine mj_T.icmp (a := (i : Int)) (b := (tm : Int)) rfl ⟨by omega, by omega⟩ ⟨by omega, by omega⟩ (fun _ => mj_T.ret rfl rfl rfl (hend h s)) (fun _ => ?_)
    refine mj_T.pl rfl rfl rfl rfl ?_
    refine rr_g s rfl (fun t => rfl) ?_
    refine mj_T.pl rfl rfl rfl rfl ?_
    refine rr_g s rfl (fun t => rfl) ?_
    refine rr_at s hB ht hT (by omega) rfl rfl (Nat.le_of_ble_eq_true rfl) ?_
    rw [show rvt T tm p = -1 from if_neg (by omega)]
    refine mj_T.pl rfl rfl rfl rfl ?_
    refine mj_T.icmp (a := -1) (b := 32) rfl ⟨by decide, by decide⟩ ⟨by decide, by decide⟩ (fun _ => mj_T.ret rfl rfl rfl (hend h s)) (fun c => absurd c (by decide))
  | succ m ih =>
    intro p i h hp hi s hend
    have b := s.jBuf hB
    have hTp := hT p (by omega)
    iterate 2 refine mj_T.pl rfl rfl rfl rfl ?_
    refine rr_g s rfl (fun t => rfl) ?_
    refine mj_T.gfl rfl b.1 rfl ?_
    refine mj_T.icmp (a := (i : Int)) (b := (tm : Int)) rfl ⟨by omega, by omega⟩ ⟨by omega, by omega⟩ (fun c => ?_) (fun _ => ?_)
    · have c := of_decide_eq_true c
      omega
    refine mj_T.pl rfl rfl rfl rfl ?_
    refine rr_g s rfl (fun t => rfl) ?_
    refine mj_T.pl rfl rfl rfl rfl ?_
    refine rr_g s rfl (fun t => rfl) ?_
    refine rr_at s hB ht hT (by omega) rfl rfl (Nat.le_of_ble_eq_true rfl) ?_
    rw [show rvt T tm p = T p from if_pos (by omega)]
    refine mj_T.pl rfl rfl rfl rfl ?_
    refine mj_T.icmp (a := T p) (b := 32) rfl ⟨by omega, by omega⟩ ⟨by decide, by decide⟩ (fun c => ?_) (fun c => ?_)
    · simp only [jc, Bool.not_eq_true', decide_eq_false_iff_not] at c
      rw [show rsk T (m + 1) p = p from if_neg c] at hend
      exact mj_T.ret rfl rfl rfl (hend h s)
    · simp only [jc, Bool.not_eq_false', decide_eq_true_eq] at c
      rw [show rsk T (m + 1) p = rsk T m (p + 1) from if_pos c] at hend
      iterate 2 refine mj_T.pl rfl rfl rfl rfl ?_
      refine rr_g s rfl (fun t => rfl) ?_
      refine mj_T.pl rfl rfl rfl rfl ?_
      refine mj_T.iadd (a := (p : Int)) (b := 1) rfl ?_
      rw [show (p : Int) + 1 = ((p + 1 : Nat) : Int) by omega]
      refine rr_p2 s rfl (fun h1 s1 => ?_)
      refine mj_T.iinc (a := (i : Int)) rfl rfl ?_
      refine mj_T.eq (loc2 := [some (.ref 455), some (.int (jn ((i + 1 : Nat) : Int)))]) ?_ rfl (by rw [show ((i + 1 : Nat) : Int) = (i : Int) + 1 by omega]; rfl) rfl rfl
      refine mj_T.pl rfl rfl rfl rfl ?_
      exact ih (p + 1) (i + 1) h1 (by omega) (by omega) s1 hend
theorem rq_skips {p : Nat} (hB : jBuf tm T g) (ht : tm ≤ 200) (hT : ∀ j : Nat, j < tm → 1 ≤ T j ∧ T j ≤ 255) (hp : p ≤ tm) (s : rR g n (p : Int) e h) : mj_Ok (D + 2) 56 [.ref 455] h (fun r => ∃ h2, rR g n (rskp T tm p : Nat) e h2 ∧ r = (.inl none, h2)) := by
  refine mj_Ok.of (M := mj_m56) (loc := [some (.ref 455), none]) rfl rfl rfl ?_
  iterate 2 refine mj_T.pl rfl rfl rfl rfl ?_
  refine rq_skips_loop (D := D) hB ht hT (tm - p) p 0 h (by omega) (Nat.zero_le _) s (fun h2 s2 => ⟨h2, s2, rfl⟩)
theorem rq_takes {p : Nat} {c : Int} (hc : 1 ≤ c ∧ c ≤ 255) (hB : jBuf tm T g) (ht : tm ≤ 200) (hT : ∀ j : Nat, j < tm → 1 ≤ T j ∧ T j ≤ 255) (hp : p ≤ tm) (s : rR g n (p : Int) e h) : mj_Ok (D + 3) 57 [.ref 455, .int (jn c)] h (fun r => (∃ (b : Nat) (h2 : mj_H), (rtk T tm c p = some b ∧ b ≤ tm ∧ p < b) ∧ rR g n (b : Int) e h2 ∧ r = (.inl (some (.int (jn 1))), h2)) ∨ (∃ h2, rtk T tm c p = none ∧ rR g n (rskp T tm p : Nat) e h2 ∧ r = (.inl (some (.int (jn 0))), h2))) := by
  refine mj_Ok.of (M := mj_m57) (loc := [some (.ref 455), some (.int (jn c))]) rfl rfl rfl ?_
  have hle := rskp_le (T := T) hp
  have hge := rskp_ge (T := T) (tm := tm) p
  refine mj_T.pl rfl rfl rfl rfl ?_
  refine mj_T.call rfl rfl (Nat.le_of_ble_eq_true rfl) (Nat.le_of_ble_eq_true rfl) (s.rv (by decide) rfl _) rfl (rq_skips (D := D) hB ht hT hp s) (fun v h1 hq => ?_) (fun i h1 hq => by obtain ⟨_, _, hq⟩ := hq; cases hq)
  obtain ⟨_, s1, hq⟩ := hq
  cases hq
  obtain ⟨q, hqd⟩ : ∃ q, rskp T tm p = q := ⟨_, rfl⟩
  rw [hqd] at s1 hle hge ⊢
  refine mj_T.pl rfl rfl rfl rfl ?_
  refine rr_g s1 rfl (fun t => rfl) ?_
  refine mj_T.pl rfl rfl rfl rfl ?_
  refine rr_g s1 rfl (fun t => rfl) ?_
  refine rr_at s1 hB ht hT (by omega) rfl rfl (Nat.le_of_ble_eq_true rfl) ?_
  have hb := rvt_bd (tm := tm) hT q
  refine mj_T.pl rfl rfl rfl rfl ?_
  refine mj_T.icmp (a := rvt T tm q) (b := c) rfl ⟨by omega, by omega⟩ ⟨by omega, by omega⟩ (fun hc2 => ?_) (fun hc2 => ?_)
  · simp only [jc, decide_eq_true_eq] at hc2
    have hlt : q < tm ∧ T q = c := by
      unfold rvt at hc2
      by_cases c1 : q < tm
      · rw [if_pos c1] at hc2
        exact ⟨c1, hc2⟩
      · rw [if_neg c1] at hc2
        omega
    iterate 2 refine mj_T.pl rfl rfl rfl rfl ?_
    refine rr_g s1 rfl (fun t => rfl) ?_
    refine mj_T.pl rfl rfl rfl rfl ?_
    refine mj_T.iadd (a := (q : Int)) (b := 1) rfl ?_
    rw [show (q : Int) + 1 = ((q + 1 : Nat) : Int) by omega]
    refine rr_p2 s1 rfl (fun h2 s2 => ?_)
    refine mj_T.pl rfl rfl rfl rfl ?_
    exact mj_T.ret rfl rfl rfl (Or.inl ⟨q + 1, h2, ⟨by unfold rtk; rw [hqd, if_pos hlt], by omega, by omega⟩, s2, rfl⟩)
  · simp only [jc, decide_eq_false_iff_not] at hc2
    refine mj_T.pl rfl rfl rfl rfl ?_
    refine mj_T.ret rfl rfl rfl (Or.inr ⟨h1, ?_, s1, rfl⟩)
    unfold rtk
    rw [hqd, if_neg]
    intro hn
    exact hc2 (by rw [show rvt T tm q = T q from if_pos hn.1]; exact hn.2)
theorem rq_num_loop (hB : jBuf tm T g) (ht : tm ≤ 200) (hT : ∀ j : Nat, j < tm → 1 ≤ T j ∧ T j ≤ 255) {s0 : Nat} {Q : mj_R → Prop} : ∀ (m k : Nat) (h : mj_H), s0 + k + m = tm → rR g n ((s0 + k : Nat) : Int) e h → (∀ (k2 : Nat) (h2 : mj_H) (l4 : Option Value), s0 + k2 = rdg T m (s0 + k) → rR g n ((s0 + k2 : Nat) : Int) e h2 → mj_T (D + 1) mj_m54 78 [some (.ref 455), some (.int (jn (s0 : Int))), some (.long (jl (rvl T s0 k2))), none, l4] [] h2 Q) → mj_T (D + 1) mj_m54 10 [some (.ref 455), some (.int (jn (s0 : Int))), some (.long (jl (rvl T s0 k))), none, some (.int (jn (k : Int)))] [] h Q := by
  intro m
  induction m with
  | zero =>
    intro k h hk s hend
    have b := s.jBuf hB
    iterate 2 refine mj_T.pl rfl rfl rfl rfl ?_
    refine rr_g s rfl (fun t => rfl) ?_
    refine mj_T.gfl rfl b.1 rfl ?_
    refine mj_T.icmp (a := (k : Int)) (b := (tm : Int)) rfl ⟨by omega, by omega⟩ ⟨by omega, by omega⟩ (fun _ => hend k h _ rfl s) (fun _ => ?_)
    refine mj_T.pl rfl rfl rfl rfl ?_
    refine rr_g s rfl (fun t => rfl) ?_
    refine mj_T.pl rfl rfl rfl rfl ?_
    refine rr_g s rfl (fun t => rfl) ?_
    refine rr_at s hB ht hT (by omega) rfl rfl (Nat.le_of_ble_eq_true rfl) ?_
    rw [show rvt T tm (s0 + k) = -1 from if_neg (by omega)]
    refine mj_T.call rfl rfl (Nat.le_of_ble_eq_true rfl) (Nat.le_of_ble_eq_true rfl) rfl rfl (rq_isDigit (D := D) (v := -1) ⟨by decide, by decide⟩) (fun v' h' hq' => ?_) (fun i h' hq' => by rcases hq' with ⟨_, h⟩ | ⟨_, h⟩ <;> cases h)
    rcases hq' with ⟨hd, _⟩ | ⟨_, hq'⟩
    · omega
    cases hq'
    refine mj_T.if0 (a := 0) rfl ⟨by decide, by decide⟩ (fun _ => hend k h _ rfl s) (fun hc2 => by simp [jc] at hc2)
  | succ m ih =>
    intro k h hk s hend
    have b := s.jBuf hB
    have hTa := hT (s0 + k) (by omega)
    iterate 2 refine mj_T.pl rfl rfl rfl rfl ?_
    refine rr_g s rfl (fun t => rfl) ?_
    refine mj_T.gfl rfl b.1 rfl ?_
    refine mj_T.icmp (a := (k : Int)) (b := (tm : Int)) rfl ⟨by omega, by omega⟩ ⟨by omega, by omega⟩ (fun c => ?_) (fun _ => ?_)
    · have c := of_decide_eq_true c
      omega
    refine mj_T.pl rfl rfl rfl rfl ?_
    refine rr_g s rfl (fun t => rfl) ?_
    refine mj_T.pl rfl rfl rfl rfl ?_
    refine rr_g s rfl (fun t => rfl) ?_
    refine rr_at s hB ht hT (by omega) rfl rfl (Nat.le_of_ble_eq_true rfl) ?_
    rw [show rvt T tm (s0 + k) = T (s0 + k) from if_pos (by omega)]
    refine mj_T.call rfl rfl (Nat.le_of_ble_eq_true rfl) (Nat.le_of_ble_eq_true rfl) rfl rfl (rq_isDigit (D := D) (v := T (s0 + k)) ⟨by omega, by omega⟩) (fun v' h' hq' => ?_) (fun i h' hq' => by rcases hq' with ⟨_, h⟩ | ⟨_, h⟩ <;> cases h)
    rcases hq' with ⟨hd, hq'⟩ | ⟨hd, hq'⟩
    · cases hq'
      rw [show rdg T (m + 1) (s0 + k) = rdg T m (s0 + k + 1) from if_pos hd] at hend
      refine mj_T.if0 (a := 1) rfl ⟨by decide, by decide⟩ (fun hc2 => by simp [jc] at hc2) (fun _ => ?_)
      iterate 2 refine mj_T.pl rfl rfl rfl rfl ?_
      refine mj_T.eq (pc2 := 43) (st2 := [.long (jl 10), .long (jl (rvl T s0 k))]) ?_ rfl rfl rfl rfl
      refine mj_T.lmul rfl ?_
      refine mj_T.pl rfl rfl rfl rfl ?_
      refine rr_g s rfl (fun t => rfl) ?_
      refine mj_T.pl rfl rfl rfl rfl ?_
      refine rr_g s rfl (fun t => rfl) ?_
      refine rr_at s hB ht hT (by omega) rfl rfl (Nat.le_of_ble_eq_true rfl) ?_
      rw [show rvt T tm (s0 + k) = T (s0 + k) from if_pos (by omega)]
      refine mj_T.i2l rfl ⟨by omega, by omega⟩ ?_
      refine mj_T.ladd rfl ?_
      refine mj_T.pl rfl rfl rfl rfl ?_
      refine mj_T.lsub (b := 48) rfl ?_
      rw [show rvl T s0 k * 10 + T (s0 + k) - 48 = rvl T s0 (k + 1) by show _ = 10 * rvl T s0 k + T (s0 + k) - 48; omega]
      refine mj_T.pl (loc' := [some (.ref 455), some (.int (jn (s0 : Int))), some (.long (jl (rvl T s0 (k + 1)))), none, some (.int (jn (k : Int)))]) rfl rfl rfl rfl ?_
      iterate 2 refine mj_T.pl rfl rfl rfl rfl ?_
      refine rr_g s rfl (fun t => rfl) ?_
      refine mj_T.pl rfl rfl rfl rfl ?_
      refine mj_T.iadd (a := ((s0 + k : Nat) : Int)) (b := 1) rfl ?_
      rw [show ((s0 + k : Nat) : Int) + 1 = ((s0 + (k + 1) : Nat) : Int) by omega]
      refine rr_p2 s rfl (fun h1 s1 => ?_)
      refine mj_T.iinc (a := (k : Int)) rfl rfl ?_
      refine mj_T.eq (loc2 := [some (.ref 455), some (.int (jn (s0 : Int))), some (.long (jl (rvl T s0 (k + 1)))), none, some (.int (jn ((k + 1 : Nat) : Int)))]) ?_ rfl (by rw [show ((k + 1 : Nat) : Int) = (k : Int) + 1 by omega]; rfl) rfl rfl
      refine mj_T.pl rfl rfl rfl rfl ?_
      exact ih (k + 1) h1 (by omega) s1 hend
    · cases hq'
      rw [show rdg T (m + 1) (s0 + k) = s0 + k from if_neg hd] at hend
      refine mj_T.if0 (a := 0) rfl ⟨by decide, by decide⟩ (fun _ => hend k h _ rfl s) (fun hc2 => by simp [jc] at hc2)
theorem rq_number {p : Nat} (hB : jBuf tm T g) (ht : tm ≤ 200) (hT : ∀ j : Nat, j < tm → 1 ≤ T j ∧ T j ≤ 255) (hp : p ≤ tm) (s : rR g n (p : Int) (-1) h) : mj_Ok (D + 2) 54 [.ref 455] h (fun r => ∃ (k : Nat) (h2 : mj_H), rdgp T tm p = p + k ∧ p + k ≤ tm ∧ ((k ≤ 18 ∧ rR g n ((p + k : Nat) : Int) (-1) h2 ∧ r = (.inl (some (.long (jl (rvl T p k)))), h2)) ∨ (18 < k ∧ rR g n ((p + k : Nat) : Int) (p : Int) h2 ∧ r = (.inl (some (.long (jl 0))), h2)))) := by
  refine mj_Ok.of (M := mj_m54) (loc := [some (.ref 455), none, none, none, none]) rfl rfl rfl ?_
  refine mj_T.pl rfl rfl rfl rfl ?_
  refine rr_g s rfl (fun t => rfl) ?_
  refine mj_T.pl (loc' := [some (.ref 455), some (.int (jn (p : Int))), none, none, none]) rfl rfl rfl rfl ?_
  iterate 4 refine mj_T.pl rfl rfl rfl rfl ?_
  refine rq_num_loop (D := D) hB ht hT (tm - p) 0 h (by omega) s (fun k h2 l4 hk s2 => ?_)
  have hdl := rdg_le (T := T) (tm - p) (p + 0)
  rw [← hk] at hdl
  refine mj_T.pl rfl rfl rfl rfl ?_
  refine rr_g s2 rfl (fun t => rfl) ?_
  refine mj_T.pl rfl rfl rfl rfl ?_
  refine mj_T.isub (a := ((p + k : Nat) : Int)) (b := (p : Int)) rfl ?_
  rw [show ((p + k : Nat) : Int) - (p : Int) = (k : Int) by omega]
  refine mj_T.pl rfl rfl rfl rfl ?_
  refine mj_T.icmp (a := (k : Int)) (b := 18) rfl ⟨by omega, by omega⟩ ⟨by decide, by decide⟩ (fun c => ?_) (fun c => ?_)
  · have c := of_decide_eq_true c
    refine mj_T.pl rfl rfl rfl rfl ?_
    exact mj_T.ret rfl rfl rfl ⟨k, h2, hk.symm, by omega, Or.inl ⟨by omega, s2, rfl⟩⟩
  · have c := of_decide_eq_false c
    iterate 2 refine mj_T.pl rfl rfl rfl rfl ?_
    refine rr_p3 s2 rfl (fun h3 s3 => ?_)
    refine mj_T.pl rfl rfl rfl rfl ?_
    exact mj_T.ret rfl rfl rfl ⟨k, h3, hk.symm, by omega, Or.inr ⟨by omega, s3, rfl⟩⟩
end JRD
/-! The class's reader, exactly: exponents, powers, products, sums. -/
section JRE
variable {D tm n : Nat} {T : Nat → Int} {g h h' : mj_H} {a e : Int}
theorem rdgp_pos {s k : Nat} (h : rdgp T tm s = s + k) : (1 ≤ k ↔ (s < tm ∧ 48 ≤ T s ∧ T s ≤ 57)) := by
  by_cases c : s < tm
  · have e1 : tm - s = (tm - s - 1) + 1 := by omega
    have h2 : rdg T (tm - s - 1 + 1) s = s + k := by rw [← e1]; exact h
    have h3 : rdg T (tm - s - 1 + 1) s = if 48 ≤ T s ∧ T s ≤ 57 then rdg T (tm - s - 1) (s + 1) else s := rfl
    rw [h3] at h2
    by_cases d : 48 ≤ T s ∧ T s ≤ 57
    · rw [if_pos d] at h2
      have := rdg_ge (T := T) (tm - s - 1) (s + 1)
      exact ⟨fun _ => ⟨c, d⟩, fun _ => by omega⟩
    · rw [if_neg d] at h2
      exact ⟨fun q => by omega, fun q => absurd q.2 d⟩
  · have h2 : rdg T (tm - s) s = s + k := h
    rw [show tm - s = 0 by omega] at h2
    have h2 : s = s + k := h2
    exact ⟨fun q => by omega, fun q => absurd q.1 c⟩
/-- how a piece of the reading ends -/
def rQ (T : Nat → Int) (tm : Nat) (g : mj_H) (n a : Nat) (res : Bool × Nat) (V : Option Value → Prop) (r : mj_R) : Prop := ∃ (v : Option Value) (b : Nat) (h2 : mj_H), r = (.inl v, h2) ∧ V v ∧ b ≤ tm ∧ ((res.1 = true ∧ b = res.2 ∧ a ≤ b ∧ rR g n (b : Int) (-1) h2) ∨ (res.1 = false ∧ res.2 ≤ tm ∧ rR g n (b : Int) (res.2 : Int) h2))
def rV (v : Option Value) : Prop := ∃ z : Int, (-1 ≤ z ∧ z ≤ 12) ∧ v = some (.int (jn z))
theorem rQ.le {a a' : Nat} {res : Bool × Nat} {V : Option Value → Prop} {r : mj_R} (q : rQ T tm g n a' res V r) (hl : a ≤ a') : rQ T tm g n a res V r := by
  obtain ⟨v, b, h2, q1, q2, q3, q4⟩ := q
  refine ⟨v, b, h2, q1, q2, q3, ?_⟩
  rcases q4 with ⟨x1, x2, x3, x4⟩ | x
  · exact Or.inl ⟨x1, x2, by omega, x4⟩
  · exact Or.inr x
theorem rq_exponent {p : Nat} (hB : jBuf tm T g) (ht : tm ≤ 200) (hT : ∀ j : Nat, j < tm → 1 ≤ T j ∧ T j ≤ 255) (hp : p ≤ tm) (s : rR g n (p : Int) (-1) h) : mj_Ok (D + 3) 53 [.ref 455] h (rQ T tm g n p (rnm T tm 12 p) rV) := by
  refine mj_Ok.of (M := mj_m53) (loc := [some (.ref 455), none, none, none]) rfl rfl rfl ?_
  have hle := rskp_le (T := T) hp
  have hge := rskp_ge (T := T) (tm := tm) p
  refine mj_T.pl rfl rfl rfl rfl ?_
  refine mj_T.call rfl rfl (Nat.le_of_ble_eq_true rfl) (Nat.le_of_ble_eq_true rfl) (s.rv (by decide) rfl _) rfl (rq_skips (D := D) hB ht hT hp s) (fun v h1 hq => ?_) (fun i h1 hq => by obtain ⟨_, _, hq⟩ := hq; cases hq)
  obtain ⟨_, s1, hq⟩ := hq
  cases hq
  obtain ⟨q, hqd⟩ : ∃ q, rskp T tm p = q := ⟨_, rfl⟩
  have eN : rnm T tm 12 p = if (1 ≤ rdgp T tm q - q ∧ rdgp T tm q - q ≤ 18) ∧ rvl T q (rdgp T tm q - q) ≤ 12 then (true, rdgp T tm q) else (false, q) := by
    unfold rnm
    rw [hqd]
  rw [eN]
  rw [hqd] at s1 hle hge
  refine mj_T.pl rfl rfl rfl rfl ?_
  refine rr_g s1 rfl (fun t => rfl) ?_
  refine mj_T.pl (loc' := [some (.ref 455), some (.int (jn (q : Int))), none, none]) rfl rfl rfl rfl ?_
  refine mj_T.pl rfl rfl rfl rfl ?_
  refine rr_g s1 rfl (fun t => rfl) ?_
  refine mj_T.pl rfl rfl rfl rfl ?_
  refine rr_g s1 rfl (fun t => rfl) ?_
  refine rr_at (D := D + 1) s1 hB ht hT (by omega) rfl rfl (Nat.le_of_ble_eq_true rfl) ?_
  have hb := rvt_bd (tm := tm) hT q
  refine mj_T.call rfl rfl (Nat.le_of_ble_eq_true rfl) (Nat.le_of_ble_eq_true rfl) rfl rfl (rq_isDigit (D := D + 1) (v := rvt T tm q) ⟨by omega, by omega⟩) (fun v' h' hq' => ?_) (fun i h' hq' => by rcases hq' with ⟨_, h⟩ | ⟨_, h⟩ <;> cases h)
  rcases hq' with ⟨hd, hq'⟩ | ⟨hd, hq'⟩
  · cases hq'
    have hdig : q < tm ∧ 48 ≤ T q ∧ T q ≤ 57 := by
      unfold rvt at hd
      by_cases c : q < tm
      · rw [if_pos c] at hd
        exact ⟨c, hd⟩
      · rw [if_neg c] at hd
        omega
    refine mj_T.if0 (a := 1) rfl ⟨by decide, by decide⟩ (fun _ => ?_) (fun hc2 => by simp [jc] at hc2)
    refine mj_T.pl rfl rfl rfl rfl ?_
    refine mj_T.call rfl rfl (Nat.le_of_ble_eq_true rfl) (Nat.le_of_ble_eq_true rfl) (s1.rv (by decide) rfl _) rfl (rq_number (D := D) hB ht hT hle s1) (fun v h2 hq => ?_) (fun i h2 hq => by obtain ⟨_, _, _, _, ⟨_, _, hq⟩ | ⟨_, _, hq⟩⟩ := hq <;> cases hq)
    obtain ⟨k, h3, k1, k2, hq⟩ := hq
    have kp := (rdgp_pos k1).mpr hdig
    rw [k1, Nat.add_sub_cancel_left]
    have hin : ∀ j, q ≤ j → j < q + k → 48 ≤ T j ∧ T j ≤ 57 := fun j j1 j2 => rdg_in (T := T) (tm - q) q j j1 (by show j < rdgp T tm q; omega)
    have hbd := rvl_bd (T := T) (s := q) k hin
    rcases hq with ⟨k3, s3, hq⟩ | ⟨k3, s3, hq⟩
    · cases hq
      have hpw : 10 ^ k ≤ 10 ^ 18 := Nat.pow_le_pow_right (by decide) (by omega)
      have hj : jR (rvl T q k) := ⟨by omega, by omega⟩
      refine mj_T.pl (loc' := [some (.ref 455), some (.int (jn (q : Int))), some (.long (jl (rvl T q k))), none]) rfl rfl rfl rfl ?_
      refine mj_T.pl rfl rfl rfl rfl ?_
      refine mj_T.pl rfl rfl rfl rfl ?_
      refine mj_T.eq (st2 := [.long (jl 12), .long (jl (rvl T q k))]) ?_ rfl rfl rfl rfl
      refine mj_T.lif (a := rvl T q k) (b := 12) rfl rfl hj ⟨by decide, by decide⟩ (fun c => ?_) (fun c => ?_)
      · simp only [jc, decide_eq_true_eq] at c
        refine mj_T.pl rfl rfl rfl rfl ?_
        refine mj_T.l2i rfl ?_
        refine mj_T.ret rfl rfl rfl ⟨_, q + k, _, rfl, ⟨rvl T q k, ⟨by omega, by omega⟩, rfl⟩, k2, Or.inl ?_⟩
        rw [if_pos ⟨⟨kp, k3⟩, c⟩]
        exact ⟨rfl, rfl, by omega, s3⟩
      · simp only [jc, decide_eq_false_iff_not] at c
        iterate 2 refine mj_T.pl rfl rfl rfl rfl ?_
        refine rr_p3 s3 rfl (fun h4 s4 => ?_)
        refine mj_T.pl rfl rfl rfl rfl ?_
        refine mj_T.ret rfl rfl rfl ⟨_, q + k, h4, rfl, ⟨-1, ⟨by decide, by decide⟩, rfl⟩, k2, Or.inr ?_⟩
        rw [if_neg (fun w => c w.2)]
        exact ⟨rfl, hle, s4⟩
    · cases hq
      refine mj_T.pl (loc' := [some (.ref 455), some (.int (jn (q : Int))), some (.long (jl 0)), none]) rfl rfl rfl rfl ?_
      refine mj_T.pl rfl rfl rfl rfl ?_
      refine mj_T.pl rfl rfl rfl rfl ?_
      refine mj_T.eq (st2 := [.long (jl 12), .long (jl 0)]) ?_ rfl rfl rfl rfl
      refine mj_T.lif (a := 0) (b := 12) rfl rfl ⟨by decide, by decide⟩ ⟨by decide, by decide⟩ (fun c => ?_) (fun c => by simp [jc] at c)
      refine mj_T.pl rfl rfl rfl rfl ?_
      refine mj_T.l2i rfl ?_
      refine mj_T.ret rfl rfl rfl ⟨_, q + k, _, rfl, ⟨0, ⟨by decide, by decide⟩, rfl⟩, k2, Or.inr ?_⟩
      rw [if_neg (fun w => by omega)]
      exact ⟨rfl, hle, s3⟩
  · cases hq'
    obtain ⟨k, k1⟩ : ∃ k, rdgp T tm q = q + k := ⟨rdgp T tm q - q, by have w : q ≤ rdgp T tm q := rdg_ge (T := T) (tm - q) q; omega⟩
    have k0 : ¬ (1 ≤ k) := fun w => by
      have d := (rdgp_pos k1).mp w
      exact hd (by rw [show rvt T tm q = T q from if_pos d.1]; exact d.2)
    refine mj_T.if0 (a := 0) rfl ⟨by decide, by decide⟩ (fun hc2 => by simp [jc] at hc2) (fun _ => ?_)
    iterate 2 refine mj_T.pl rfl rfl rfl rfl ?_
    refine rr_g s1 rfl (fun t => rfl) ?_
    refine rr_p3 s1 rfl (fun h2 s2 => ?_)
    refine mj_T.pl rfl rfl rfl rfl ?_
    refine mj_T.ret rfl rfl rfl ⟨_, q, h2, rfl, ⟨-1, ⟨by decide, by decide⟩, rfl⟩, hle, Or.inr ?_⟩
    rw [k1, Nat.add_sub_cancel_left, if_neg (fun w => k0 w.1.1)]
    exact ⟨rfl, hle, s2⟩
theorem kR : cK0 456 = 6 ∧ cK0 466 = 6 ∧ cK0 476 = 2 ∧ cK0 19 = 11 := by decide +kernel
/-- the end of a power: what stands behind it -/
theorem rq_fin {a p : Nat} {l1 : Option Value} (hB : jBuf tm T g) (ht : tm ≤ 200) (hT : ∀ j : Nat, j < tm → 1 ≤ T j ∧ T j ≤ 255) (hp : p ≤ tm) (hap : a ≤ p) (s : rR g n (p : Int) (-1) h) : mj_T (D + 4) mj_m52 135 [some (.ref 455), l1] [] h (rQ T tm g n a (rex T tm p) rV) := by
  have hge := rskp_ge (T := T) (tm := tm) p
  have hle := rskp_le (T := T) hp
  refine mj_T.pl rfl rfl rfl rfl ?_
  refine rr_g s rfl (fun t => rfl) ?_
  refine mj_T.pl rfl rfl rfl rfl ?_
  refine mj_T.icmp (a := -1) (b := -1) rfl ⟨by decide, by decide⟩ ⟨by decide, by decide⟩ (fun c => absurd c (by decide)) (fun _ => ?_)
  iterate 2 refine mj_T.pl rfl rfl rfl rfl ?_
  refine mj_T.call rfl rfl (Nat.le_of_ble_eq_true rfl) (Nat.le_of_ble_eq_true rfl) (s.rv (by decide) rfl _) rfl (rq_takes (D := D + 1) (c := 94) ⟨by decide, by decide⟩ hB ht hT hp s) (fun v h1 hq => ?_) (fun i h1 hq => by rcases hq with ⟨_, _, _, _, hq⟩ | ⟨_, _, _, hq⟩ <;> cases hq)
  rcases hq with ⟨b, _, ⟨b1, b2, b3⟩, s1, hq⟩ | ⟨_, b1, s1, hq⟩
  · cases hq
    refine mj_T.if0 (a := 1) rfl ⟨by decide, by decide⟩ (fun hc2 => by simp [jc] at hc2) (fun _ => ?_)
    refine mj_T.pl rfl rfl rfl rfl ?_
    have er : rex T tm p = rnm T tm 12 b := by unfold rex; rw [b1]
    rw [er]
    refine mj_T.call rfl rfl (Nat.le_of_ble_eq_true rfl) (Nat.le_of_ble_eq_true rfl) (s1.rv (by decide) rfl _) rfl (rq_exponent (D := D + 1) hB ht hT b2 s1) (fun v h2 hq => ?_) (fun i h2 hq => by obtain ⟨_, _, _, hq, _⟩ := hq; cases hq)
    obtain ⟨v2, c, h3, hq, hv, c1, c2⟩ := hq
    obtain ⟨z, hz, rfl⟩ := hv
    cases hq
    refine mj_T.pl rfl rfl rfl rfl ?_
    refine mj_T.ret rfl rfl rfl (rQ.le ⟨_, c, _, rfl, ⟨z, hz, rfl⟩, c1, c2⟩ (by omega))
  · cases hq
    refine mj_T.if0 (a := 0) rfl ⟨by decide, by decide⟩ (fun _ => ?_) (fun hc2 => by simp [jc] at hc2)
    have er : rex T tm p = (true, rskp T tm p) := by unfold rex; rw [b1]
    rw [er]
    refine mj_T.pl rfl rfl rfl rfl ?_
    exact mj_T.ret rfl rfl rfl ⟨_, rskp T tm p, h1, rfl, ⟨-1, ⟨by decide, by decide⟩, rfl⟩, hle, Or.inl ⟨rfl, rfl, by omega, s1⟩⟩
theorem rq_finE {a p x : Nat} {l1 : Option Value} (ht : tm ≤ 200) (hp : p ≤ tm) (hx : x ≤ tm) (s : rR g n (p : Int) (x : Int) h) : mj_T (D + 4) mj_m52 135 [some (.ref 455), l1] [] h (rQ T tm g n a (false, x) rV) := by
  refine mj_T.pl rfl rfl rfl rfl ?_
  refine rr_g s rfl (fun t => rfl) ?_
  refine mj_T.pl rfl rfl rfl rfl ?_
  refine mj_T.icmp (a := (x : Int)) (b := -1) rfl ⟨by omega, by omega⟩ ⟨by decide, by decide⟩ (fun _ => ?_) (fun c => ?_)
  · refine mj_T.pl rfl rfl rfl rfl ?_
    exact mj_T.ret rfl rfl rfl ⟨_, p, h, rfl, ⟨-1, ⟨by decide, by decide⟩, rfl⟩, hp, Or.inr ⟨rfl, hx, s⟩⟩
  · simp only [jc, Bool.not_eq_false', decide_eq_true_eq] at c
    omega
def rV0 (v : Option Value) : Prop := v = none
/-- a power at depth d (so many parentheses may still be opened), out of the sums of the next depth -/
theorem rq_factor {d a f : Nat} {res : Bool × Nat} (hB : jBuf tm T g) (ht : tm ≤ 200) (hT : ∀ j : Nat, j < tm → 1 ≤ T j ∧ T j ≤ 255) (hd : d ≤ 8) {E : Nat} (hE : 5 ≤ E)
    (ih : ∀ d', d = d' + 1 → ∀ (f p : Nat) (h : mj_H) (res : Bool × Nat), p ≤ tm → rpr0 T tm f 3 d' p = some res → rR g n (p : Int) (-1) h → mj_Ok E 49 [.ref 455, .int (jn (8 - (d' : Int)))] h (rQ T tm g n p res rV0))
    (ha : a ≤ tm) (hf : rpr0 T tm f 0 d a = some res) (s : rR g n (a : Int) (-1) h) : mj_Ok (E + 1) 52 [.ref 455, .int (jn (8 - (d : Int)))] h (rQ T tm g n a res rV) := by
  obtain ⟨E0, rfl⟩ : ∃ E0, E = E0 + 5 := ⟨E - 5, by omega⟩
  have hge := rskp_ge (T := T) (tm := tm) a
  have hle := rskp_le (T := T) ha
  have hid := rskp_idem (T := T) ha
  obtain ⟨f, rfl⟩ : ∃ f0, f = f0 + 1 := by
    cases f with
    | zero => cases hf
    | succ f0 => exact ⟨f0, rfl⟩
  refine mj_Ok.of (M := mj_m52) (loc := [some (.ref 455), some (.int (jn (8 - (d : Int))))]) rfl rfl rfl ?_
  refine mj_T.pl rfl rfl rfl rfl ?_
  refine rr_g s rfl (fun t => rfl) ?_
  refine rr_c s rfl rfl (Nat.le_of_ble_eq_true rfl) (Nat.le_of_ble_eq_true rfl) rfl rfl (mj_Ok.up (by omega) (jc_165 (D := 0) cTY0 (Nat.le_of_eq s.1.1) s.1 kR.2.2.1)) (fun v h0 hv s => ?_)
  cases hv
  refine mj_T.pl rfl rfl rfl rfl ?_
  refine mj_T.call rfl rfl (Nat.le_of_ble_eq_true rfl) (Nat.le_of_ble_eq_true rfl) (s.rv (by decide) rfl _) rfl (mj_Ok.up (by omega) (rq_skips (D := 0) hB ht hT ha s)) (fun v h1 hq => ?_) (fun i h1 hq => by obtain ⟨_, _, hq⟩ := hq; cases hq)
  obtain ⟨_, s1, hq⟩ := hq
  cases hq
  unfold rpr0 at hf
  obtain ⟨q, hqd⟩ : ∃ q, rskp T tm a = q := ⟨_, rfl⟩
  rw [hqd] at s1 hle hge hid hf
  refine mj_T.pl rfl rfl rfl rfl ?_
  refine rr_g s1 rfl (fun t => rfl) ?_
  refine mj_T.pl rfl rfl rfl rfl ?_
  refine rr_g s1 rfl (fun t => rfl) ?_
  refine rr_at (D := E0 + 4) s1 hB ht hT (by omega) rfl rfl (Nat.le_of_ble_eq_true rfl) ?_
  have hb := rvt_bd (tm := tm) hT q
  refine mj_T.call rfl rfl (Nat.le_of_ble_eq_true rfl) (Nat.le_of_ble_eq_true rfl) rfl rfl (rq_isDigit (D := E0 + 4) (v := rvt T tm q) ⟨by omega, by omega⟩) (fun v' h' hq' => ?_) (fun i h' hq' => by rcases hq' with ⟨_, h⟩ | ⟨_, h⟩ <;> cases h)
  rcases hq' with ⟨hdg, hq'⟩ | ⟨hdg, hq'⟩
  · -- a number
    cases hq'
    have hdig : q < tm ∧ 48 ≤ T q ∧ T q ≤ 57 := by
      unfold rvt at hdg
      by_cases c : q < tm
      · rw [if_pos c] at hdg
        exact ⟨c, hdg⟩
      · rw [if_neg c] at hdg
        omega
    rw [if_neg (by omega), if_neg (by omega)] at hf
    have eN : rnm T tm 9223372036854775807 q = if (1 ≤ rdgp T tm q - q ∧ rdgp T tm q - q ≤ 18) ∧ rvl T q (rdgp T tm q - q) ≤ 9223372036854775807 then (true, rdgp T tm q) else (false, q) := by
      unfold rnm
      rw [hid]
    rw [eN] at hf
    refine mj_T.if0 (a := 1) rfl ⟨by decide, by decide⟩ (fun hc2 => by simp [jc] at hc2) (fun _ => ?_)
    refine mj_T.pl rfl rfl rfl rfl ?_
    refine rr_g s1 rfl (fun t => rfl) ?_
    iterate 2 refine mj_T.pl rfl rfl rfl rfl ?_
    refine mj_T.call rfl rfl (Nat.le_of_ble_eq_true rfl) (Nat.le_of_ble_eq_true rfl) (s1.rv (by decide) rfl _) rfl (mj_Ok.up (by omega) (rq_number (D := 0) hB ht hT hle s1)) (fun v h2 hq => ?_) (fun i h2 hq => by obtain ⟨_, _, _, _, ⟨_, _, hq⟩ | ⟨_, _, hq⟩⟩ := hq <;> cases hq)
    obtain ⟨k, h3, k1, k2, hq⟩ := hq
    have kp := (rdgp_pos k1).mpr hdig
    rw [k1, Nat.add_sub_cancel_left] at hf
    have hin : ∀ j, q ≤ j → j < q + k → 48 ≤ T j ∧ T j ≤ 57 := fun j j1 j2 => rdg_in (T := T) (tm - q) q j j1 (by show j < rdgp T tm q; omega)
    have hbd := rvl_bd (T := T) (s := q) k hin
    have lsz : cL 476 = 13 := by decide +kernel
    rcases hq with ⟨k3, s3, hq⟩ | ⟨k3, s3, hq⟩
    · cases hq
      have hpw : 10 ^ k ≤ 10 ^ 18 := Nat.pow_le_pow_right (by decide) (by omega)
      rw [if_pos ⟨⟨kp, k3⟩, by omega⟩] at hf
      cases hf
      refine jT.last (i := 0) s3.1 rfl kR.2.2.1 ⟨by decide, by decide⟩ ⟨by decide, by rw [lsz]; decide⟩ (show jR (rvl T q k) from ⟨by omega, by omega⟩) (fun h4 o4 _ => ?_)
      refine mj_T.pl rfl rfl rfl rfl ?_
      exact rq_fin hB ht hT k2 (by omega) (s3.ty o4)
    · cases hq
      rw [if_neg (fun w => by omega)] at hf
      cases hf
      refine jT.last (i := 0) s3.1 rfl kR.2.2.1 ⟨by decide, by decide⟩ ⟨by decide, by rw [lsz]; decide⟩ (show jR 0 from ⟨by decide, by decide⟩) (fun h4 o4 _ => ?_)
      refine mj_T.pl rfl rfl rfl rfl ?_
      exact rq_finE ht k2 hle (s3.ty o4)
  · cases hq'
    refine mj_T.if0 (a := 0) rfl ⟨by decide, by decide⟩ (fun _ => ?_) (fun hc2 => by simp [jc] at hc2)
    have ndig : ¬ (q < tm ∧ 48 ≤ T q ∧ T q ≤ 57) := fun w => hdg (by rw [show rvt T tm q = T q from if_pos w.1]; exact w.2)
    iterate 2 refine mj_T.pl rfl rfl rfl rfl ?_
    refine mj_T.call rfl rfl (Nat.le_of_ble_eq_true rfl) (Nat.le_of_ble_eq_true rfl) (s1.rv (by decide) rfl _) rfl (mj_Ok.up (by omega) (rq_takes (D := 0) (c := 120) ⟨by decide, by decide⟩ hB ht hT hle s1)) (fun v h2 hq => ?_) (fun i h2 hq => by rcases hq with ⟨_, _, _, _, hq⟩ | ⟨_, _, _, hq⟩ <;> cases hq)
    rcases hq with ⟨b, _, ⟨b1, b2, b3⟩, s2, hq⟩ | ⟨_, b1, s2, hq⟩
    · -- the letter x
      cases hq
      unfold rtk at b1
      rw [hid] at b1
      by_cases c : q < tm ∧ T q = 120
      · rw [if_pos c] at b1
        cases b1
        rw [if_pos c] at hf
        cases hf
        have lsz : cL 476 = 13 := by decide +kernel
        refine mj_T.if0 (a := 1) rfl ⟨by decide, by decide⟩ (fun hc2 => by simp [jc] at hc2) (fun _ => ?_)
        refine mj_T.pl rfl rfl rfl rfl ?_
        refine rr_g s2 rfl (fun t => rfl) ?_
        refine mj_T.pl rfl rfl rfl rfl ?_
        refine jT.lc 1 rfl rfl ?_
        refine jT.last (i := 1) s2.1 rfl kR.2.2.1 ⟨by decide, by decide⟩ ⟨by decide, by rw [lsz]; decide⟩ (show jR 1 from ⟨by decide, by decide⟩) (fun h4 o4 _ => ?_)
        refine mj_T.pl rfl rfl rfl rfl ?_
        exact rq_fin hB ht hT b2 (by omega) (s2.ty o4)
      · rw [if_neg c] at b1
        cases b1
    · cases hq
      rw [hid] at s2
      have nx : ¬ (q < tm ∧ T q = 120) := fun w => by
        unfold rtk at b1
        rw [hid, if_pos w] at b1
        cases b1
      rw [if_neg nx] at hf
      refine mj_T.if0 (a := 0) rfl ⟨by decide, by decide⟩ (fun _ => ?_) (fun hc2 => by simp [jc] at hc2)
      -- nothing fits: the error is here
      have bad : ∀ h2, rR g n (q : Int) (-1) h2 → res = (false, q) → mj_T (E0 + 5) mj_m52 127 [some (.ref 455), some (.int (jn (8 - (d : Int))))] [] h2 (rQ T tm g n a res rV) := fun h2 s2 er => by
        subst er
        iterate 2 refine mj_T.pl rfl rfl rfl rfl ?_
        refine rr_g s2 rfl (fun t => rfl) ?_
        refine rr_p3 s2 rfl (fun h3 s3 => ?_)
        exact rq_finE ht hle hle s3
      have num : ¬ (q < tm ∧ T q = 40) → res = (false, q) := fun w => by
        rw [if_neg w] at hf
        obtain ⟨k, k1⟩ : ∃ k, rdgp T tm q = q + k := ⟨rdgp T tm q - q, by have w : q ≤ rdgp T tm q := rdg_ge (T := T) (tm - q) q; omega⟩
        have k0 : ¬ (1 ≤ k) := fun w => ndig ((rdgp_pos k1).mp w)
        have eN : rnm T tm 9223372036854775807 q = (false, q) := by
          unfold rnm
          rw [hid, k1, Nat.add_sub_cancel_left, if_neg (fun w => k0 w.1.1)]
        rw [eN] at hf
        cases hf
        rfl
      iterate 2 refine mj_T.pl rfl rfl rfl rfl ?_
      refine mj_T.icmp (a := 8 - (d : Int)) (b := 8) rfl ⟨by omega, by omega⟩ ⟨by decide, by decide⟩ (fun c => ?_) (fun c => ?_)
      · simp only [jc, decide_eq_true_eq] at c
        have d0 : d = 0 := by omega
        subst d0
        refine bad _ s2 ?_
        by_cases w : q < tm ∧ T q = 40
        · rw [if_pos w, if_pos rfl] at hf
          cases hf
          rfl
        · exact num w
      simp only [jc, decide_eq_false_iff_not] at c
      obtain ⟨d', rfl⟩ : ∃ d', d = d' + 1 := ⟨d - 1, by omega⟩
      iterate 2 refine mj_T.pl rfl rfl rfl rfl ?_
      refine mj_T.call rfl rfl (Nat.le_of_ble_eq_true rfl) (Nat.le_of_ble_eq_true rfl) (s2.rv (by decide) rfl _) rfl (mj_Ok.up (by omega) (rq_takes (D := 0) (c := 40) ⟨by decide, by decide⟩ hB ht hT hle s2)) (fun v h3 hq => ?_) (fun i h3 hq => by rcases hq with ⟨_, _, _, _, hq⟩ | ⟨_, _, _, hq⟩ <;> cases hq)
      rcases hq with ⟨b, _, ⟨b1, b2, b3⟩, s3, hq⟩ | ⟨_, b1, s3, hq⟩
      rotate_left
      · cases hq
        rw [hid] at s3
        have n40 : ¬ (q < tm ∧ T q = 40) := fun w => by
          unfold rtk at b1
          rw [hid, if_pos w] at b1
          cases b1
        refine mj_T.if0 (a := 0) rfl ⟨by decide, by decide⟩ (fun _ => ?_) (fun hc2 => by simp [jc] at hc2)
        exact bad _ s3 (num n40)
      -- a sum in parentheses
      cases hq
      unfold rtk at b1
      rw [hid] at b1
      by_cases w : q < tm ∧ T q = 40
      rotate_left
      · rw [if_neg w] at b1
        cases b1
      rw [if_pos w] at b1
      cases b1
      rw [if_pos w, if_neg (Nat.succ_ne_zero d')] at hf
      refine mj_T.if0 (a := 1) rfl ⟨by decide, by decide⟩ (fun hc2 => by simp [jc] at hc2) (fun _ => ?_)
      iterate 3 refine mj_T.pl rfl rfl rfl rfl ?_
      refine mj_T.iadd (a := 8 - ((d' + 1 : Nat) : Int)) (b := 1) rfl ?_
      rw [show 8 - ((d' + 1 : Nat) : Int) + 1 = 8 - (d' : Int) by omega]
      -- behind the sum: copy it, go on
      have t107 : ∀ (b : Nat) (x : Int) (h4 : mj_H), rR g n (b : Int) x h4 → (∀ h5, rR g n (b : Int) x h5 → mj_T (E0 + 5) mj_m52 135 [some (.ref 455), some (.int (jn (8 - ((d' + 1 : Nat) : Int))))] [] h5 (rQ T tm g n a res rV)) → mj_T (E0 + 5) mj_m52 107 [some (.ref 455), some (.int (jn (8 - ((d' + 1 : Nat) : Int))))] [] h4 (rQ T tm g n a res rV) := fun b x h4 s4 k => by
        refine mj_T.pl rfl rfl rfl rfl ?_
        refine rr_g s4 rfl (fun t => rfl) ?_
        iterate 2 refine mj_T.pl rfl rfl rfl rfl ?_
        refine mj_T.iadd (a := 8 - ((d' + 1 : Nat) : Int)) (b := 1) rfl ?_
        refine rr_cp rfl rfl (Nat.le_of_ble_eq_true rfl) (Nat.le_of_ble_eq_true rfl) rfl rfl (mj_Ok.up (by omega) (jc_48 (D := 0) cTY0 (Nat.le_of_eq s4.1.1) s4.1 kR.1 ⟨by omega, by omega⟩)) (fun v hv => ?_)
        obtain ⟨r, kr, rfl⟩ := hv
        refine mj_T.eq (st2 := [.ref r]) ?_ rfl rfl rfl rfl
        refine mj_T.pl rfl rfl rfl rfl ?_
        refine rr_g s4 rfl (fun t => rfl) ?_
        refine rr_c s4 rfl rfl (Nat.le_of_ble_eq_true rfl) (Nat.le_of_ble_eq_true rfl) rfl rfl (mj_Ok.up (by omega) (jc_164 (D := 0) cTY0 (Nat.le_of_eq s4.1.1) s4.1 kr kR.2.2.1)) (fun v h5 hv s5 => ?_)
        cases hv
        refine mj_T.pl rfl rfl rfl rfl ?_
        exact k h5 s5
      cases hsum : rpr0 T tm f 3 d' (q + 1) with
      | none =>
        rw [show d' + 1 - 1 = d' from rfl, hsum] at hf
        cases hf
      | some rs =>
        rw [show d' + 1 - 1 = d' from rfl, hsum] at hf
        refine mj_T.call rfl rfl (Nat.le_of_ble_eq_true rfl) (Nat.le_of_ble_eq_true rfl) (s3.rv (by decide) rfl _) rfl (ih d' rfl f (q + 1) h3 rs b2 hsum s3) (fun v h4 hq => ?_) (fun i h4 hq => by obtain ⟨_, _, _, hq, _⟩ := hq; cases hq)
        obtain ⟨v2, c2, h5, hq, hv, c3, c4⟩ := hq
        cases hv
        cases hq
        obtain ⟨ok, x⟩ := rs
        rcases c4 with ⟨e1, e2, e3, s4⟩ | ⟨e1, e2, s4⟩
        · have e1 : ok = true := e1
          have e2 : c2 = x := e2
          subst e1 e2
          simp only at hf
          refine mj_T.pl rfl rfl rfl rfl ?_
          refine rr_g s4 rfl (fun t => rfl) ?_
          refine mj_T.pl rfl rfl rfl rfl ?_
          refine mj_T.icmp (a := -1) (b := -1) rfl ⟨by decide, by decide⟩ ⟨by decide, by decide⟩ (fun c => absurd c (by decide)) (fun _ => ?_)
          iterate 2 refine mj_T.pl rfl rfl rfl rfl ?_
          refine mj_T.call rfl rfl (Nat.le_of_ble_eq_true rfl) (Nat.le_of_ble_eq_true rfl) (s4.rv (by decide) rfl _) rfl (mj_Ok.up (by omega) (rq_takes (D := 0) (c := 41) ⟨by decide, by decide⟩ hB ht hT c3 s4)) (fun v h6 hq => ?_) (fun i h6 hq => by rcases hq with ⟨_, _, _, _, hq⟩ | ⟨_, _, _, hq⟩ <;> cases hq)
          rcases hq with ⟨b6, _, ⟨g1, g2, g3⟩, s6, hq⟩ | ⟨_, g1, s6, hq⟩
          · cases hq
            rw [g1] at hf
            cases hf
            refine mj_T.if0 (a := 1) rfl ⟨by decide, by decide⟩ (fun _ => ?_) (fun hc2 => by simp [jc] at hc2)
            exact t107 b6 (-1) h6 s6 (fun h7 s7 => rq_fin hB ht hT g2 (by omega) s7)
          · cases hq
            rw [g1] at hf
            cases hf
            have hl6 := rskp_le (T := T) c3
            refine mj_T.if0 (a := 0) rfl ⟨by decide, by decide⟩ (fun hc2 => by simp [jc] at hc2) (fun _ => ?_)
            iterate 2 refine mj_T.pl rfl rfl rfl rfl ?_
            refine rr_g s6 rfl (fun t => rfl) ?_
            refine rr_p3 s6 rfl (fun h7 s7 => ?_)
            exact t107 _ _ h7 s7 (fun h8 s8 => rq_finE ht hl6 hl6 s8)
        · have e1 : ok = false := e1
          subst e1
          simp only at hf e2 s4
          cases hf
          refine mj_T.pl rfl rfl rfl rfl ?_
          refine rr_g s4 rfl (fun t => rfl) ?_
          refine mj_T.pl rfl rfl rfl rfl ?_
          refine mj_T.icmp (a := (x : Int)) (b := -1) rfl ⟨by omega, by omega⟩ ⟨by decide, by decide⟩ (fun _ => ?_) (fun c => ?_)
          · exact t107 c2 (x : Int) h4 s4 (fun h7 s7 => rq_finE ht c3 e2 s7)
          · simp only [jc, Bool.not_eq_false', decide_eq_true_eq] at c
            omega
end JRE
/-! The class's reader, exactly: products and sums, the whole text. -/
section JRF
variable {D tm n : Nat} {T : Nat → Int} {g h h' : mj_H} {a e : Int}
/-- check (51): what is too great becomes 0 -/
theorem rq_check {p : Nat} {z : Int} {r : Nat} (hz : 0 ≤ z ∧ z ≤ 1) (kr : cK0 r = 2) (s : rR g n (p : Int) e h) : mj_Ok (D + 2) 51 [.ref 455, .int (jn z), .ref r] h (fun w => ∃ h2, w = (.inl none, h2) ∧ rR g n (p : Int) e h2) := by
  refine mj_Ok.of (M := mj_m51) (loc := [some (.ref 455), some (.int (jn z)), some (.ref r)]) rfl rfl rfl ?_
  refine mj_T.pl rfl rfl rfl rfl ?_
  refine mj_T.if0 (a := z) rfl ⟨by omega, by omega⟩ (fun _ => ?_) (fun _ => ?_)
  · exact mj_T.ret rfl rfl rfl ⟨h, rfl, s⟩
  · iterate 2 refine mj_T.pl rfl rfl rfl rfl ?_
    refine rr_p4 (b := 1) (Or.inr rfl) s rfl (fun h1 s1 => ?_)
    refine mj_T.pl rfl rfl rfl rfl ?_
    refine rr_c s1 rfl rfl (Nat.le_of_ble_eq_true rfl) (Nat.le_of_ble_eq_true rfl) rfl rfl (jc_165 (D := D) cTY0 (Nat.le_of_eq s1.1.1) s1.1 kr) (fun v h2 hv s2 => ?_)
    cases hv
    exact mj_T.ret rfl rfl rfl ⟨h2, rfl, s2⟩
theorem rq_product_loop {d r E a0 : Nat} (hB : jBuf tm T g) (ht : tm ≤ 200) (hT : ∀ j : Nat, j < tm → 1 ≤ T j ∧ T j ≤ 255) (hd : d ≤ 8) (kr : cK0 r = 2)
    (ih : ∀ (f p : Nat) (h : mj_H) (res : Bool × Nat), p ≤ tm → rpr0 T tm f 0 d p = some res → rR g n (p : Int) (-1) h → mj_Ok (E + 6) 52 [.ref 455, .int (jn (8 - (d : Int)))] h (rQ T tm g n p res rV)) : ∀ (f p i : Nat) (h : mj_H) (res : Bool × Nat) (l4 : Option Value), p ≤ tm → i ≤ p → a0 ≤ p → rpr0 T tm f 1 d p = some res → rR g n (p : Int) (-1) h → mj_T (E + 6) mj_m50 19 [some (.ref 455), some (.int (jn (8 - (d : Int)))), some (.ref r), some (.int (jn (i : Int))), l4] [] h (rQ T tm g n a0 res rV0) := by
  intro f
  induction f with
  | zero => intro p i h res l4 _ _ _ hf; cases hf
  | succ f ihf =>
    intro p i h res l4 hp hi ha hf s
    have b := s.jBuf hB
    unfold rpr0 at hf
    iterate 2 refine mj_T.pl rfl rfl rfl rfl ?_
    refine rr_g s rfl (fun t => rfl) ?_
    refine mj_T.gfl rfl b.1 rfl ?_
    refine mj_T.icmp (a := (i : Int)) (b := (tm : Int)) rfl ⟨by omega, by omega⟩ ⟨by omega, by omega⟩ (fun c => ?_) (fun _ => ?_)
    · have c := of_decide_eq_true c
      omega
    iterate 2 refine mj_T.pl rfl rfl rfl rfl ?_
    cases hfa : rpr0 T tm f 0 d p with
    | none => rw [hfa] at hf; cases hf
    | some rs =>
      rw [hfa] at hf
      refine mj_T.call rfl rfl (Nat.le_of_ble_eq_true rfl) (Nat.le_of_ble_eq_true rfl) (s.rv (by decide) rfl _) rfl (ih f p h rs hp hfa s) (fun v h4 hq => ?_) (fun i h4 hq => by obtain ⟨_, _, _, hq, _⟩ := hq; cases hq)
      obtain ⟨v2, c2, h5, hq, ⟨z, hz, hv⟩, c3, c4⟩ := hq
      subst hv
      cases hq
      refine mj_T.pl (loc' := [some (.ref 455), some (.int (jn (8 - (d : Int)))), some (.ref r), some (.int (jn (i : Int))), some (.int (jn z))]) rfl rfl rfl rfl ?_
      refine mj_T.pl rfl rfl rfl rfl ?_
      obtain ⟨ok, x⟩ := rs
      rcases c4 with ⟨e1, e2, e3, s4⟩ | ⟨e1, e2, s4⟩
      rotate_left
      · have e1 : ok = false := e1
        subst e1
        simp only at hf e2 s4
        cases hf
        refine rr_g s4 rfl (fun t => rfl) ?_
        refine mj_T.pl rfl rfl rfl rfl ?_
        refine mj_T.icmp (a := (x : Int)) (b := -1) rfl ⟨by omega, by omega⟩ ⟨by decide, by decide⟩ (fun c => ?_) (fun _ => ?_)
        · simp only [jc, decide_eq_true_eq] at c
          omega
        · exact mj_T.ret rfl rfl rfl ⟨_, c2, _, rfl, rfl, c3, Or.inr ⟨rfl, e2, s4⟩⟩
      have e1 : ok = true := e1
      have e2 : c2 = x := e2
      subst e1 e2
      simp only at hf
      refine rr_g s4 rfl (fun t => rfl) ?_
      refine mj_T.pl rfl rfl rfl rfl ?_
      refine mj_T.icmp (a := -1) (b := -1) rfl ⟨by decide, by decide⟩ ⟨by decide, by decide⟩ (fun _ => ?_) (fun c => absurd c (by decide))
      -- the product so far, times the factor
      have t77 : ∀ h6, rR g n (c2 : Int) (-1) h6 → mj_T (E + 6) mj_m50 77 [some (.ref 455), some (.int (jn (8 - (d : Int)))), some (.ref r), some (.int (jn (i : Int))), some (.int (jn z))] [] h6 (rQ T tm g n a0 res rV0) := fun h6 s6 => by
        iterate 2 refine mj_T.pl rfl rfl rfl rfl ?_
        refine rr_g s6 rfl (fun t => rfl) ?_
        iterate 2 refine mj_T.pl rfl rfl rfl rfl ?_
        refine rr_g s6 rfl (fun t => rfl) ?_
        refine mj_T.pl rfl rfl rfl rfl ?_
        refine rr_c s6 rfl rfl (Nat.le_of_ble_eq_true rfl) (Nat.le_of_ble_eq_true rfl) (jrv_of s6.1 kR.2.2.2 (by decide) rfl (by decide) rfl _) rfl (mj_Ok.up (by omega) (jc_11 (D := 0) cTY0 (Nat.le_of_eq s6.1.1) s6.1 kR.2.2.2 kr kR.2.2.1 kr)) (fun v h7 hv s7 => ?_)
        obtain ⟨y, y1, y2, rfl⟩ := hv
        refine mj_T.eq (st2 := [.int (jn y), .ref 455]) ?_ rfl rfl rfl rfl
        refine mj_T.pl rfl rfl rfl rfl ?_
        refine mj_T.call rfl rfl (Nat.le_of_ble_eq_true rfl) (Nat.le_of_ble_eq_true rfl) (s7.rv (by decide) rfl _) rfl (mj_Ok.up (by omega) (rq_check (D := 0) ⟨y1, y2⟩ kr s7)) (fun v h8 hq => ?_) (fun i h8 hq => by obtain ⟨_, hq, _⟩ := hq; cases hq)
        obtain ⟨_, hq, s8⟩ := hq
        cases hq
        iterate 2 refine mj_T.pl rfl rfl rfl rfl ?_
        refine mj_T.call rfl rfl (Nat.le_of_ble_eq_true rfl) (Nat.le_of_ble_eq_true rfl) (s8.rv (by decide) rfl _) rfl (mj_Ok.up (by omega) (rq_takes (D := 0) (c := 42) ⟨by decide, by decide⟩ hB ht hT c3 s8)) (fun v h9 hq => ?_) (fun i h9 hq => by rcases hq with ⟨_, _, _, _, hq⟩ | ⟨_, _, _, hq⟩ <;> cases hq)
        rcases hq with ⟨b9, _, ⟨g1, g2, g3⟩, s9, hq⟩ | ⟨_, g1, s9, hq⟩
        · cases hq
          rw [g1] at hf
          refine mj_T.if0 (a := 1) rfl ⟨by decide, by decide⟩ (fun _ => ?_) (fun hc2 => by simp [jc] at hc2)
          refine mj_T.iinc (a := (i : Int)) rfl rfl ?_
          refine mj_T.eq (loc2 := [some (.ref 455), some (.int (jn (8 - (d : Int)))), some (.ref r), some (.int (jn ((i + 1 : Nat) : Int))), some (.int (jn z))]) ?_ rfl (by rw [show ((i + 1 : Nat) : Int) = (i : Int) + 1 by omega]; rfl) rfl rfl
          refine mj_T.pl rfl rfl rfl rfl ?_
          exact ihf b9 (i + 1) h9 res _ g2 (by omega) (by omega) hf s9
        · cases hq
          rw [g1] at hf
          cases hf
          have hl9 := rskp_le (T := T) c3
          have hg9 := rskp_ge (T := T) (tm := tm) c2
          refine mj_T.if0 (a := 0) rfl ⟨by decide, by decide⟩ (fun hc2 => by simp [jc] at hc2) (fun _ => ?_)
          exact mj_T.ret rfl rfl rfl ⟨_, rskp T tm c2, h9, rfl, rfl, hl9, Or.inl ⟨rfl, rfl, by omega, s9⟩⟩
      iterate 2 refine mj_T.pl rfl rfl rfl rfl ?_
      refine mj_T.icmp (a := z) (b := -1) rfl ⟨by omega, by omega⟩ ⟨by decide, by decide⟩ (fun _ => t77 _ s4) (fun _ => ?_)
      iterate 2 refine mj_T.pl rfl rfl rfl rfl ?_
      refine rr_g s4 rfl (fun t => rfl) ?_
      refine mj_T.pl rfl rfl rfl rfl ?_
      refine rr_g s4 rfl (fun t => rfl) ?_
      iterate 2 refine mj_T.pl rfl rfl rfl rfl ?_
      refine rr_g s4 rfl (fun t => rfl) ?_
      refine rr_c s4 rfl rfl (Nat.le_of_ble_eq_true rfl) (Nat.le_of_ble_eq_true rfl) (jrv_of s4.1 kR.2.2.2 (by decide) rfl (by decide) rfl _) rfl (mj_Ok.up (by omega) (jc_12 (D := 0) cTY0 (Nat.le_of_eq s4.1.1) s4.1 kR.2.2.2 kR.2.2.1 ⟨by omega, by omega⟩ kR.2.2.1)) (fun v h7 hv s7 => ?_)
      obtain ⟨y, y1, y2, rfl⟩ := hv
      refine mj_T.eq (st2 := [.int (jn y), .ref 455]) ?_ rfl rfl rfl rfl
      refine mj_T.pl rfl rfl rfl rfl ?_
      refine rr_g s7 rfl (fun t => rfl) ?_
      refine mj_T.call rfl rfl (Nat.le_of_ble_eq_true rfl) (Nat.le_of_ble_eq_true rfl) (s7.rv (by decide) rfl _) rfl (mj_Ok.up (by omega) (rq_check (D := 0) ⟨y1, y2⟩ kR.2.2.1 s7)) (fun v h8 hq => ?_) (fun i h8 hq => by obtain ⟨_, hq, _⟩ := hq; cases hq)
      obtain ⟨_, hq, s8⟩ := hq
      cases hq
      exact t77 _ s8
theorem rq_product {d E : Nat} (hB : jBuf tm T g) (ht : tm ≤ 200) (hT : ∀ j : Nat, j < tm → 1 ≤ T j ∧ T j ≤ 255) (hd : d ≤ 8)
    (ih : ∀ (f p : Nat) (h : mj_H) (res : Bool × Nat), p ≤ tm → rpr0 T tm f 0 d p = some res → rR g n (p : Int) (-1) h → mj_Ok (E + 6) 52 [.ref 455, .int (jn (8 - (d : Int)))] h (rQ T tm g n p res rV)) (f p : Nat) (h : mj_H) (res : Bool × Nat) (hp : p ≤ tm) (hf : rpr0 T tm f 1 d p = some res) (s : rR g n (p : Int) (-1) h) : mj_Ok (E + 7) 50 [.ref 455, .int (jn (8 - (d : Int)))] h (rQ T tm g n p res rV0) := by
  refine mj_Ok.of (M := mj_m50) (loc := [some (.ref 455), some (.int (jn (8 - (d : Int)))), none, none, none]) rfl rfl rfl ?_
  refine mj_T.pl rfl rfl rfl rfl ?_
  refine rr_g s rfl (fun t => rfl) ?_
  refine mj_T.pl rfl rfl rfl rfl ?_
  refine rr_cp rfl rfl (Nat.le_of_ble_eq_true rfl) (Nat.le_of_ble_eq_true rfl) rfl rfl (mj_Ok.up (by omega) (jc_48 (D := 0) cTY0 (Nat.le_of_eq s.1.1) s.1 kR.2.1 ⟨by omega, by omega⟩)) (fun v hv => ?_)
  obtain ⟨r, kr, rfl⟩ := hv
  refine mj_T.eq (st2 := [.ref r]) ?_ rfl rfl rfl rfl
  refine mj_T.pl (loc' := [some (.ref 455), some (.int (jn (8 - (d : Int)))), some (.ref r), none, none]) rfl rfl rfl rfl ?_
  refine mj_T.pl rfl rfl rfl rfl ?_
  refine rr_c s rfl rfl (Nat.le_of_ble_eq_true rfl) (Nat.le_of_ble_eq_true rfl) rfl rfl (mj_Ok.up (by omega) (jc_165 (D := 0) cTY0 (Nat.le_of_eq s.1.1) s.1 kr)) (fun v h1 hv s1 => ?_)
  cases hv
  iterate 2 refine mj_T.pl rfl rfl rfl rfl ?_
  refine jT.lc 1 rfl rfl ?_
  have lr : 13 ≤ (cL r : Int) ∧ (cL r : Int) ≤ 13 := jlen 2 cTY0 kr (by decide) (by decide)
  refine jT.last (i := 0) s1.1 rfl kr ⟨by decide, by decide⟩ ⟨by decide, by omega⟩ (show jR 1 from ⟨by decide, by decide⟩) (fun h2 o2 _ => ?_)
  iterate 2 refine mj_T.pl rfl rfl rfl rfl ?_
  exact rq_product_loop hB ht hT hd kr ih f p 0 h2 res _ hp (Nat.zero_le _) (Nat.le_refl _) hf (s1.ty o2)
/-- a sum: and blanks are passed behind it -/
def rQ2 (T : Nat → Int) (tm : Nat) (g : mj_H) (n a : Nat) (res : Bool × Nat) (r : mj_R) : Prop := rQ T tm g n a res rV0 r ∧ (res.1 = true → rskp T tm res.2 = res.2)
theorem rq_sum_loop {d r E a0 : Nat} (hB : jBuf tm T g) (ht : tm ≤ 200) (hT : ∀ j : Nat, j < tm → 1 ≤ T j ∧ T j ≤ 255) (hd : d ≤ 8) (kr : cK0 r = 2)
    (ih : ∀ (f p : Nat) (h : mj_H) (res : Bool × Nat), p ≤ tm → rpr0 T tm f 1 d p = some res → rR g n (p : Int) (-1) h → mj_Ok (E + 7) 50 [.ref 455, .int (jn (8 - (d : Int)))] h (rQ T tm g n p res rV0)) : ∀ (f p i : Nat) (z : Int) (h : mj_H) (res : Bool × Nat) (l5 : Option Value), p ≤ tm → i ≤ p → a0 ≤ p → (z = 1 ∨ z = -1) → rpr0 T tm f 2 d p = some res → rR g n (p : Int) (-1) h → mj_T (E + 7) mj_m49 31 [some (.ref 455), some (.int (jn (8 - (d : Int)))), some (.ref r), some (.int (jn z)), some (.int (jn (i : Int))), l5] [] h (rQ2 T tm g n a0 res) := by
  intro f
  induction f with
  | zero => intro p i z h res l5 _ _ _ _ hf; cases hf
  | succ f ihf =>
    intro p i z h res l5 hp hi ha hz hf s
    have b := s.jBuf hB
    unfold rpr0 at hf
    iterate 2 refine mj_T.pl rfl rfl rfl rfl ?_
    refine rr_g s rfl (fun t => rfl) ?_
    refine mj_T.gfl rfl b.1 rfl ?_
    refine mj_T.icmp (a := (i : Int)) (b := (tm : Int)) rfl ⟨by omega, by omega⟩ ⟨by omega, by omega⟩ (fun c => ?_) (fun _ => ?_)
    · have c := of_decide_eq_true c
      omega
    iterate 2 refine mj_T.pl rfl rfl rfl rfl ?_
    cases hfa : rpr0 T tm f 1 d p with
    | none => rw [hfa] at hf; cases hf
    | some rs =>
      rw [hfa] at hf
      refine mj_T.call rfl rfl (Nat.le_of_ble_eq_true rfl) (Nat.le_of_ble_eq_true rfl) (s.rv (by decide) rfl _) rfl (ih f p h rs hp hfa s) (fun v h4 hq => ?_) (fun i h4 hq => by obtain ⟨_, _, _, hq, _⟩ := hq; cases hq)
      obtain ⟨v2, c2, h5, hq, hv, c3, c4⟩ := hq
      cases hv
      cases hq
      refine mj_T.pl rfl rfl rfl rfl ?_
      obtain ⟨ok, x⟩ := rs
      rcases c4 with ⟨e1, e2, e3, s4⟩ | ⟨e1, e2, s4⟩
      rotate_left
      · have e1 : ok = false := e1
        subst e1
        simp only at hf e2 s4
        cases hf
        refine rr_g s4 rfl (fun t => rfl) ?_
        refine mj_T.pl rfl rfl rfl rfl ?_
        refine mj_T.icmp (a := (x : Int)) (b := -1) rfl ⟨by omega, by omega⟩ ⟨by decide, by decide⟩ (fun c => ?_) (fun _ => ?_)
        · simp only [jc, decide_eq_true_eq] at c
          omega
        · exact mj_T.ret rfl rfl rfl ⟨⟨_, c2, _, rfl, rfl, c3, Or.inr ⟨rfl, e2, s4⟩⟩, fun q => by cases q⟩
      have e1 : ok = true := e1
      have e2 : c2 = x := e2
      subst e1 e2
      simp only at hf
      refine rr_g s4 rfl (fun t => rfl) ?_
      refine mj_T.pl rfl rfl rfl rfl ?_
      refine mj_T.icmp (a := -1) (b := -1) rfl ⟨by decide, by decide⟩ ⟨by decide, by decide⟩ (fun _ => ?_) (fun c => absurd c (by decide))
      iterate 3 refine mj_T.pl rfl rfl rfl rfl ?_
      refine rr_g s4 rfl (fun t => rfl) ?_
      refine mj_T.pl rfl rfl rfl rfl ?_
      refine rr_cp rfl rfl (Nat.le_of_ble_eq_true rfl) (Nat.le_of_ble_eq_true rfl) rfl rfl (mj_Ok.up (by omega) (jc_48 (D := 0) cTY0 (Nat.le_of_eq s4.1.1) s4.1 kR.2.1 ⟨by omega, by omega⟩)) (fun v hv => ?_)
      obtain ⟨r2, kr2, rfl⟩ := hv
      refine mj_T.eq (st2 := [.ref r2, .ref r, .ref 455]) ?_ rfl rfl rfl rfl
      iterate 2 refine mj_T.pl rfl rfl rfl rfl ?_
      refine rr_c s4 rfl rfl (Nat.le_of_ble_eq_true rfl) (Nat.le_of_ble_eq_true rfl) rfl rfl (mj_Ok.up (by omega) (jc_167 (D := 0) cTY0 (Nat.le_of_eq s4.1.1) s4.1 kr kr2 (p2 := z) ⟨by omega, by omega⟩ kr)) (fun v h6 hv s6 => ?_)
      obtain ⟨y, y1, y2, rfl⟩ := hv
      refine mj_T.eq (st2 := [.int (jn y), .ref 455]) ?_ rfl rfl rfl rfl
      refine mj_T.pl rfl rfl rfl rfl ?_
      refine mj_T.call rfl rfl (Nat.le_of_ble_eq_true rfl) (Nat.le_of_ble_eq_true rfl) (s6.rv (by decide) rfl _) rfl (mj_Ok.up (by omega) (rq_check (D := 0) ⟨y1, y2⟩ kr s6)) (fun v h8 hq => ?_) (fun i h8 hq => by obtain ⟨_, hq, _⟩ := hq; cases hq)
      obtain ⟨_, hq, s8⟩ := hq
      cases hq
      have hl9 := rskp_le (T := T) c3
      have hg9 := rskp_ge (T := T) (tm := tm) c2
      -- the next product, with its sign
      have t99 : ∀ (y : Int) (b9 : Nat) (h9 : mj_H), (y = 0 ∨ y = 1) → b9 ≤ tm → i + 1 ≤ b9 → a0 ≤ b9 → rpr0 T tm f 2 d b9 = some res → rR g n (b9 : Int) (-1) h9 → mj_T (E + 7) mj_m49 99 [some (.ref 455), some (.int (jn (8 - (d : Int)))), some (.ref r), some (.int (jn z)), some (.int (jn (i : Int))), some (.int (jn y))] [] h9 (rQ2 T tm g n a0 res) := fun y b9 h9 hy g2 g3 g4 hf9 s9 => by
        have t109 : ∀ z2 : Int, (z2 = 1 ∨ z2 = -1) → mj_T (E + 7) mj_m49 109 [some (.ref 455), some (.int (jn (8 - (d : Int)))), some (.ref r), some (.int (jn z)), some (.int (jn (i : Int))), some (.int (jn y))] [.int (jn z2)] h9 (rQ2 T tm g n a0 res) := fun z2 hz2 => by
          refine mj_T.pl (loc' := [some (.ref 455), some (.int (jn (8 - (d : Int)))), some (.ref r), some (.int (jn z2)), some (.int (jn (i : Int))), some (.int (jn y))]) rfl rfl rfl rfl ?_
          refine mj_T.iinc (a := (i : Int)) rfl rfl ?_
          refine mj_T.eq (loc2 := [some (.ref 455), some (.int (jn (8 - (d : Int)))), some (.ref r), some (.int (jn z2)), some (.int (jn ((i + 1 : Nat) : Int))), some (.int (jn y))]) ?_ rfl (by rw [show ((i + 1 : Nat) : Int) = (i : Int) + 1 by omega]; rfl) rfl rfl
          refine mj_T.pl rfl rfl rfl rfl ?_
          exact ihf b9 (i + 1) z2 h9 res _ g2 g3 g4 hz2 hf9 s9
        refine mj_T.pl rfl rfl rfl rfl ?_
        refine mj_T.if0 (a := y) rfl ⟨by omega, by omega⟩ (fun _ => ?_) (fun _ => ?_)
        · refine mj_T.pl rfl rfl rfl rfl ?_
          exact t109 (-1) (Or.inr rfl)
        · iterate 2 refine mj_T.pl rfl rfl rfl rfl ?_
          exact t109 1 (Or.inl rfl)
      iterate 2 refine mj_T.pl rfl rfl rfl rfl ?_
      refine mj_T.call rfl rfl (Nat.le_of_ble_eq_true rfl) (Nat.le_of_ble_eq_true rfl) (s8.rv (by decide) rfl _) rfl (mj_Ok.up (by omega) (rq_takes (D := 0) (c := 43) ⟨by decide, by decide⟩ hB ht hT c3 s8)) (fun v h9 hq => ?_) (fun i h9 hq => by rcases hq with ⟨_, _, _, _, hq⟩ | ⟨_, _, _, hq⟩ <;> cases hq)
      rcases hq with ⟨b9, _, ⟨g1, g2, g3⟩, s9, hq⟩ | ⟨_, g1, s9, hq⟩
      · cases hq
        rw [g1] at hf
        refine mj_T.pl (loc' := [some (.ref 455), some (.int (jn (8 - (d : Int)))), some (.ref r), some (.int (jn z)), some (.int (jn (i : Int))), some (.int (jn 1))]) rfl rfl rfl rfl ?_
        refine mj_T.pl rfl rfl rfl rfl ?_
        refine mj_T.if0 (a := 1) rfl ⟨by decide, by decide⟩ (fun _ => ?_) (fun hc2 => by simp [jc] at hc2)
        exact t99 1 b9 h9 (Or.inr rfl) g2 (by omega) (by omega) hf s9
      · cases hq
        rw [g1] at hf
        simp only at hf
        refine mj_T.pl (loc' := [some (.ref 455), some (.int (jn (8 - (d : Int)))), some (.ref r), some (.int (jn z)), some (.int (jn (i : Int))), some (.int (jn 0))]) rfl rfl rfl rfl ?_
        refine mj_T.pl rfl rfl rfl rfl ?_
        refine mj_T.if0 (a := 0) rfl ⟨by decide, by decide⟩ (fun hc2 => by simp [jc] at hc2) (fun _ => ?_)
        iterate 2 refine mj_T.pl rfl rfl rfl rfl ?_
        refine mj_T.call rfl rfl (Nat.le_of_ble_eq_true rfl) (Nat.le_of_ble_eq_true rfl) (s9.rv (by decide) rfl _) rfl (mj_Ok.up (by omega) (rq_takes (D := 0) (c := 45) ⟨by decide, by decide⟩ hB ht hT hl9 s9)) (fun v h10 hq => ?_) (fun i h10 hq => by rcases hq with ⟨_, _, _, _, hq⟩ | ⟨_, _, _, hq⟩ <;> cases hq)
        rcases hq with ⟨b9, _, ⟨g1, g2, g3⟩, s10, hq⟩ | ⟨_, g1, s10, hq⟩
        · cases hq
          rw [g1] at hf
          refine mj_T.if0 (a := 1) rfl ⟨by decide, by decide⟩ (fun _ => ?_) (fun hc2 => by simp [jc] at hc2)
          exact t99 0 b9 h10 (Or.inl rfl) g2 (by omega) (by omega) hf s10
        · cases hq
          rw [g1] at hf
          cases hf
          rw [rskp_idem c3] at s10
          refine mj_T.if0 (a := 0) rfl ⟨by decide, by decide⟩ (fun hc2 => by simp [jc] at hc2) (fun _ => ?_)
          exact mj_T.ret rfl rfl rfl ⟨⟨_, rskp T tm c2, h10, rfl, rfl, hl9, Or.inl ⟨rfl, rfl, by omega, s10⟩⟩, fun _ => rskp_idem c3⟩
theorem rq_sum {d E : Nat} (hB : jBuf tm T g) (ht : tm ≤ 200) (hT : ∀ j : Nat, j < tm → 1 ≤ T j ∧ T j ≤ 255) (hd : d ≤ 8)
    (ih : ∀ (f p : Nat) (h : mj_H) (res : Bool × Nat), p ≤ tm → rpr0 T tm f 1 d p = some res → rR g n (p : Int) (-1) h → mj_Ok (E + 7) 50 [.ref 455, .int (jn (8 - (d : Int)))] h (rQ T tm g n p res rV0)) (f p : Nat) (h : mj_H) (res : Bool × Nat) (hp : p ≤ tm) (hf : rpr0 T tm f 3 d p = some res) (s : rR g n (p : Int) (-1) h) : mj_Ok (E + 8) 49 [.ref 455, .int (jn (8 - (d : Int)))] h (rQ2 T tm g n p res) := by
  obtain ⟨f, rfl⟩ : ∃ f0, f = f0 + 1 := by
    cases f with
    | zero => cases hf
    | succ f0 => exact ⟨f0, rfl⟩
  unfold rpr0 at hf
  refine mj_Ok.of (M := mj_m49) (loc := [some (.ref 455), some (.int (jn (8 - (d : Int)))), none, none, none, none]) rfl rfl rfl ?_
  refine mj_T.pl rfl rfl rfl rfl ?_
  refine rr_g s rfl (fun t => rfl) ?_
  refine mj_T.pl rfl rfl rfl rfl ?_
  refine rr_cp rfl rfl (Nat.le_of_ble_eq_true rfl) (Nat.le_of_ble_eq_true rfl) rfl rfl (mj_Ok.up (by omega) (jc_48 (D := 0) cTY0 (Nat.le_of_eq s.1.1) s.1 kR.1 ⟨by omega, by omega⟩)) (fun v hv => ?_)
  obtain ⟨r, kr, rfl⟩ := hv
  refine mj_T.eq (st2 := [.ref r]) ?_ rfl rfl rfl rfl
  refine mj_T.pl (loc' := [some (.ref 455), some (.int (jn (8 - (d : Int)))), some (.ref r), none, none, none]) rfl rfl rfl rfl ?_
  refine mj_T.pl rfl rfl rfl rfl ?_
  refine rr_c s rfl rfl (Nat.le_of_ble_eq_true rfl) (Nat.le_of_ble_eq_true rfl) rfl rfl (mj_Ok.up (by omega) (jc_165 (D := 0) cTY0 (Nat.le_of_eq s.1.1) s.1 kr)) (fun v h1 hv s1 => ?_)
  cases hv
  iterate 2 refine mj_T.pl rfl rfl rfl rfl ?_
  refine mj_T.call rfl rfl (Nat.le_of_ble_eq_true rfl) (Nat.le_of_ble_eq_true rfl) (s1.rv (by decide) rfl _) rfl (mj_Ok.up (by omega) (rq_takes (D := 0) (c := 45) ⟨by decide, by decide⟩ hB ht hT hp s1)) (fun v h2 hq => ?_) (fun i h2 hq => by rcases hq with ⟨_, _, _, _, hq⟩ | ⟨_, _, _, hq⟩ <;> cases hq)
  have t27 : ∀ (z : Int) (b : Nat) (h2 : mj_H), (z = 1 ∨ z = -1) → b ≤ tm → p ≤ b → rpr0 T tm f 2 d b = some res → rR g n (b : Int) (-1) h2 → mj_T (E + 7) mj_m49 27 [some (.ref 455), some (.int (jn (8 - (d : Int)))), some (.ref r), none, none, none] [.int (jn z)] h2 (rQ2 T tm g n p res) := fun z b h2 hz hb hpb hf2 s2 => by
    refine mj_T.pl (loc' := [some (.ref 455), some (.int (jn (8 - (d : Int)))), some (.ref r), some (.int (jn z)), none, none]) rfl rfl rfl rfl ?_
    iterate 2 refine mj_T.pl rfl rfl rfl rfl ?_
    exact rq_sum_loop hB ht hT hd kr ih f b 0 z h2 res none hb (Nat.zero_le _) hpb hz hf2 s2
  have hg := rskp_ge (T := T) (tm := tm) p
  have hl := rskp_le (T := T) hp
  rcases hq with ⟨b, _, ⟨b1, b2, b3⟩, s2, hq⟩ | ⟨_, b1, s2, hq⟩
  · cases hq
    rw [b1] at hf
    refine mj_T.if0 (a := 1) rfl ⟨by decide, by decide⟩ (fun hc2 => by simp [jc] at hc2) (fun _ => ?_)
    iterate 2 refine mj_T.pl rfl rfl rfl rfl ?_
    exact t27 (-1) b h2 (Or.inr rfl) b2 (by omega) hf s2
  · cases hq
    rw [b1] at hf
    refine mj_T.if0 (a := 0) rfl ⟨by decide, by decide⟩ (fun _ => ?_) (fun hc2 => by simp [jc] at hc2)
    refine mj_T.pl rfl rfl rfl rfl ?_
    exact t27 1 _ h2 (Or.inl rfl) hl hg hf s2
/-- all depths -/
theorem rq_all (hB : jBuf tm T g) (ht : tm ≤ 200) (hT : ∀ j : Nat, j < tm → 1 ≤ T j ∧ T j ≤ 255) : ∀ d, d ≤ 8 → ∀ (f p : Nat) (h : mj_H) (res : Bool × Nat), p ≤ tm → rpr0 T tm f 3 d p = some res → rR g n (p : Int) (-1) h → mj_Ok (3 * d + 8) 49 [.ref 455, .int (jn (8 - (d : Int)))] h (rQ2 T tm g n p res) := by
  intro d
  induction d with
  | zero =>
    intro _ f p h res hp hf s
    refine rq_sum (E := 0) hB ht hT (by decide) (fun f p h res hp hf s => ?_) f p h res hp hf s
    exact rq_product (E := 0) hB ht hT (by decide) (fun f p h res hp hf s => rq_factor (E := 5) hB ht hT (by decide) (Nat.le_refl 5) (fun d' e => by omega) hp hf s) f p h res hp hf s
  | succ d ihd =>
    intro hd f p h res hp hf s
    have e : 3 * (d + 1) + 8 = (3 * d + 3) + 8 := by omega
    rw [e]
    refine rq_sum (E := 3 * d + 3) hB ht hT hd (fun f p h res hp hf s => ?_) f p h res hp hf s
    refine rq_product (E := 3 * d + 3) hB ht hT hd (fun f p h res hp hf s => ?_) f p h res hp hf s
    exact rq_factor (E := 3 * d + 8) hB ht hT hd (by omega) (fun d' e f p h res hp hf s => by
      have e2 : d = d' := by omega
      subst e2
      exact (ihd (by omega) f p h res hp hf s).to (fun r q => q.1)) hp hf s
theorem rq_accepts {b0 : Nat} {a0 e0 t0 : Int} (o : jO cK0 cL cR g n 0 g) (hc : g[455]? = some (.inr (4, [.ref 19, .ref b0, .int (jn a0), .int (jn e0), .int (jn t0), .ref 456, .ref 466, .ref 476]))) (hB : jBuf tm T g) (ht : tm ≤ 200) (hT : ∀ j : Nat, j < tm → 1 ≤ T j ∧ T j ≤ 255) : mj_Ok 40 46 [.ref 455, .ref 13] g (fun r => ∃ (p : Nat) (h2 : mj_H), p ≤ tm ∧ jr (rdErr T tm) ∧ rR g n (p : Int) (rdErr T tm) h2 ∧ r = (.inl (some (.int (jn (if rdErr T tm = -1 then 1 else 0)))), h2)) := by
  have hl := (List.getElem?_eq_some_iff.mp hc).1
  refine mj_Ok.of (M := mj_m46) (loc := [some (.ref 455), some (.ref 13)]) rfl rfl rfl ?_
  iterate 2 refine mj_T.pl rfl rfl rfl rfl ?_
  refine mj_T.pfl rfl hc (Nat.le_of_ble_eq_true rfl) rfl ?_
  iterate 2 refine mj_T.pl rfl rfl rfl rfl ?_
  refine mj_T.pfl rfl (List.getElem?_set_self hl) (Nat.le_of_ble_eq_true rfl) rfl ?_
  rw [List.set_set]
  iterate 2 refine mj_T.pl rfl rfl rfl rfl ?_
  refine mj_T.pfl rfl (List.getElem?_set_self hl) (Nat.le_of_ble_eq_true rfl) rfl ?_
  rw [List.set_set]
  iterate 2 refine mj_T.pl rfl rfl rfl rfl ?_
  refine mj_T.pfl rfl (List.getElem?_set_self hl) (Nat.le_of_ble_eq_true rfl) rfl ?_
  rw [List.set_set]
  have s0 : ∀ fs : List Value, fs = RF 0 (-1) 0 → rR g n ((0 : Nat) : Int) (-1) (g.set 455 (.inr (4, fs))) := fun fs q => by
    subst q
    refine ⟨?_, fun p hp hn => by rw [List.getElem?_set_ne (Ne.symm hn)], 0, Or.inl rfl, List.getElem?_set_self hl⟩
    have := o.keep (h' := g.set 455 (.inr (4, RF 0 (-1) 0))) (fun p hp => by rw [List.getElem?_set_ne (by intro q; rw [← q] at hp; exact hp (cK0_0 (by decide)))])
    rw [List.length_set, o.1] at this
    exact this
  have s1 := s0 _ rfl
  obtain ⟨h1, hh1⟩ : ∃ z, z = g.set 455 (.inr (4, RF 0 (-1) 0)) := ⟨_, rfl⟩
  rw [← hh1] at s1
  refine mj_T.eq (h2 := h1) ?_ rfl rfl rfl (by rw [hh1]; rfl)
  obtain ⟨hre, hrb⟩ := rdR_eq T tm
  obtain ⟨res, hres⟩ : ∃ z, rdR T tm = z := ⟨_, rfl⟩
  rw [hres] at hre hrb
  have t55 : ∀ (x : Int) (p : Nat) (h2 : mj_H), jr x → p ≤ tm → rdErr T tm = x → rR g n (p : Int) x h2 → mj_T 39 mj_m46 55 [some (.ref 455), some (.ref 13)] [] h2 (fun r => ∃ (p : Nat) (h2 : mj_H), p ≤ tm ∧ jr (rdErr T tm) ∧ rR g n (p : Int) (rdErr T tm) h2 ∧ r = (.inl (some (.int (jn (if rdErr T tm = -1 then 1 else 0)))), h2)) := fun x p h2 jx hp ex s2 => by
    rw [ex]
    refine mj_T.pl rfl rfl rfl rfl ?_
    refine rr_g s2 rfl (fun t => rfl) ?_
    refine mj_T.pl rfl rfl rfl rfl ?_
    refine mj_T.icmp (a := x) (b := -1) rfl jx ⟨by decide, by decide⟩ (fun c => ?_) (fun c => ?_)
    · simp only [jc, Bool.not_eq_true', decide_eq_false_iff_not] at c
      refine mj_T.pl rfl rfl rfl rfl ?_
      exact mj_T.ret rfl rfl rfl ⟨p, h2, hp, jx, s2, by rw [if_neg c]⟩
    · simp only [jc, Bool.not_eq_false', decide_eq_true_eq] at c
      iterate 2 refine mj_T.pl rfl rfl rfl rfl ?_
      exact mj_T.ret rfl rfl rfl ⟨p, h2, hp, jx, s2, by rw [if_pos c]⟩
  iterate 2 refine mj_T.pl rfl rfl rfl rfl ?_
  refine mj_T.eq (st2 := [.int (jn (8 - ((8 : Nat) : Int))), .ref 455]) ?_ rfl rfl rfl rfl
  refine mj_T.call rfl rfl (Nat.le_of_ble_eq_true rfl) (Nat.le_of_ble_eq_true rfl) (s1.rv (by decide) rfl _) rfl (mj_Ok.up (by decide) (rq_all hB ht hT 8 (by decide) (rdF tm) 0 h1 res (Nat.zero_le _) hre s1)) (fun v h4 hq => ?_) (fun i h4 hq => by obtain ⟨⟨_, _, _, hq, _⟩, _⟩ := hq; cases hq)
  obtain ⟨⟨v2, c2, h5, hq, hv, c3, c4⟩, hsk⟩ := hq
  cases hv
  cases hq
  refine mj_T.pl rfl rfl rfl rfl ?_
  rcases c4 with ⟨e1, e2, e3, s4⟩ | ⟨e1, e2, s4⟩
  rotate_left
  · refine rr_g s4 rfl (fun t => rfl) ?_
    refine mj_T.pl rfl rfl rfl rfl ?_
    refine mj_T.icmp (a := (res.2 : Int)) (b := -1) rfl ⟨by omega, by omega⟩ ⟨by decide, by decide⟩ (fun _ => ?_) (fun c => ?_)
    · exact t55 _ c2 h4 ⟨by omega, by omega⟩ c3 (by unfold rdErr; rw [hres, e1]; rfl) s4
    · simp only [jc, Bool.not_eq_false', decide_eq_true_eq] at c
      omega
  have hb := s4.jBuf hB
  have hsk2 := hsk e1
  refine rr_g s4 rfl (fun t => rfl) ?_
  refine mj_T.pl rfl rfl rfl rfl ?_
  refine mj_T.icmp (a := -1) (b := -1) rfl ⟨by decide, by decide⟩ ⟨by decide, by decide⟩ (fun c => absurd c (by decide)) (fun _ => ?_)
  refine mj_T.pl rfl rfl rfl rfl ?_
  refine rr_g s4 rfl (fun t => rfl) ?_
  refine mj_T.pl rfl rfl rfl rfl ?_
  refine rr_g s4 rfl (fun t => rfl) ?_
  refine mj_T.gfl rfl hb.1 rfl ?_
  refine mj_T.icmp (a := (c2 : Int)) (b := (tm : Int)) rfl ⟨by omega, by omega⟩ ⟨by omega, by omega⟩ (fun c => ?_) (fun c => ?_)
  · have c := of_decide_eq_true c
    refine t55 (-1) c2 h4 ⟨by decide, by decide⟩ c3 ?_ s4
    unfold rdErr
    rw [hres, if_pos e1, if_pos (by rw [hsk2]; omega)]
  · have c := of_decide_eq_false c
    iterate 2 refine mj_T.pl rfl rfl rfl rfl ?_
    refine rr_g s4 rfl (fun t => rfl) ?_
    refine rr_p3 s4 rfl (fun h6 s6 => ?_)
    refine t55 (c2 : Int) c2 h6 ⟨by omega, by omega⟩ c3 ?_ s6
    unfold rdErr
    rw [hres, if_pos e1, if_neg (by rw [hsk2]; omega), hsk2, e2]
end JRF
/-! The class's calls that store bytes or move the error: what they leave. -/
section JMN
variable {D n : Nat} {tm er : Int} {T : Nat → Int} {g h h' : mj_H}
theorem jO.main (o : jO cK cL cR g n tm h) : ∃ mf : List Value, h[1]? = some (.inr (9, mf)) ∧ mf.length = 16 ∧ mf[4]? = some (.ref 13) ∧ mf[5]? = some (.ref 15) ∧ mf[6]? = some (.ref 17) ∧ mf[10]? = some (.ref 455) := by
  obtain ⟨fs, h1, h2, h3⟩ := o.obj (a := 1) cK4.1 (by decide)
  obtain ⟨v4, a4, b4⟩ := h3 4 127 rfl
  obtain ⟨v5, a5, b5⟩ := h3 5 117 rfl
  obtain ⟨v6, a6, b6⟩ := h3 6 117 rfl
  obtain ⟨v10, a10, b10⟩ := h3 10 114 rfl
  have e4 := jfv_at (by decide) b4
  have e5 := jfv_at (by decide) b5
  have e6 := jfv_at (by decide) b6
  have e10 := jfv_at (by decide) b10
  rw [ck1 4 (by decide)] at e4
  rw [ck1 5 (by decide)] at e5
  rw [ck1 6 (by decide)] at e6
  rw [ck1 10 (by decide)] at e10
  exact ⟨fs, h1, h2, by rw [a4, e4]; rfl, by rw [a5, e5]; rfl, by rw [a6, e6]; rfl, by rw [a10, e10]; rfl⟩
theorem jcx.same (x : jcx er tm T h) (h1 : h'[1]? = h[1]?) (h2 : h'[14]? = h[14]?) : jcx er tm T h' := by
  obtain ⟨⟨fs, a1, a2⟩, f, a3, a4⟩ := x
  exact ⟨⟨fs, by rw [h1]; exact a1, a2⟩, f, by rw [h2]; exact a3, a4⟩
theorem jcx.setq {q : Nat} {e : mj_E} (x : jcx er tm T h) (h1 : q ≠ 1) (h2 : q ≠ 14) : jcx er tm T (h.set q e) := x.same (List.getElem?_set_ne h1) (List.getElem?_set_ne h2)
theorem jcx.last {pc q r1 r2 r3 r4 r5 : Nat} {M : mj_M} {loc : mj_L} {st : List Value} {Q : mj_R → Prop} {x : Int64} {f : Nat → Value} (hf : h[q]? = some (.inl (1, 1, f))) (hc : M.2.2.2.2.1 pc = some (.lastore, r1, r2, r3, r4, r5)) (k : ∀ e, mj_T D M (pc + 1) loc st (h.set q e) Q) : mj_T D M pc loc (.long x :: .int (jn 0) :: .ref q :: st) h Q := by
  refine mj_T.step hc rfl (pc' := pc + 1) (loc' := loc) (st' := st) (h' := h.set q (.inl (1, 1, updV f 0 (.long x)))) ?_ (k _)
  simp only [mj_step, hf]
  rfl
/-- a text that is not the buffer is written -/
theorem rq_setRow {p a : Nat} (hp : p = 15 ∨ p = 17) (o : jO cK cL cR g n tm h) (ka : cK a = 2) : mj_Ok (D + 4) 82 [.ref p, .ref a] h (fun r => r.2[1]? = h[1]? ∧ r.2[14]? = h[14]?) := by
  have kp : cK0 p = 17 := by rcases hp with q | q <;> subst q <;> decide +kernel
  have ka0 : cK0 a = 2 := by
    rw [cK0_e (fun q => ?_)]
    · exact ka
    · rcases q with q | q | q | q
      · subst q; rw [cK4.1] at ka; cases ka
      · subst q; rw [cK4.2.1] at ka; cases ka
      · subst q; rw [cK4.2.2.1] at ka; cases ka
      · subst q; rw [cK4.2.2.2.1] at ka; cases ka
  refine (jc_82 (D := D) cTY0 (Nat.le_of_eq o.1) o.fr kp ka0).to (fun r hr => ?_)
  obtain ⟨r1, r2⟩ := r
  have l1 : 1 < h.length := (List.getElem?_eq_some_iff.mp o.main.choose_spec.1).1
  have l14 : 14 < h.length := by
    obtain ⟨f, h1, _⟩ := o.arr (a := 14) cK4.2.2.1 (by decide) (by decide)
    exact (List.getElem?_eq_some_iff.mp h1).1
  cases r1 with
  | inl v => exact ⟨(hr.2.2.2.1 1 (cK0_0 (by decide))).1 l1, (hr.2.2.2.1 14 (cK0_0 (by decide))).1 l14⟩
  | inr i => exact absurd hr.1 List.not_mem_nil
theorem rq_write {p1 : Int} (rp : -2147483648 ≤ p1 ∧ p1 ≤ 2147483647) (o : jO cK cL cR g n tm h) (hg : g.length ≤ n) (x : jcx er tm T h) : mj_Ok (D + 5) 144 [.ref 1, .int (jn p1)] h (fun r => jcx er tm T r.2) := by
  have k1 := cK4.1
  refine mj_Ok.of (M := mj_m144) (loc := [some (.ref 1), some (.int (jn p1))]) rfl rfl rfl ?_
  obtain ⟨mf, m1, m2, m4, m5, m6, m10⟩ := o.main
  refine mj_T.pl rfl rfl rfl rfl ?_
  refine mj_T.gfl rfl m1 m5 ?_
  iterate 2 refine mj_T.pl rfl rfl rfl rfl ?_
  refine mj_T.call rfl rfl (Nat.le_of_ble_eq_true rfl) (Nat.le_of_ble_eq_true rfl) (jrv_of o k1 (by decide) rfl (by decide) rfl _) rfl (mj_Ok.up (by omega) ((jc_149 (D := 0) cTY hg o k1 rp).qt rfl)) (fun v h1 hq => ?_) (fun i h1 hq => ?_)
  rotate_left
  · exact Or.inl ⟨rfl, x.qt hq.2⟩
  obtain ⟨⟨⟨a, ka, hv⟩, hh⟩, _⟩ := hq
  subst hv
  have hh : h1 = h := hh
  subst hh
  refine mj_T.eq (st2 := [.ref a, .ref 15]) ?_ rfl rfl rfl rfl
  refine mj_T.call rfl rfl (Nat.le_of_ble_eq_true rfl) (Nat.le_of_ble_eq_true rfl) (jrv_of o (a := 15) (by decide +kernel : cK 15 = 17) (by decide) rfl (by decide) rfl _) rfl ((jc_82 (D := D) cTY hg o (by decide +kernel : cK 15 = 17) ka).and (rq_setRow (D := D) (Or.inl rfl) o ka)) (fun v h2 hq => ?_) (fun i h2 hq => absurd hq.1.1 List.not_mem_nil)
  obtain ⟨⟨hv, o2⟩, e1, e14⟩ := hq
  cases hv
  have x2 := x.same e1 e14
  obtain ⟨mf2, w1, w2, w4, w5, w6, w10⟩ := o2.main
  refine mj_T.pl rfl rfl rfl rfl ?_
  refine mj_T.gfl rfl w1 w5 ?_
  refine jT.getE o2 rfl (Or.inl (by decide +kernel : cK 15 = 17)) (fun z _ _ _ => ?_)
  exact mj_T.ret rfl rfl rfl x2
/-- read: where the error is then -/
theorem rq_read {p1 : Int} {tm0 : Nat} (rp : -2147483648 ≤ p1 ∧ p1 ≤ 2147483647) (o : jO cK cL cR g n (tm0 : Int) h) (hg : g.length ≤ n) (x : jcx er (tm0 : Int) T h) (hT : ∀ j : Nat, j < tm0 → 1 ≤ T j ∧ T j ≤ 255) : mj_Ok 60 114 [.ref 1, .int (jn p1)] h (fun r => (¬ (0 ≤ p1 ∧ p1 ≤ 5) ∧ jcx er (tm0 : Int) T r.2) ∨ ((0 ≤ p1 ∧ p1 ≤ 5) ∧ jcx (rdErr T tm0) 0 T r.2)) := by
  have k1 := cK4.1
  have ht : tm0 ≤ 200 := by have := o.2.1; omega
  refine mj_Ok.of (M := mj_m114) (loc := [some (.ref 1), some (.int (jn p1)), none]) rfl rfl rfl ?_
  obtain ⟨mf, m1, m2, m4, m5, m6, m10⟩ := o.main
  iterate 2 refine mj_T.pl rfl rfl rfl rfl ?_
  refine mj_T.call rfl rfl (Nat.le_of_ble_eq_true rfl) (Nat.le_of_ble_eq_true rfl) (jrv_of o k1 (by decide) rfl (by decide) rfl _) rfl (mj_Ok.up (by omega) ((jc_149e (D := 0) cTY hg o k1 rp).qt rfl)) (fun v h1 hq => ?_) (fun i h1 hq => ?_)
  rotate_left
  · obtain ⟨hq, qt⟩ := hq
    rcases hq with ⟨q1, q2, _⟩ | ⟨_, _, q2, _⟩
    · exact Or.inl ⟨rfl, Or.inl ⟨q1, x.qt qt⟩⟩
    · cases q2
  obtain ⟨hq, _⟩ := hq
  rcases hq with ⟨_, q2, _⟩ | ⟨hreg, a, q2, q3⟩
  · cases q2
  cases q2
  have q3 : h1 = h := q3
  subst q3
  refine mj_T.pl rfl rfl rfl rfl ?_
  refine mj_T.pl rfl rfl rfl rfl ?_
  refine mj_T.gfl rfl m1 m10 ?_
  refine mj_T.pl rfl rfl rfl rfl ?_
  refine mj_T.gfl rfl m1 m4 ?_
  have hB := x.jBuf o
  obtain ⟨b0, a0, e0, t0, hr0⟩ := o.rdr
  refine mj_T.call rfl rfl (Nat.le_of_ble_eq_true rfl) (Nat.le_of_ble_eq_true rfl) (jrv_of o cK4.2.2.2.1 (by decide) rfl (by decide) rfl _) rfl (mj_Ok.up (by decide) (rq_accepts o.fr hr0 hB ht hT)) (fun v h2 hq => ?_) (fun i h2 hq => by obtain ⟨_, _, _, _, _, hq⟩ := hq; cases hq)
  obtain ⟨p, _, hp, hjE, s2, hq⟩ := hq
  obtain ⟨E, hE⟩ : ∃ E, rdErr T tm0 = E := ⟨_, rfl⟩
  rw [hE] at s2 hq hjE ⊢
  have hEr : -2147483648 ≤ E ∧ E ≤ 2147483647 := ⟨hjE.1, by have := hjE.2; omega⟩
  generalize hz : (if E = -1 then (1 : Int) else 0) = z at hq
  have hz01 : z = 0 ∨ z = 1 := by rw [← hz]; split; exact Or.inr rfl; exact Or.inl rfl
  cases hq
  refine mj_T.pl (loc' := [some (.ref 1), some (.int (jn p1)), some (.int (jn z))]) rfl rfl rfl rfl ?_
  have n1 : h2[1]? = some (.inr (9, mf)) := by rw [s2.2.1 1 (cK0_0 (by decide)) (by decide)]; exact m1
  have n13 : h2[13]? = some (.inr (7, [.ref 14, .int (jn (tm0 : Int))])) := by rw [s2.2.1 13 (cK0_0 (by decide)) (by decide)]; exact hB.1
  obtain ⟨o2, f2, t2, ht2, hr2⟩ := s2
  have l1 := (List.getElem?_eq_some_iff.mp n1).1
  have l13 := (List.getElem?_eq_some_iff.mp n13).1
  refine mj_T.pl rfl rfl rfl rfl ?_
  refine mj_T.gfl rfl n1 m4 ?_
  refine mj_T.pl rfl rfl rfl rfl ?_
  refine mj_T.pfl rfl n13 (Nat.le_of_ble_eq_true rfl) rfl ?_
  have g1 : (h2.set 13 (.inr (7, [.ref 14, .int (jn 0)])))[1]? = some (.inr (9, mf)) := by rw [List.getElem?_set_ne (by decide)]; exact n1
  have gr : (h2.set 13 (.inr (7, [.ref 14, .int (jn 0)])))[455]? = some (.inr (4, RF (p : Int) E t2)) := by rw [List.getElem?_set_ne (by decide)]; exact hr2
  refine mj_T.eq (h2 := h2.set 13 (.inr (7, [.ref 14, .int (jn 0)]))) ?_ rfl rfl rfl rfl
  iterate 2 refine mj_T.pl rfl rfl rfl rfl ?_
  refine mj_T.gfl rfl g1 m10 ?_
  refine mj_T.gfl rfl gr rfl ?_
  refine mj_T.pfl rfl g1 (by rw [m2]; decide) rfl ?_
  -- the heap then
  obtain ⟨h4, hh4⟩ : ∃ h4, h4 = (h2.set 13 (.inr (7, [.ref 14, .int (jn 0)]))).set 1 (.inr (9, mf.set 15 (.int (jn E)))) := ⟨_, rfl⟩
  rw [← hh4]
  have w1 : h4[1]? = some (.inr (9, mf.set 15 (.int (jn E)))) := by rw [hh4, List.getElem?_set_self (by rw [List.length_set]; exact l1)]
  have w13 : h4[13]? = some (.inr (7, [.ref 14, .int (jn 0)])) := by rw [hh4, List.getElem?_set_ne (by decide), List.getElem?_set_self l13]
  have w14 : h4[14]? = h1[14]? := by rw [hh4, List.getElem?_set_ne (by decide), List.getElem?_set_ne (by decide)]; exact f2 14 (cK0_0 (by decide)) (by decide)
  have w455 : h4[455]? = some (.inr (4, RF (p : Int) E t2)) := by rw [hh4, List.getElem?_set_ne (by decide)]; exact gr
  have w10 : (mf.set 15 (.int (jn E)))[10]? = some (.ref 455) := by rw [List.getElem?_set_ne (by decide)]; exact m10
  have x4 : jcx E 0 T h4 := ⟨⟨_, w1, List.getElem?_set_self (by rw [m2]; decide)⟩, by
    obtain ⟨f, y1, y2⟩ := x.2
    exact ⟨f, by rw [w14]; exact y1, fun j hj => by omega⟩⟩
  have fin : ∀ hx, jcx E 0 T hx → (¬ (0 ≤ p1 ∧ p1 ≤ 5) ∧ jcx er (tm0 : Int) T hx) ∨ ((0 ≤ p1 ∧ p1 ≤ 5) ∧ jcx E 0 T hx) := fun hx q => Or.inr ⟨hreg, q⟩
  have o4 : jO cK cL cR h4 n 0 h4 := by
    have o0 : jO cK0 cL cR h4 h4.length 0 h4 := o2.keep (fun a ha => by
      have := (cK0_n ha).1
      rw [hh4, List.getElem?_set_ne (by omega), List.getElem?_set_ne (by omega)])
    have hln : h4.length = n := by rw [hh4, List.length_set, List.length_set]; exact o2.1
    rw [hln] at o0
    refine o0.un ⟨by decide, by decide⟩ (fun a ha => ?_)
    rcases ha with q | q | q | q
    · subst q
      obtain ⟨e1, y1, y2⟩ := o.2.2.2 1 (by rw [k1]; decide)
      rw [m1] at y1
      cases y1
      rw [k1] at y2
      refine ⟨_, w1, ?_⟩
      rw [k1]
      have y3 : jCf cK cL cR 0 19 1 (.inr (9, mf)) := y2.mv2 (by decide) (by decide)
      unfold jCf at y3
      rw [if_neg (by decide)] at y3
      obtain ⟨fs, z1, z2, z3⟩ := y3
      injection z1 with z1
      injection z1 with _ z1
      subst z1
      exact jCf_set (k := 19) (i := 15) (by decide) z2 z3 rfl (jfv_mk rfl (by show -2147483648 ≤ E; omega) (by show E ≤ 2147483647; omega))
    · subst q
      exact ⟨_, w13, jCf_buf (tm := 0)⟩
    · subst q
      obtain ⟨e1, y1, y2⟩ := o.2.2.2 14 (by rw [cK4.2.2.1]; decide)
      refine ⟨e1, by rw [w14]; exact y1, ?_⟩
      rw [cK4.2.2.1] at y2 ⊢
      exact y2.mv2 (by decide) (by decide)
    · subst q
      exact ⟨_, w455, jCf_rdr ⟨by omega, by omega⟩ ⟨by omega, by omega⟩ ht2⟩
  have hg4 : h4.length ≤ n := Nat.le_of_eq o4.1
  refine mj_T.pl rfl rfl rfl rfl ?_
  refine mj_T.if0 (a := z) rfl ⟨by omega, by omega⟩ (fun _ => ?_) (fun _ => ?_)
  rotate_left
  · exact mj_T.throws rfl rfl rfl (Nat.le_of_ble_eq_true rfl) (fin _ (x4.qt (jqt.app _)))
  refine mj_T.pl rfl rfl rfl rfl ?_
  refine mj_T.gfl rfl w1 w10 ?_
  refine mj_T.gfl rfl w455 rfl ?_
  refine mj_T.if0 (a := t2) rfl ⟨by omega, by omega⟩ (fun _ => ?_) (fun _ => ?_)
  rotate_left
  · exact mj_T.throws rfl rfl rfl (Nat.le_of_ble_eq_true rfl) (fin _ (x4.qt (jqt.app _)))
  refine mj_T.pl rfl rfl rfl rfl ?_
  refine mj_T.gfl rfl w1 w10 ?_
  refine mj_T.call rfl rfl (Nat.le_of_ble_eq_true rfl) (Nat.le_of_ble_eq_true rfl) (jrv_of o4 cK4.2.2.2.1 (by decide) rfl (by decide) rfl _) rfl (mj_Ok.up (by omega) ((jc_47 (D := 0) cTY hg4 o4 cK4.2.2.2.1).qt rfl)) (fun v h5 hq => ?_) (fun i h5 hq => absurd hq.1.1 List.not_mem_nil)
  obtain ⟨⟨⟨a5, ka5, hv⟩, hh⟩, _⟩ := hq
  subst hv
  have hh : h5 = h4 := hh
  subst hh
  refine mj_T.eq (st2 := [.ref a5]) ?_ rfl rfl rfl rfl
  refine mj_T.pl rfl rfl rfl rfl ?_
  refine jT.getR 19 102 2 cTY o4 rfl k1 (by decide) rfl rfl rfl (fun k13 => ?_)
  refine mj_T.call rfl rfl (Nat.le_of_ble_eq_true rfl) (Nat.le_of_ble_eq_true rfl) rfl rfl (mj_Ok.up (by omega) ((jc_164 (D := 0) cTY hg4 o4 ka5 k13).qt rfl)) (fun v h6 hq => ?_) (fun i h6 hq => absurd hq.1.1 List.not_mem_nil)
  obtain ⟨⟨hv, o6⟩, qt6⟩ := hq
  cases hv
  have x6 := x4.qt qt6
  iterate 2 refine mj_T.pl rfl rfl rfl rfl ?_
  refine mj_T.call rfl rfl (Nat.le_of_ble_eq_true rfl) (Nat.le_of_ble_eq_true rfl) (jrv_of o6 k1 (by decide) rfl (by decide) rfl _) rfl (mj_Ok.up (by omega) ((jc_154 (D := 0) cTY hg4 o6 k1 rp).qt rfl)) (fun v h7 hq => ?_) (fun i h7 hq => ?_)
  · obtain ⟨⟨⟨z7, _, _, hv⟩, _⟩, qt7⟩ := hq
    subst hv
    exact mj_T.ret rfl rfl rfl (fin _ (x6.qt qt7))
  · exact Or.inl ⟨rfl, fin _ (x6.qt hq.2)⟩
end JMN
/-! errors: the bytes and the place of the error stay. -/
theorem rc_p {D pc n r1 r2 r3 r4 r5 : Nat} {tm : Int} {M : mj_M} {loc : mj_L} {st : List Value} {g h : mj_H} {Q : mj_R → Prop} {K L : Nat → Nat} {R : Nat → Nat → Nat} {V : Option Value → Prop} {ins : Instr} {as : List Value} (hc : M.2.2.2.2.1 pc = some (ins, r1, r2, r3, r4, r5)) (hk : mj_kind ins r3 = 3) (hl : r2 ≤ st.length) (hcat : mj_cat (st.drop r2) ≤ 8) (hr : mj_recv ins r2 r5 st h = true) (has : (st.take r2).reverse = as) (hcall : mj_Ok D r1 as h (jQp K L R g n tm h [] V)) (k : ∀ v, V v → mj_T D M (pc + 3) loc (v.toList ++ st.drop r2) h Q) : mj_T D M pc loc st h Q :=
  mj_T.call hc hk hl hcat hr has hcall (fun v h' hq => by
    obtain ⟨h1, h2⟩ := hq
    have h2 : h' = h := h2
    subst h2
    exact k v h1) (fun i h' hq => absurd hq.1 List.not_mem_nil)
theorem rq_errors {n : Nat} {tm er : Int} {T : Nat → Int} {g h : mj_H} (hg : g.length ≤ n) (o : jO cK cL cR g n tm h) (x : jcx er tm T h) : mj_Ok 60 148 [.ref 1] h (fun r => jcx er tm T r.2) := by
  have ob : jO cK cL cR g n tm h ∧ jcx er tm T h := ⟨o, x⟩
  refine mj_Ok.of (M := mj_m148) (loc := [some (.ref 1), none, none, none]) rfl rfl rfl ?_
  refine mj_T.pl rfl rfl rfl rfl ?_
  refine mj_T.pl (loc' := [some (.ref 1), some (.int (jn 0)), none, none]) rfl rfl rfl rfl ?_
  refine mj_T.pl rfl rfl rfl rfl ?_
  refine mj_T.pl (loc' := [some (.ref 1), some (.int (jn 0)), some (.int (jn 0)), none]) rfl rfl rfl rfl ?_
  have t4_5 : ∀ (k6 : Nat) (x1 : Int) (x2 : Int) (w3 : Option Value) (h4 : mj_H), (-2147483648 ≤ x1 ∧ x1 ≤ 2147483647) → (-2147483648 ≤ x2 ∧ x2 ≤ 2147483647) → (jO cK cL cR g n tm h4 ∧ jcx er tm T h4) → (0 ≤ x2) → (2147483647 - x2 : Int).toNat = k6 → mj_T 59 mj_m148 4 [some (.ref 1), some (.int (jn x1)), some (.int (jn x2)), w3] [] h4 (fun r => jcx er tm T r.2) := by
    refine jInd (fun k6 ih7 => ?_)
    intro x1 x2 w3 h4 rx1 rx2 oh4 ix2 hm8
    refine mj_T.pl rfl rfl rfl rfl ?_
    refine mj_T.pl rfl rfl rfl rfl ?_
    refine jT.getR 19 110 10 cTY oh4.1 rfl cK4.1 (by decide) rfl rfl rfl (fun k9 => ?_)
    refine jT.getR 10 106 6 cTY oh4.1 rfl k9 (by decide) rfl rfl rfl (fun k10 => ?_)
    refine jT.alen 6 cTY oh4.1 rfl k10 (by decide) (by decide) (fun z11 ez11 (az11 : 6 ≤ z11) (bz11 : z11 ≤ 9) => ?_)
    have rz11 : -2147483648 ≤ z11 ∧ z11 ≤ 2147483647 := ⟨by omega, by omega⟩
    refine jT.icmp rfl rx2 rz11 (fun c13 => ?_) (fun c13 => ?_)
    · have c13 := of_decide_eq_true c13
      refine mj_T.pl rfl rfl rfl rfl ?_
      refine mj_T.pl (loc' := [some (.ref 1), some (.int (jn x1)), some (.int (jn 0)), w3]) rfl rfl rfl rfl ?_
      have t77_15 : ∀ (k16 : Nat) (x12 : Int) (x13 : Int) (h14 : mj_H), (-2147483648 ≤ x12 ∧ x12 ≤ 2147483647) → (-2147483648 ≤ x13 ∧ x13 ≤ 2147483647) → (jO cK cL cR g n tm h14 ∧ jcx er tm T h14) → (0 ≤ x13) → (2147483647 - x13 : Int).toNat = k16 → mj_T 59 mj_m148 77 [some (.ref 1), some (.int (jn x12)), some (.int (jn x13)), w3] [] h14 (fun r => jcx er tm T r.2) := by
        refine jInd (fun k16 ih17 => ?_)
        intro x12 x13 h14 rx12 rx13 oh14 ix13 hm18
        refine mj_T.pl rfl rfl rfl rfl ?_
        refine mj_T.pl rfl rfl rfl rfl ?_
        refine jT.getR 19 110 10 cTY oh14.1 rfl cK4.1 (by decide) rfl rfl rfl (fun k19 => ?_)
        refine jT.getR 10 106 6 cTY oh14.1 rfl k19 (by decide) rfl rfl rfl (fun k20 => ?_)
        refine jT.alen 6 cTY oh14.1 rfl k20 (by decide) (by decide) (fun z21 ez21 (az21 : 6 ≤ z21) (bz21 : z21 ≤ 9) => ?_)
        have rz21 : -2147483648 ≤ z21 ∧ z21 ≤ 2147483647 := ⟨by omega, by omega⟩
        refine jT.icmp rfl rx13 rz21 (fun c86 => ?_) (fun c86 => ?_)
        · have c86 := of_decide_eq_true c86
          refine mj_T.pl rfl rfl rfl rfl ?_
          exact mj_T.ret rfl rfl rfl oh14.2
        · have c86 := of_decide_eq_false c86
          refine mj_T.pl rfl rfl rfl rfl ?_
          refine jT.getR 19 117 17 cTY oh14.1 rfl cK4.1 (by decide) rfl rfl rfl (fun k22 => ?_)
          refine mj_T.pl rfl rfl rfl rfl ?_
          refine jT.getR 19 110 10 cTY oh14.1 rfl cK4.1 (by decide) rfl rfl rfl (fun k23 => ?_)
          refine jT.getR 10 106 6 cTY oh14.1 rfl k23 (by decide) rfl rfl rfl (fun k24 => ?_)
          refine mj_T.pl rfl rfl rfl rfl ?_
          refine jT.aald 6 2 cTY oh14.1 rfl k24 (by decide) (by decide) rfl rx13 ⟨by omega, by omega⟩ (fun k25 => ?_)
          refine mj_T.call rfl rfl (Nat.le_of_ble_eq_true rfl) (Nat.le_of_ble_eq_true rfl) (jrv_of oh14.1 k22 (by decide) rfl (by decide) rfl _) rfl (mj_Ok.up (by decide) ((jc_82 (D := 0) cTY hg oh14.1 k22 k25).and (rq_setRow (D := 0) (Or.inr (ck1 6 (by decide))) oh14.1 k25))) (fun v26 h27 hq => ?_) (fun i' hi' hq => absurd hq.1.1 List.not_mem_nil)
          obtain ⟨⟨qv26, ox⟩, xx⟩ := hq
          have oh27 : jO cK cL cR g n tm h27 ∧ jcx er tm T h27 := ⟨ox, oh14.2.same xx.1 xx.2⟩
          obtain rfl : v26 = none := qv26
          refine mj_T.eq (pc2 := 105) (st2 := []) ?_ rfl rfl rfl rfl
          refine mj_T.pl rfl rfl rfl rfl ?_
          refine jT.getR 19 114 14 cTY oh27.1 rfl cK4.1 (by decide) rfl rfl rfl (fun k28 => ?_)
          refine mj_T.pl rfl rfl rfl rfl ?_
          refine jT.getR 19 117 17 cTY oh27.1 rfl cK4.1 (by decide) rfl rfl rfl (fun k29 => ?_)
          refine mj_T.call rfl rfl (Nat.le_of_ble_eq_true rfl) (Nat.le_of_ble_eq_true rfl) (jrv_of oh27.1 k28 (by decide) rfl (by decide) rfl _) rfl (mj_Ok.up (by decide) ((jc_46 (D := 0) cTY hg oh27.1 k28 (Or.inl k29)).qt rfl)) (fun v30 h31 hq => ?_) (fun i' hi' hq => absurd hq.1.1 List.not_mem_nil)
          obtain ⟨⟨qv30, ox⟩, xx⟩ := hq
          have oh31 : jO cK cL cR g n tm h31 ∧ jcx er tm T h31 := ⟨ox, oh27.2.qt xx⟩
          obtain ⟨z32, az32, bz32, rfl⟩ := qv30
          have rz32 : -2147483648 ≤ z32 ∧ z32 ≤ 2147483647 := ⟨by omega, by omega⟩
          refine mj_T.eq (pc2 := 116) (st2 := [.int (jn z32)]) ?_ rfl rfl rfl rfl
          refine jT.if0 rfl rz32 (fun c116 => ?_) (fun c116 => ?_)
          · have c116 := of_decide_eq_true c116
            refine jT.iinc rfl rfl (fun z33 rz33 ez33 => ?_)
            clear ez33
            refine mj_T.eq (loc2 := [some (.ref 1), some (.int (jn z33)), some (.int (jn x13)), w3]) ?_ rfl rfl rfl rfl
            refine jT.iinc rfl rfl (fun z34 rz34 ez34 => ?_)
            replace ez34 := ez34 ⟨by omega, by omega⟩
            refine mj_T.eq (loc2 := [some (.ref 1), some (.int (jn z33)), some (.int (jn z34)), w3]) ?_ rfl rfl rfl rfl
            refine mj_T.pl rfl rfl rfl rfl ?_
            exact ih17 ((2147483647 - z34 : Int).toNat) (by omega) z33 z34 h31 rz33 rz34 oh31 (by omega) rfl
          · have c116 := of_decide_eq_false c116
            refine mj_T.pl rfl rfl rfl rfl ?_
            refine jT.getR 19 114 14 cTY oh31.1 rfl cK4.1 (by decide) rfl rfl rfl (fun k35 => ?_)
            refine jT.getI 14 2 oh31.1 rfl k35 (by decide) rfl rfl rfl (fun z36 (az36 : 0 ≤ z36) (bz36 : z36 ≤ 1) fz36 => ?_)
            have rz36 : -2147483648 ≤ z36 ∧ z36 ≤ 2147483647 := ⟨by omega, by omega⟩
            refine jT.if0 rfl rz36 (fun c126 => ?_) (fun c126 => ?_)
            · have c126 := jne1 c126
              refine jT.iinc rfl rfl (fun z37 rz37 ez37 => ?_)
              clear ez37
              refine mj_T.eq (loc2 := [some (.ref 1), some (.int (jn z37)), some (.int (jn x13)), w3]) ?_ rfl rfl rfl rfl
              refine jT.iinc rfl rfl (fun z38 rz38 ez38 => ?_)
              replace ez38 := ez38 ⟨by omega, by omega⟩
              refine mj_T.eq (loc2 := [some (.ref 1), some (.int (jn z37)), some (.int (jn z38)), w3]) ?_ rfl rfl rfl rfl
              refine mj_T.pl rfl rfl rfl rfl ?_
              exact ih17 ((2147483647 - z38 : Int).toNat) (by omega) z37 z38 h31 rz37 rz38 oh31 (by omega) rfl
            · have c126 := jne2 c126
              refine mj_T.pl rfl rfl rfl rfl ?_
              refine jT.getR 19 114 14 cTY oh31.1 rfl cK4.1 (by decide) rfl rfl rfl (fun k39 => ?_)
              refine rc_p rfl rfl (Nat.le_of_ble_eq_true rfl) (Nat.le_of_ble_eq_true rfl) (jrv_of oh31.1 k39 (by decide) rfl (by decide) rfl _) rfl (mj_Ok.up (by decide) (jc_47 (D := 0) cTY hg oh31.1 k39)) (fun v40 qv40 => ?_)
              obtain ⟨a41, ka41, rfl⟩ := qv40
              refine mj_T.eq (pc2 := 136) (st2 := [.ref a41]) ?_ rfl rfl rfl rfl
              refine mj_T.pl rfl rfl rfl rfl ?_
              refine jT.getR 19 110 10 cTY oh31.1 rfl cK4.1 (by decide) rfl rfl rfl (fun k42 => ?_)
              refine jT.getR 10 106 6 cTY oh31.1 rfl k42 (by decide) rfl rfl rfl (fun k43 => ?_)
              refine mj_T.pl rfl rfl rfl rfl ?_
              refine jT.aald 6 2 cTY oh31.1 rfl k43 (by decide) (by decide) rfl rx13 ⟨by omega, by omega⟩ (fun k44 => ?_)
              refine rc_p rfl rfl (Nat.le_of_ble_eq_true rfl) (Nat.le_of_ble_eq_true rfl) rfl rfl (mj_Ok.up (by decide) (jc_166 (D := 0) cTY hg oh31.1 ka41 k44)) (fun v45 qv45 => ?_)
              obtain ⟨z46, az46, bz46, rfl⟩ := qv45
              have rz46 : -2147483648 ≤ z46 ∧ z46 ≤ 2147483647 := ⟨by omega, by omega⟩
              refine mj_T.eq (pc2 := 148) (st2 := [.int (jn z46)]) ?_ rfl rfl rfl rfl
              refine jT.if0 rfl rz46 (fun c148 => ?_) (fun c148 => ?_)
              · have c148 := jne1 c148
                refine jT.iinc rfl rfl (fun z47 rz47 ez47 => ?_)
                replace ez47 := ez47 ⟨by omega, by omega⟩
                refine mj_T.eq (loc2 := [some (.ref 1), some (.int (jn x12)), some (.int (jn z47)), w3]) ?_ rfl rfl rfl rfl
                refine mj_T.pl rfl rfl rfl rfl ?_
                exact ih17 ((2147483647 - z47 : Int).toNat) (by omega) x12 z47 h31 rx12 rz47 oh31 (by omega) rfl
              · have c148 := jne2 c148
                refine jT.iinc rfl rfl (fun z48 rz48 ez48 => ?_)
                clear ez48
                refine mj_T.eq (loc2 := [some (.ref 1), some (.int (jn z48)), some (.int (jn x13)), w3]) ?_ rfl rfl rfl rfl
                refine jT.iinc rfl rfl (fun z49 rz49 ez49 => ?_)
                replace ez49 := ez49 ⟨by omega, by omega⟩
                refine mj_T.eq (loc2 := [some (.ref 1), some (.int (jn z48)), some (.int (jn z49)), w3]) ?_ rfl rfl rfl rfl
                refine mj_T.pl rfl rfl rfl rfl ?_
                exact ih17 ((2147483647 - z49 : Int).toNat) (by omega) z48 z49 h31 rz48 rz49 oh31 (by omega) rfl
      exact t77_15 _ x1 0 h4 rx1 ⟨by decide, by decide⟩ oh4 (by omega) rfl
    · have c13 := of_decide_eq_false c13
      iterate 2 refine mj_T.pl rfl rfl rfl rfl ?_
      refine jT.iadd rfl (fun z50 rz50 ez50 => ?_)
      replace ez50 := ez50 ⟨by omega, by omega⟩
      refine mj_T.pl (loc' := [some (.ref 1), some (.int (jn x1)), some (.int (jn x2)), some (.int (jn z50))]) rfl rfl rfl rfl ?_
      have t20_54 : ∀ (k55 : Nat) (x51 : Int) (x52 : Int) (h53 : mj_H), (-2147483648 ≤ x51 ∧ x51 ≤ 2147483647) → (-2147483648 ≤ x52 ∧ x52 ≤ 2147483647) → (jO cK cL cR g n tm h53 ∧ jcx er tm T h53) → (z50 ≤ x52) → (2147483647 - x52 : Int).toNat = k55 → mj_T 59 mj_m148 20 [some (.ref 1), some (.int (jn x51)), some (.int (jn x2)), some (.int (jn x52))] [] h53 (fun r => jcx er tm T r.2) := by
        refine jInd (fun k55 ih56 => ?_)
        intro x51 x52 h53 rx51 rx52 oh53 ix52 hm57
        refine mj_T.pl rfl rfl rfl rfl ?_
        refine mj_T.pl rfl rfl rfl rfl ?_
        refine jT.getR 19 110 10 cTY oh53.1 rfl cK4.1 (by decide) rfl rfl rfl (fun k58 => ?_)
        refine jT.getR 10 106 6 cTY oh53.1 rfl k58 (by decide) rfl rfl rfl (fun k59 => ?_)
        refine jT.alen 6 cTY oh53.1 rfl k59 (by decide) (by decide) (fun z60 ez60 (az60 : 6 ≤ z60) (bz60 : z60 ≤ 9) => ?_)
        have rz60 : -2147483648 ≤ z60 ∧ z60 ≤ 2147483647 := ⟨by omega, by omega⟩
        refine jT.icmp rfl rx52 rz60 (fun c29 => ?_) (fun c29 => ?_)
        · have c29 := of_decide_eq_true c29
          refine jT.iinc rfl rfl (fun z61 rz61 ez61 => ?_)
          replace ez61 := ez61 ⟨by omega, by omega⟩
          refine mj_T.eq (loc2 := [some (.ref 1), some (.int (jn x51)), some (.int (jn z61)), some (.int (jn x52))]) ?_ rfl rfl rfl rfl
          refine mj_T.pl rfl rfl rfl rfl ?_
          exact ih7 ((2147483647 - z61 : Int).toNat) (by omega) x51 z61 (some (.int (jn x52))) h53 rx51 rz61 oh53 (by omega) rfl
        · have c29 := of_decide_eq_false c29
          refine mj_T.pl rfl rfl rfl rfl ?_
          refine jT.getR 19 111 11 cTY oh53.1 rfl cK4.1 (by decide) rfl rfl rfl (fun k62 => ?_)
          refine mj_T.pl rfl rfl rfl rfl ?_
          refine jT.getR 19 110 10 cTY oh53.1 rfl cK4.1 (by decide) rfl rfl rfl (fun k63 => ?_)
          refine jT.getR 10 106 6 cTY oh53.1 rfl k63 (by decide) rfl rfl rfl (fun k64 => ?_)
          refine mj_T.pl rfl rfl rfl rfl ?_
          refine jT.aald 6 2 cTY oh53.1 rfl k64 (by decide) (by decide) rfl rx2 ⟨by omega, by omega⟩ (fun k65 => ?_)
          refine mj_T.pl rfl rfl rfl rfl ?_
          refine jT.getR 19 110 10 cTY oh53.1 rfl cK4.1 (by decide) rfl rfl rfl (fun k66 => ?_)
          refine jT.getR 10 106 6 cTY oh53.1 rfl k66 (by decide) rfl rfl rfl (fun k67 => ?_)
          refine mj_T.pl rfl rfl rfl rfl ?_
          refine jT.aald 6 2 cTY oh53.1 rfl k67 (by decide) (by decide) rfl rx52 ⟨by omega, by omega⟩ (fun k68 => ?_)
          refine mj_T.call rfl rfl (Nat.le_of_ble_eq_true rfl) (Nat.le_of_ble_eq_true rfl) (jrv_of oh53.1 k62 (by decide) rfl (by decide) rfl _) rfl (mj_Ok.up (by decide) ((jc_15 (D := 0) cTY hg oh53.1 k62 k65 k68).qt rfl)) (fun v69 h70 hq => ?_) (fun i' hi' hq => absurd hq.1.1 List.not_mem_nil)
          obtain ⟨⟨qv69, ox⟩, xx⟩ := hq
          have oh70 : jO cK cL cR g n tm h70 ∧ jcx er tm T h70 := ⟨ox, oh53.2.qt xx⟩
          obtain ⟨z71, az71, bz71, rfl⟩ := qv69
          have rz71 : -2147483648 ≤ z71 ∧ z71 ≤ 2147483647 := ⟨by omega, by omega⟩
          refine mj_T.eq (pc2 := 57) (st2 := [.int (jn z71)]) ?_ rfl rfl rfl rfl
          refine jT.if0 rfl rz71 (fun c57 => ?_) (fun c57 => ?_)
          · have c57 := jne1 c57
            refine jT.iinc rfl rfl (fun z72 rz72 ez72 => ?_)
            replace ez72 := ez72 ⟨by omega, by omega⟩
            refine mj_T.eq (loc2 := [some (.ref 1), some (.int (jn x51)), some (.int (jn x2)), some (.int (jn z72))]) ?_ rfl rfl rfl rfl
            refine mj_T.pl rfl rfl rfl rfl ?_
            exact ih56 ((2147483647 - z72 : Int).toNat) (by omega) x51 z72 h70 rx51 rz72 oh70 (by omega) rfl
          · have c57 := jne2 c57
            refine jT.iinc rfl rfl (fun z73 rz73 ez73 => ?_)
            clear ez73
            refine mj_T.eq (loc2 := [some (.ref 1), some (.int (jn z73)), some (.int (jn x2)), some (.int (jn x52))]) ?_ rfl rfl rfl rfl
            refine jT.iinc rfl rfl (fun z74 rz74 ez74 => ?_)
            replace ez74 := ez74 ⟨by omega, by omega⟩
            refine mj_T.eq (loc2 := [some (.ref 1), some (.int (jn z73)), some (.int (jn x2)), some (.int (jn z74))]) ?_ rfl rfl rfl rfl
            refine mj_T.pl rfl rfl rfl rfl ?_
            exact ih56 ((2147483647 - z74 : Int).toNat) (by omega) z73 z74 h70 rz73 rz74 oh70 (by omega) rfl
      exact t20_54 _ x1 z50 h4 rx1 rz50 oh4 (by omega) rfl
  exact t4_5 _ 0 0 none h ⟨by decide, by decide⟩ ⟨by decide, by decide⟩ ob (by omega) rfl
/-! The law's small methods around append, read, write: the bytes and the place of the error. -/
section JWR
variable {D n : Nat} {tm er : Int} {T : Nat → Int} {h : mj_H}
theorem jv_345 {p1 : Int} (w : jLw cK cL cR 571 n tm h) (rp1 : -2147483648 ≤ p1 ∧ p1 ≤ 2147483647) (x : jcx er tm T h) : mj_Ok (D + 6) 345 [.ref 1, .int (jn p1), .ref 571] h (fun r => jcx er tm T r.2) := by
  have hg : h.length ≤ n := Nat.le_of_eq w.1.1
  refine mj_Ok.of (M := mj_m345) (loc := [some (.ref 1), some (.int (jn p1)), some (.ref 571), none]) rfl rfl rfl ?_
  iterate 4 refine mj_T.pl rfl rfl rfl rfl ?_
  refine mj_T.call rfl rfl (Nat.le_of_ble_eq_true rfl) (Nat.le_of_ble_eq_true rfl) (jrv_of w.1 cK4.1 (by decide) rfl (by decide) rfl _) rfl ((jc_144 (D := D) cTY hg w.1 cK4.1 rp1).and (rq_write (D := D) rp1 w.1 hg x)) (fun v h1 hq => ?_) (fun i h1 hq => ?_)
  · obtain ⟨⟨hv, o1⟩, x1⟩ := hq
    obtain ⟨z, _, _, rfl⟩ := hv
    obtain ⟨_, _, f, hf⟩ := w.thr o1
    refine mj_T.step rfl rfl rfl ?_
    refine jcx.last hf rfl (fun e => ?_)
    iterate 2 refine mj_T.pl rfl rfl rfl rfl ?_
    exact mj_T.ret rfl rfl rfl (x1.setq (by decide) (by decide))
  · obtain ⟨⟨hi, o1⟩, x1⟩ := hq
    simp only [List.mem_cons, List.not_mem_nil, or_false] at hi
    subst hi
    refine Or.inr ⟨3, 13, rfl, (Nat.le_of_ble_eq_true rfl), ?_⟩
    refine mj_T.pl rfl rfl rfl rfl ?_
    exact mj_T.ret rfl rfl rfl x1
theorem jv_322 {p1 : Int} {tm0 : Nat} (w : jLw cK cL cR 571 n (tm0 : Int) h) (rp1 : -2147483648 ≤ p1 ∧ p1 ≤ 2147483647) (x : jcx er (tm0 : Int) T h) (hT : ∀ j : Nat, j < tm0 → 1 ≤ T j ∧ T j ≤ 255) : mj_Ok 61 322 [.ref 1, .int (jn p1), .ref 571] h (fun r => (¬ (0 ≤ p1 ∧ p1 ≤ 5) ∧ jcx er (tm0 : Int) T r.2) ∨ ((0 ≤ p1 ∧ p1 ≤ 5) ∧ jcx (rdErr T tm0) 0 T r.2)) := by
  have hg : h.length ≤ n := Nat.le_of_eq w.1.1
  refine mj_Ok.of (M := mj_m322) (loc := [some (.ref 1), some (.int (jn p1)), some (.ref 571), none]) rfl rfl rfl ?_
  iterate 4 refine mj_T.pl rfl rfl rfl rfl ?_
  refine mj_T.call rfl rfl (Nat.le_of_ble_eq_true rfl) (Nat.le_of_ble_eq_true rfl) (jrv_of w.1 cK4.1 (by decide) rfl (by decide) rfl _) rfl ((mj_Ok.up (by decide) (jc_114 (D := 0) cTY hg w.1 cK4.1 rp1)).and (rq_read rp1 w.1 hg x hT)) (fun v h1 hq => ?_) (fun i h1 hq => ?_)
  · obtain ⟨hq, x1⟩ := hq
    rcases hq with ⟨_, hv, _⟩ | ⟨hp, ⟨z, hv, o1⟩ | ⟨_, _, hv, _⟩⟩
    · cases hv
    · cases hv
      obtain ⟨_, _, f, hf⟩ := w.thr o1
      refine mj_T.step rfl rfl rfl ?_
      refine jcx.last hf rfl (fun e => ?_)
      iterate 2 refine mj_T.pl rfl rfl rfl rfl ?_
      refine mj_T.ret rfl rfl rfl ?_
      rcases x1 with ⟨a, b⟩ | ⟨a, b⟩
      · exact absurd hp a
      · exact Or.inr ⟨a, b.setq (by decide) (by decide)⟩
    · cases hv
  · obtain ⟨hq, x1⟩ := hq
    have hi : i ∈ [0, 2, 1] := by
      rcases hq with ⟨_, hv, _⟩ | ⟨_, ⟨_, hv, _⟩ | ⟨_, hi, hv, _⟩⟩
      · cases hv
        exact List.mem_cons_self
      · cases hv
      · cases hv
        exact hi
    simp only [List.mem_cons, List.not_mem_nil, or_false] at hi
    rcases hi with hi | hi | hi
    · subst hi
      refine Or.inr ⟨3, 13, rfl, (Nat.le_of_ble_eq_true rfl), ?_⟩
      refine mj_T.pl rfl rfl rfl rfl ?_
      exact mj_T.ret rfl rfl rfl x1
    · subst hi
      refine Or.inr ⟨3, 16, rfl, (Nat.le_of_ble_eq_true rfl), ?_⟩
      refine mj_T.pl rfl rfl rfl rfl ?_
      exact mj_T.ret rfl rfl rfl x1
    · subst hi
      refine Or.inr ⟨3, 19, rfl, (Nat.le_of_ble_eq_true rfl), ?_⟩
      refine mj_T.pl rfl rfl rfl rfl ?_
      exact mj_T.ret rfl rfl rfl x1
theorem jv_344 {x1 x2 x3 x4 x5 : Int32} {tm0 : Nat} (w : jLw cK cL cR 571 n (tm0 : Int) h) (x : jcx er (tm0 : Int) T h) : mj_Ok (D + 4) 344 [.ref 1, .int x1, .int x2, .int x3, .int x4, .int x5, .ref 571] h (fun r => (200 < tm0 + jcn x1 x2 x3 x4 x5 20 ∧ jcx er (tm0 : Int) T r.2) ∨ (tm0 + jcn x1 x2 x3 x4 x5 20 ≤ 200 ∧ jcx er ((tm0 + jcn x1 x2 x3 x4 x5 20 : Nat) : Int) (apT x1 x2 x3 x4 x5 tm0 T 20) r.2)) := by
  have hg : h.length ≤ n := Nat.le_of_eq w.1.1
  have ht := w.1.2.1
  obtain ⟨mf, m1, m2, m4, _⟩ := w.1.main
  refine mj_Ok.of (M := mj_m344) (loc := [some (.ref 1), some (.int x1), some (.int x2), some (.int x3), some (.int x4), some (.int x5), some (.ref 571), none]) rfl rfl rfl ?_
  iterate 8 refine mj_T.pl rfl rfl rfl rfl ?_
  refine mj_T.call rfl rfl (Nat.le_of_ble_eq_true rfl) (Nat.le_of_ble_eq_true rfl) (jrv_of w.1 cK4.1 (by decide) rfl (by decide) rfl _) rfl ((jc_141 (D := D) cTY hg w.1 cK4.1).and (rq_append (D := D) m1 m4 (x.jBuf w.1) (by omega))) (fun v h1 hq => ?_) (fun i h1 hq => ?_)
  · obtain ⟨hq, y⟩ := hq
    rcases hq with ⟨_, hv, _⟩ | ⟨ha, hv, o1⟩
    · cases hv
    cases hv
    obtain ⟨_, _, f, hf⟩ := w.thr o1
    refine mj_T.eq (pc2 := 14) (st2 := [.int (jn ((tm0 : Int) + (jcn x1 x2 x3 x4 x5 20 : Int))), .int (jn 0), .ref 571]) ?_ rfl rfl rfl rfl
    refine mj_T.i2l rfl ⟨by omega, by omega⟩ ?_
    refine jcx.last hf rfl (fun e => ?_)
    iterate 2 refine mj_T.pl rfl rfl rfl rfl ?_
    refine mj_T.ret rfl rfl rfl ?_
    rcases y with ⟨a, _⟩ | ⟨a, b, c⟩
    · omega
    · obtain ⟨⟨fs, z1, z2⟩, _⟩ := x
      refine Or.inr ⟨a, jcx.setq ⟨⟨fs, by rw [c.2 1 (by decide) (by decide)]; exact z1, z2⟩, ?_⟩ (by decide) (by decide)⟩
      obtain ⟨_, f2, y1, y2⟩ := b
      exact ⟨f2, y1, fun j hj => y2 j (by omega)⟩
  · obtain ⟨hq, y⟩ := hq
    rcases hq with ⟨ha, hv, o1⟩ | ⟨_, hv, _⟩
    · cases hv
      refine Or.inr ⟨7, 21, rfl, (Nat.le_of_ble_eq_true rfl), ?_⟩
      refine mj_T.pl rfl rfl rfl rfl ?_
      refine mj_T.ret rfl rfl rfl ?_
      rcases y with ⟨a, b⟩ | ⟨a, _, _⟩
      · exact Or.inl ⟨a, x.qt b⟩
      · omega
    · cases hv
/-- errorPosition -/
theorem rq_errpos (x : jcx er tm T h) : mj_Ok (D + 1) 143 [.ref 1] h (fun r => r.1 = .inl (some (.int (jn er)))) := by
  obtain ⟨⟨fs, z1, z2⟩, _⟩ := x
  refine mj_Ok.of (M := mj_m143) (loc := [some (.ref 1)]) rfl rfl rfl ?_
  refine mj_T.pl rfl rfl rfl rfl ?_
  refine mj_T.gfl rfl z1 z2 ?_
  exact mj_T.ret rfl rfl rfl rfl
end JWR
theorem jZ_pl : jPl cK 571 563 := ⟨fun i hi => ⟨cK_out (by omega), by omega⟩, ck0.1, by decide, by decide⟩
