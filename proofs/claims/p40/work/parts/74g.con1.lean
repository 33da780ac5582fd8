/-! The class's constructors. -/
abbrev okW (K L : Nat → Nat) (R : Nat → Nat → Nat) (a n x : Nat) : Prop := K a = 18 ∧ K n = 1 ∧ R a 0 = n ∧ L n = x ∧ 1 ≤ x ∧ x ≤ 1000
abbrev okD (K L : Nat → Nat) (R : Nat → Nat → Nat) (a n x : Nat) : Prop := K a = 12 ∧ K n = 1 ∧ R a 0 = n ∧ L n = x ∧ 1 ≤ x ∧ x ≤ 1000
abbrev okT (K L : Nat → Nat) (R : Nat → Nat → Nat) (a n x : Nat) : Prop := (K a = 17 ∨ K a = 27) ∧ K n = 3 ∧ R a 0 = n ∧ L n = x ∧ 1 ≤ x ∧ x ≤ 1000
abbrev okRw (K L : Nat → Nat) (R : Nat → Nat → Nat) (n N : Nat) : Prop := K n = 6 ∧ L n = N ∧ ∀ i, i < N → R n i = n + 1 + i ∧ K (n + 1 + i) = 2 ∧ L (n + 1 + i) = 13
abbrev okB (K L : Nat → Nat) (R : Nat → Nat → Nat) (a n : Nat) : Prop := K a = 10 ∧ R a 0 = n ∧ R a 1 = n + 7 ∧ R a 2 = n + 8 ∧ okRw K L R n 6 ∧ K (n + 7) = 1 ∧ L (n + 7) = 6 ∧ K (n + 8) = 1 ∧ L (n + 8) = 6
abbrev okP (K L : Nat → Nat) (R : Nat → Nat → Nat) (a n k s t : Nat) : Prop := K a = 13 ∧ R a 0 = n + 2 ∧ R a 1 = n ∧ okW K L R n (n + 1) 1 ∧ K (n + 2) = 4 ∧ L (n + 2) = k ∧ 1 ≤ k ∧ k ≤ 25 ∧ s ≤ 1000 ∧ t ≤ 1000 ∧ ∀ i, i < k → R (n + 2) i = n + 3 + 2 * i ∧ 1 ≤ (s : Int) - (t : Int) * (i : Int) ∧ okW K L R (n + 3 + 2 * i) (n + 3 + 2 * i + 1) ((s : Int) - (t : Int) * (i : Int)).toNat
abbrev okK (K L : Nat → Nat) (R : Nat → Nat → Nat) (a n : Nat) : Prop := K a = 11 ∧ (R a 0 = n ∧ R a 1 = n + 30 ∧ R a 2 = n + 60 ∧ R a 3 = n + 90 ∧ R a 4 = n + 144 ∧ R a 5 = n + 146 ∧ R a 6 = n + 148 ∧ R a 7 = n + 150) ∧ okP K L R n (n + 1) 13 30 0 ∧ okP K L R (n + 30) (n + 31) 13 30 0 ∧ okP K L R (n + 60) (n + 61) 13 236 0 ∧ okP K L R (n + 90) (n + 91) 25 6 0 ∧ okW K L R (n + 144) (n + 145) 240 ∧ okW K L R (n + 146) (n + 147) 240 ∧ okW K L R (n + 148) (n + 149) 40 ∧ okD K L R (n + 150) (n + 151) 60
theorem jk_85 {D n a : Nat} {h0 : mj_H} {K L : Nat → Nat} {R : Nat → Nat → Nat} {x : Nat} (ha : h0[a]? = some (.inr (8, [.null, .int 0, .int 0]))) (hn : h0.length = n) (o : okW K L R a n x) : mj_Ok (D + 1) 85 [.ref a, .int (jn (x : Int))] h0 (jDr K L R 0 h0 a (n + 1)) := by
  obtain ⟨o0, o1, o2, o3, o4, o5⟩ := o
  have s0 := jCS.beg (K := K) (L := L) (R := R) (tm := 0) ha hn
  refine mj_Ok.of (M := mj_m85) (loc := [some (.ref a), some (.int (jn (x : Int)))]) rfl rfl rfl ?_
  refine mj_T.pl rfl rfl rfl rfl ?_
  refine mj_T.prim rfl rfl rfl ?_
  iterate 2 refine mj_T.pl rfl rfl rfl rfl ?_
  refine jT.if0 rfl ⟨by omega, by omega⟩ (fun c => ?_) (fun c => ?_)
  · have c := of_decide_eq_true c
    omega
  · have c := of_decide_eq_false c
    iterate 2 refine mj_T.pl rfl rfl rfl rfl ?_
    refine jCS.arr (n := n) (x := (x : Int)) 1 s0 rfl (Or.inl rfl) rfl ⟨by omega, by omega⟩ o1 (by omega) (fun h11 s11 => ?_)
    refine jCS.put s11 rfl (Nat.le_of_ble_eq_true rfl) rfl (fun h12 s12 => ?_)
    refine mj_T.ret rfl rfl rfl ⟨rfl, s12.done (jCf.obj 18 (by decide) o0 rfl rfl (fun i cd hi => by
        match i, hi with
        | 0, hi => cases hi; exact ⟨_, rfl, jfv.ref (by decide) o2⟩
        | 1, hi => cases hi; exact ⟨_, rfl, jfv_mk (x := 0) rfl (by decide) (by decide)⟩
        | 2, hi => cases hi; exact ⟨_, rfl, jfv_mk (x := 0) rfl (by decide) (by decide)⟩
        | i + 3, hi => exact absurd hi (by simp [jfs])))⟩
theorem jk_29 {D n a : Nat} {h0 : mj_H} {K L : Nat → Nat} {R : Nat → Nat → Nat} {x : Nat} (ha : h0[a]? = some (.inr (2, [.null, .int 0, .int 0, .long 0]))) (hn : h0.length = n) (o : okD K L R a n x) : mj_Ok (D + 1) 29 [.ref a, .int (jn (x : Int))] h0 (jDr K L R 0 h0 a (n + 1)) := by
  obtain ⟨o0, o1, o2, o3, o4, o5⟩ := o
  have s0 := jCS.beg (K := K) (L := L) (R := R) (tm := 0) ha hn
  refine mj_Ok.of (M := mj_m29) (loc := [some (.ref a), some (.int (jn (x : Int)))]) rfl rfl rfl ?_
  refine mj_T.pl rfl rfl rfl rfl ?_
  refine mj_T.prim rfl rfl rfl ?_
  iterate 2 refine mj_T.pl rfl rfl rfl rfl ?_
  refine jCS.put s0 rfl (Nat.le_of_ble_eq_true rfl) rfl (fun h11 s11 => ?_)
  iterate 2 refine mj_T.pl rfl rfl rfl rfl ?_
  refine jT.if0 rfl ⟨by omega, by omega⟩ (fun c => ?_) (fun c => ?_)
  · have c := of_decide_eq_true c
    omega
  · have c := of_decide_eq_false c
    iterate 2 refine mj_T.pl rfl rfl rfl rfl ?_
    refine jCS.arr (n := n) (x := (x : Int)) 1 s11 rfl (Or.inl rfl) rfl ⟨by omega, by omega⟩ o1 (by omega) (fun h12 s12 => ?_)
    refine jCS.put s12 rfl (Nat.le_of_ble_eq_true rfl) rfl (fun h13 s13 => ?_)
    refine mj_T.ret rfl rfl rfl ⟨rfl, s13.done (jCf.obj 12 (by decide) o0 rfl rfl (fun i cd hi => by
        match i, hi with
        | 0, hi => cases hi; exact ⟨_, rfl, jfv.ref (by decide) o2⟩
        | 1, hi => cases hi; exact ⟨_, rfl, jfv_mk (x := 0) rfl (by decide) (by decide)⟩
        | 2, hi => cases hi; exact ⟨_, rfl, jfv_mk (x := 0) rfl (by decide) (by decide)⟩
        | 3, hi => cases hi; exact ⟨_, rfl, jfv.long (x := 1) ⟨by decide, by decide⟩⟩
        | i + 4, hi => exact absurd hi (by simp [jfs])))⟩
theorem jk_78 {D n a : Nat} {h0 : mj_H} {K L : Nat → Nat} {R : Nat → Nat → Nat} {x : Nat} (ha : h0[a]? = some (.inr (7, [.null, .int 0]))) (hn : h0.length = n) (o : okT K L R a n x) : mj_Ok (D + 1) 78 [.ref a, .int (jn (x : Int))] h0 (jDr K L R 0 h0 a (n + 1)) := by
  obtain ⟨o0, o1, o2, o3, o4, o5⟩ := o
  have s0 := jCS.beg (K := K) (L := L) (R := R) (tm := 0) ha hn
  refine mj_Ok.of (M := mj_m78) (loc := [some (.ref a), some (.int (jn (x : Int)))]) rfl rfl rfl ?_
  refine mj_T.pl rfl rfl rfl rfl ?_
  refine mj_T.prim rfl rfl rfl ?_
  iterate 2 refine mj_T.pl rfl rfl rfl rfl ?_
  refine jT.if0 rfl ⟨by omega, by omega⟩ (fun c => ?_) (fun c => ?_)
  · have c := of_decide_eq_true c
    omega
  · have c := of_decide_eq_false c
    iterate 2 refine mj_T.pl rfl rfl rfl rfl ?_
    refine jCS.arr (n := n) (x := (x : Int)) 3 s0 rfl (Or.inr (Or.inr rfl)) rfl ⟨by omega, by omega⟩ o1 (by omega) (fun h11 s11 => ?_)
    refine jCS.put s11 rfl (Nat.le_of_ble_eq_true rfl) rfl (fun h12 s12 => ?_)
    refine mj_T.ret rfl rfl rfl ⟨rfl, s12.done ?_⟩
    rcases o0 with o0 | o0
    · exact jCf.obj 17 (by decide) o0 rfl rfl (fun i cd hi => by
        match i, hi with
        | 0, hi => cases hi; exact ⟨_, rfl, jfv.ref (by decide) o2⟩
        | 1, hi => cases hi; exact ⟨_, rfl, jfv_mk (x := 0) rfl (by decide) (by decide)⟩
        | i + 2, hi => exact absurd hi (by simp [jfs]))
    · exact jCf.obj 27 (by decide) o0 rfl rfl (fun i cd hi => by
        match i, hi with
        | 0, hi => cases hi; exact ⟨_, rfl, jfv.ref (by decide) o2⟩
        | 1, hi => cases hi; exact ⟨_, rfl, jfv_mk (x := 0) rfl (by decide) (by decide)⟩
        | i + 2, hi => exact absurd hi (by simp [jfs]))
theorem jk_0 {D n a : Nat} {h0 : mj_H} {K L : Nat → Nat} {R : Nat → Nat → Nat} (ha : h0[a]? = some (.inr (0, [.null, .null, .null, .int 0]))) (hn : h0.length = n) (o : okB K L R a n) : mj_Ok (D + 1) 0 [.ref a] h0 (jDr K L R 0 h0 a (n + 9)) := by
  obtain ⟨o0, o1, o2, o3, ⟨o4, o5, o6⟩, o7, o8, o9, o10⟩ := o
  have s0 := jCS.beg (K := K) (L := L) (R := R) (tm := 0) ha hn
  refine mj_Ok.of (M := mj_m0) (loc := [some (.ref a)]) rfl rfl rfl ?_
  refine mj_T.pl rfl rfl rfl rfl ?_
  refine mj_T.prim rfl rfl rfl ?_
  iterate 3 refine mj_T.pl rfl rfl rfl rfl ?_
  refine jCS.rows (n := n) 6 s0 rfl (by decide) o4 o5 o6 (fun h11 s11 => ?_)
  refine jCS.put s11 rfl (Nat.le_of_ble_eq_true rfl) rfl (fun h12 s12 => ?_)
  iterate 2 refine mj_T.pl rfl rfl rfl rfl ?_
  refine jCS.arr (n := n + 7) (x := 6) 1 s12 rfl (Or.inl rfl) rfl ⟨by decide, by decide⟩ o7 (by rw [o8]; rfl) (fun h13 s13 => ?_)
  refine jCS.put s13 rfl (Nat.le_of_ble_eq_true rfl) rfl (fun h14 s14 => ?_)
  iterate 2 refine mj_T.pl rfl rfl rfl rfl ?_
  refine jCS.arr (n := n + 8) (x := 6) 1 s14 rfl (Or.inl rfl) rfl ⟨by decide, by decide⟩ o9 (by rw [o10]; rfl) (fun h15 s15 => ?_)
  refine jCS.put s15 rfl (Nat.le_of_ble_eq_true rfl) rfl (fun h16 s16 => ?_)
  exact mj_T.ret rfl rfl rfl ⟨rfl, s16.done (jCf.obj 10 (by decide) o0 rfl rfl (fun i cd hi => by
        match i, hi with
        | 0, hi => cases hi; exact ⟨_, rfl, jfv.ref (by decide) o1⟩
        | 1, hi => cases hi; exact ⟨_, rfl, jfv.ref (by decide) o2⟩
        | 2, hi => cases hi; exact ⟨_, rfl, jfv.ref (by decide) o3⟩
        | 3, hi => cases hi; exact ⟨_, rfl, jfv_mk (x := 0) rfl (by decide) (by decide)⟩
        | i + 4, hi => exact absurd hi (by simp [jfs])))⟩
theorem jk_35l {D n a : Nat} {h0 : mj_H} {K L : Nat → Nat} {R : Nat → Nat → Nat} {k s t : Nat} (hn : h0.length = n) (o : okP K L R a n k s t) : ∀ (d i : Nat) {f : Nat → Value} {h : mj_H}, i + d = k → (∀ j, j < i → f j = .ref (R (n + 2) j)) → jCS K L R 0 h0 a 3 [.ref (n + 2), .ref n, .int (jn (-1))] [(n + 2, .inl (5, k, f))] (n + 3 + 2 * i) h → mj_T (D + 1) mj_m35 40 [some (.ref a), some (.int (jn (k : Int))), some (.int (jn (s : Int))), some (.int (jn (t : Int))), some (.int (jn (i : Int)))] [] h (jDr K L R 0 h0 a (n + 3 + 2 * k)) := by
  obtain ⟨o0, o1, o2, o3, o4, o5, o6, o7, o8, o9, o10⟩ := o
  intro d
  induction d with
  | zero =>
    intro i f h hd hf s0
    have e : i = k := by omega
    subst e
    iterate 2 refine mj_T.pl rfl rfl rfl rfl ?_
    refine jCS.get s0 rfl rfl ?_
    refine jCS.alen s0 rfl ?_
    refine jT.icmp rfl ⟨by omega, by omega⟩ ⟨by omega, by omega⟩ (fun _ => ?_) (fun c => ?_)
    · exact mj_T.ret rfl rfl rfl ⟨rfl, (s0.full o4 ⟨by decide, by decide⟩ rfl o5 hf).done (jCf.obj 13 (by decide) o0 rfl rfl (fun i cd hi => by
            match i, hi with
            | 0, hi => cases hi; exact ⟨_, rfl, jfv.ref (by decide) o1⟩
            | 1, hi => cases hi; exact ⟨_, rfl, jfv.ref (by decide) o2⟩
            | 2, hi => cases hi; exact ⟨_, rfl, jfv_mk (x := -1) rfl (by decide) (by decide)⟩
            | i + 3, hi => exact absurd hi (by simp [jfs])))⟩
    · have c := of_decide_eq_false c
      omega
  | succ d ih =>
    intro i f h hd hf s0
    obtain ⟨p1, p2, p3⟩ := o10 i (by omega)
    iterate 2 refine mj_T.pl rfl rfl rfl rfl ?_
    refine jCS.get s0 rfl rfl ?_
    refine jCS.alen s0 rfl ?_
    refine jT.icmp rfl ⟨by omega, by omega⟩ ⟨by omega, by omega⟩ (fun c => ?_) (fun _ => ?_)
    · have c := of_decide_eq_true c
      omega
    refine mj_T.pl rfl rfl rfl rfl ?_
    refine jCS.get s0 rfl rfl ?_
    refine mj_T.pl rfl rfl rfl rfl ?_
    refine jCS.new (n := n + 3 + 2 * i) s0 rfl ?_
    iterate 4 refine mj_T.pl rfl rfl rfl rfl ?_
    refine mj_T.imul rfl ?_
    refine mj_T.isub rfl ?_
    refine mj_T.eq (st2 := [.int (jn ((((s : Int) - (t : Int) * (i : Int)).toNat : Nat) : Int)), .ref (n + 3 + 2 * i), .ref (n + 3 + 2 * i), .int (jn (i : Int)), .ref (n + 2)]) ?_ rfl rfl (by rw [Int.toNat_of_nonneg (by omega)]) rfl
    refine jCS.call (n := n + 3 + 2 * i) (N := n + 3 + 2 * i + 1 + 1) s0 rfl rfl (Nat.le_of_ble_eq_true rfl) (Nat.le_of_ble_eq_true rfl) rfl rfl (fun e1 e2 => jk_85 (D := D) e2 e1 p3) rfl (fun h1 s1 => ?_)
    refine jCS.aast (kv := 18) s1 rfl ⟨by omega, by omega, by omega⟩ p3.1 (by decide) rfl (by omega) (by omega) (fun h2 s2 => ?_)
    refine mj_T.iinc (a := (i : Int)) rfl rfl ?_
    refine mj_T.pl rfl rfl rfl rfl ?_
    refine ih (i + 1) (by omega) (fun j hj => ?_) s2
    unfold updV
    split
    · rename_i q
      subst q
      rw [p1]
    · exact hf j (by omega)
theorem jk_35 {D n a : Nat} {h0 : mj_H} {K L : Nat → Nat} {R : Nat → Nat → Nat} {k s t : Nat} (ha : h0[a]? = some (.inr (3, [.null, .null, .int 0]))) (hn : h0.length = n) (o : okP K L R a n k s t) : mj_Ok (D + 2) 35 [.ref a, .int (jn (k : Int)), .int (jn (s : Int)), .int (jn (t : Int))] h0 (jDr K L R 0 h0 a (n + 3 + 2 * k)) := by
  have ok := o
  obtain ⟨o0, o1, o2, o3, o4, o5, o6, o7, o8, o9, o10⟩ := o
  have s0 := jCS.beg (K := K) (L := L) (R := R) (tm := 0) ha hn
  refine mj_Ok.of (M := mj_m35) (loc := [some (.ref a), some (.int (jn (k : Int))), some (.int (jn (s : Int))), some (.int (jn (t : Int))), none]) rfl rfl rfl ?_
  refine mj_T.pl rfl rfl rfl rfl ?_
  refine mj_T.prim rfl rfl rfl ?_
  refine mj_T.pl rfl rfl rfl rfl ?_
  refine jCS.new (n := n) s0 rfl ?_
  iterate 2 refine mj_T.pl rfl rfl rfl rfl ?_
  refine jCS.call (n := n) (N := n + 2) s0 rfl rfl (Nat.le_of_ble_eq_true rfl) (Nat.le_of_ble_eq_true rfl) rfl rfl (fun e1 e2 => jk_85 (D := D) (x := 1) e2 e1 o3) rfl (fun h11 s11 => ?_)
  refine jCS.put s11 rfl (Nat.le_of_ble_eq_true rfl) rfl (fun h12 s12 => ?_)
  iterate 2 refine mj_T.pl rfl rfl rfl rfl ?_
  refine jCS.put s12 rfl (Nat.le_of_ble_eq_true rfl) rfl (fun h13 s13 => ?_)
  iterate 2 refine mj_T.pl rfl rfl rfl rfl ?_
  refine jT.if0 rfl ⟨by omega, by omega⟩ (fun c => ?_) (fun c => ?_)
  · have c := of_decide_eq_true c
    omega
  · have c := of_decide_eq_false c
    iterate 2 refine mj_T.pl rfl rfl rfl rfl ?_
    refine jCS.arrO (n := n + 2) k s13 rfl (by omega) (fun h14 s14 => ?_)
    refine jCS.put s14 rfl (Nat.le_of_ble_eq_true rfl) rfl (fun h15 s15 => ?_)
    iterate 2 refine mj_T.pl rfl rfl rfl rfl ?_
    exact jk_35l hn ok k 0 (by omega) (fun j hj => absurd hj (by omega)) s15
theorem jk_10 {D n a : Nat} {h0 : mj_H} {K L : Nat → Nat} {R : Nat → Nat → Nat} (ha : h0[a]? = some (.inr (1, [.null, .null, .null, .null, .null, .null, .null, .null]))) (hn : h0.length = n) (o : okK K L R a n) : mj_Ok (D + 3) 10 [.ref a] h0 (jDr K L R 0 h0 a (n + 152)) := by
  obtain ⟨o0, ⟨q0, q1, q2, q3, q4, q5, q6, q7⟩, p0, p1, p2, p3, w4, w5, w6, w7⟩ := o
  have s0 := jCS.beg (K := K) (L := L) (R := R) (tm := 0) ha hn
  refine mj_Ok.of (M := mj_m10) (loc := [some (.ref a)]) rfl rfl rfl ?_
  refine mj_T.pl rfl rfl rfl rfl ?_
  refine mj_T.prim rfl rfl rfl ?_
  refine mj_T.pl rfl rfl rfl rfl ?_
  refine jCS.new (n := n) s0 rfl ?_
  iterate 4 refine mj_T.pl rfl rfl rfl rfl ?_
  refine jCS.call (n := n) (N := n + 30) s0 rfl rfl (Nat.le_of_ble_eq_true rfl) (Nat.le_of_ble_eq_true rfl) rfl rfl (fun e1 e2 => jk_35 (D := D) (k := 13) (s := 30) (t := 0) e2 e1 p0) rfl (fun h11 s11 => ?_)
  refine jCS.put s11 rfl (Nat.le_of_ble_eq_true rfl) rfl (fun h12 s12 => ?_)
  refine mj_T.pl rfl rfl rfl rfl ?_
  refine jCS.new (n := n + 30) s12 rfl ?_
  iterate 4 refine mj_T.pl rfl rfl rfl rfl ?_
  refine jCS.call (n := n + 30) (N := n + 60) s12 rfl rfl (Nat.le_of_ble_eq_true rfl) (Nat.le_of_ble_eq_true rfl) rfl rfl (fun e1 e2 => jk_35 (D := D) (k := 13) (s := 30) (t := 0) e2 e1 p1) rfl (fun h13 s13 => ?_)
  refine jCS.put s13 rfl (Nat.le_of_ble_eq_true rfl) rfl (fun h14 s14 => ?_)
  refine mj_T.pl rfl rfl rfl rfl ?_
  refine jCS.new (n := n + 60) s14 rfl ?_
  iterate 4 refine mj_T.pl rfl rfl rfl rfl ?_
  refine jCS.call (n := n + 60) (N := n + 90) s14 rfl rfl (Nat.le_of_ble_eq_true rfl) (Nat.le_of_ble_eq_true rfl) rfl rfl (fun e1 e2 => jk_35 (D := D) (k := 13) (s := 236) (t := 0) e2 e1 p2) rfl (fun h15 s15 => ?_)
  refine jCS.put s15 rfl (Nat.le_of_ble_eq_true rfl) rfl (fun h16 s16 => ?_)
  refine mj_T.pl rfl rfl rfl rfl ?_
  refine jCS.new (n := n + 90) s16 rfl ?_
  iterate 4 refine mj_T.pl rfl rfl rfl rfl ?_
  refine jCS.call (n := n + 90) (N := n + 144) s16 rfl rfl (Nat.le_of_ble_eq_true rfl) (Nat.le_of_ble_eq_true rfl) rfl rfl (fun e1 e2 => jk_35 (D := D) (k := 25) (s := 6) (t := 0) e2 e1 p3) rfl (fun h17 s17 => ?_)
  refine jCS.put s17 rfl (Nat.le_of_ble_eq_true rfl) rfl (fun h18 s18 => ?_)
  refine mj_T.pl rfl rfl rfl rfl ?_
  refine jCS.new (n := n + 144) s18 rfl ?_
  iterate 2 refine mj_T.pl rfl rfl rfl rfl ?_
  refine jCS.call (n := n + 144) (N := n + 146) s18 rfl rfl (Nat.le_of_ble_eq_true rfl) (Nat.le_of_ble_eq_true rfl) rfl rfl (fun e1 e2 => jk_85 (D := D + 1) (x := 240) e2 e1 w4) rfl (fun h19 s19 => ?_)
  refine jCS.put s19 rfl (Nat.le_of_ble_eq_true rfl) rfl (fun h20 s20 => ?_)
  refine mj_T.pl rfl rfl rfl rfl ?_
  refine jCS.new (n := n + 146) s20 rfl ?_
  iterate 2 refine mj_T.pl rfl rfl rfl rfl ?_
  refine jCS.call (n := n + 146) (N := n + 148) s20 rfl rfl (Nat.le_of_ble_eq_true rfl) (Nat.le_of_ble_eq_true rfl) rfl rfl (fun e1 e2 => jk_85 (D := D + 1) (x := 240) e2 e1 w5) rfl (fun h21 s21 => ?_)
  refine jCS.put s21 rfl (Nat.le_of_ble_eq_true rfl) rfl (fun h22 s22 => ?_)
  refine mj_T.pl rfl rfl rfl rfl ?_
  refine jCS.new (n := n + 148) s22 rfl ?_
  iterate 2 refine mj_T.pl rfl rfl rfl rfl ?_
  refine jCS.call (n := n + 148) (N := n + 150) s22 rfl rfl (Nat.le_of_ble_eq_true rfl) (Nat.le_of_ble_eq_true rfl) rfl rfl (fun e1 e2 => jk_85 (D := D + 1) (x := 40) e2 e1 w6) rfl (fun h23 s23 => ?_)
  refine jCS.put s23 rfl (Nat.le_of_ble_eq_true rfl) rfl (fun h24 s24 => ?_)
  refine mj_T.pl rfl rfl rfl rfl ?_
  refine jCS.new (n := n + 150) s24 rfl ?_
  iterate 2 refine mj_T.pl rfl rfl rfl rfl ?_
  refine jCS.call (n := n + 150) (N := n + 152) s24 rfl rfl (Nat.le_of_ble_eq_true rfl) (Nat.le_of_ble_eq_true rfl) rfl rfl (fun e1 e2 => jk_29 (D := D + 1) (x := 60) e2 e1 w7) rfl (fun h25 s25 => ?_)
  refine jCS.put s25 rfl (Nat.le_of_ble_eq_true rfl) rfl (fun h26 s26 => ?_)
  exact mj_T.ret rfl rfl rfl ⟨rfl, s26.done (jCf.obj 11 (by decide) o0 rfl rfl (fun i cd hi => by
        match i, hi with
        | 0, hi => cases hi; exact ⟨_, rfl, jfv.ref (by decide) q0⟩
        | 1, hi => cases hi; exact ⟨_, rfl, jfv.ref (by decide) q1⟩
        | 2, hi => cases hi; exact ⟨_, rfl, jfv.ref (by decide) q2⟩
        | 3, hi => cases hi; exact ⟨_, rfl, jfv.ref (by decide) q3⟩
        | 4, hi => cases hi; exact ⟨_, rfl, jfv.ref (by decide) q4⟩
        | 5, hi => cases hi; exact ⟨_, rfl, jfv.ref (by decide) q5⟩
        | 6, hi => cases hi; exact ⟨_, rfl, jfv.ref (by decide) q6⟩
        | 7, hi => cases hi; exact ⟨_, rfl, jfv.ref (by decide) q7⟩
        | i + 8, hi => exact absurd hi (by simp [jfs])))⟩
