/-! The constructors once more: setLong, Sturm, Roots, Reader. -/
theorem zCS.setL {D pc : Nat} {M : mj_M} {loc : mj_L} {st : List Value} {h h0 : mj_H} {Q : mj_R → Prop} {r3 r4 : Nat} {K L : Nat → Nat} {R : Nat → Nat → Nat} {a c n : Nat} {fs : List Value} {ix w x : Nat} {z : Int} (s : zCS K L R 0 h0 a c fs [] n h) (hc : M.2.2.2.2.1 pc = some (.invokevirtual ix, 86, 2, r3, r4, 8)) (hk : mj_kind (.invokevirtual ix) r3 = 3) (hcat : mj_cat st ≤ 8) (hM : M.2.2.2.2.2.1 = []) (hz : jR z) (hw : h0.length ≤ w ∧ w + 1 < n) (o : okW K L R w (w + 1) x) (hzw : zW w) (k : ∀ h', zCS K L R 0 h0 a c fs [] n h' → mj_T (D + 1) M (pc + 3) loc st h' Q) : mj_T (D + 1) M pc loc (.long (jl z) :: .ref w :: st) h Q := by
  have ty := jK2_ty o
  obtain ⟨s1, s2, s3, s4, s5, s6, s7⟩ := s
  have kw : jK2 w w = 18 := by unfold jK2; rw [if_pos rfl]
  have kw1 : jK2 w (w + 1) = 1 := by unfold jK2; rw [if_neg (by omega), if_pos rfl]
  have kz : ∀ y, y ≠ w → y ≠ w + 1 → jK2 w y = 0 := fun y h1 h2 => by unfold jK2; rw [if_neg h1, if_neg h2]
  have ho : jO (jK2 w) L R h n 0 h := by
    refine ⟨s1, ⟨by decide, by decide⟩, fun _ _ => ⟨fun _ => rfl, fun p q => absurd p (by omega)⟩, fun y hy => ?_⟩
    by_cases q1 : y = w
    · subst q1
      obtain ⟨e, e1, e2⟩ := s7 y hw.1 (by omega) (fun p hp => (List.not_mem_nil hp).elim)
      rw [o.1] at e2
      exact ⟨e, e1, by rw [kw]; exact e2.1.mv (Or.inr rfl)⟩
    · by_cases q2 : y = w + 1
      · subst q2
        obtain ⟨e, e1, e2⟩ := s7 (w + 1) (by omega) hw.2 (fun p hp => (List.not_mem_nil hp).elim)
        rw [o.2.1] at e2
        exact ⟨e, e1, by rw [kw1]; exact e2.1.mv (Or.inl rfl)⟩
      · exact absurd (kz y q1 q2) hy
  refine mj_T.call hc hk (Nat.le_add_left _ _) hcat (jrv_of ho kw (by decide) rfl (by decide) rfl ix) rfl (jc_86 (D := D) ty (Nat.le_of_eq s1) ho kw hz) (fun v h' hq => ?_) (fun i h' hq => ?_)
  · obtain ⟨hv, ho'⟩ := hq
    cases hv
    obtain ⟨t1, _, t3, t4⟩ := ho'
    have old : ∀ y, y < n → y ≠ w → y ≠ w + 1 → h'[y]? = h[y]? := fun y h1 h2 h3 => (t3 y (kz y h2 h3)).1 (by omega)
    refine k h' ⟨t1, s2, s3, fun y hy hne => ?_, ?_, fun p hp => (List.not_mem_nil hp).elim, fun y h1 h2 _ => ?_⟩
    · rw [old y (by omega) (by omega) (by omega)]
      exact s4 y hy hne
    · rw [old a (by omega) (by omega) (by omega)]
      exact s5
    · by_cases q1 : y = w
      · subst q1
        obtain ⟨e, e1, e2⟩ := t4 y (by rw [kw]; decide)
        rw [kw] at e2
        exact ⟨e, e1, by rw [o.1]; exact e2.mv (Or.inr rfl), fun q => absurd hzw q⟩
      · by_cases q2 : y = w + 1
        · subst q2
          obtain ⟨e, e1, e2⟩ := t4 (w + 1) (by rw [kw1]; decide)
          rw [kw1] at e2
          have e3 := e2
          unfold jCf at e3
          rw [if_pos (by decide)] at e3
          obtain ⟨f3, e4, _⟩ := e3
          exact ⟨e, e1, by rw [o.2.1]; exact e2.mv (Or.inl rfl), fun _ => by rw [e4]; exact fun q => absurd q (by decide)⟩
        · rw [old y h2 q1 q2]
          exact s7 y h1 h2 (fun p hp => (List.not_mem_nil hp).elim)
  · exact absurd hq.1 List.not_mem_nil
theorem zk_67l {D n a : Nat} {h0 : mj_H} {K L : Nat → Nat} {R : Nat → Nat → Nat} {dd : Nat} (hn : h0.length = n) (o : okS K L R a n dd) : ∀ (d i : Nat) {f : Nat → Value} {h : mj_H}, i + d = 14 → (∀ j, j < i → f j = .ref (R n j)) → zCS K L R 0 h0 a 6 [.ref dd, .ref n, .int 0, .ref (n + 1), .ref (n + 3), .ref (n + 5)] [(n, .inl (4, 14, f))] (n + jst i) h → mj_T (D + 2) mj_m67 58 [some (.ref a), some (.ref dd), some (.int (jn (i : Int)))] [] h (zDr K L R 0 h0 a (n + jst 14)) := by
  obtain ⟨o0, ⟨q0, q1, q3, q4, q5⟩, o1, o2, o3, o4, o5, o6⟩ := o
  intro d
  induction d with
  | zero =>
    intro i f h hd hf s0
    have e : i = 14 := by omega
    subst e
    iterate 2 refine mj_T.pl rfl rfl rfl rfl ?_
    refine zCS.get s0 rfl rfl ?_
    refine zCS.alen s0 rfl ?_
    refine jT.icmp (a := 14) (b := 14) rfl ⟨by omega, by omega⟩ ⟨by omega, by omega⟩ (fun _ => ?_) (fun c => ?_)
    · exact mj_T.ret rfl rfl rfl ⟨rfl, (s0.full o1 ⟨by decide, by decide⟩ rfl o2 hf).done (zCf.obj 16 (by decide) o0 rfl rfl (fun i cd hi => by
        match i, hi with
        | 0, hi => cases hi; exact ⟨_, rfl, jfv.ref (by decide) q0⟩
        | 1, hi => cases hi; exact ⟨_, rfl, jfv.ref (by decide) q1⟩
        | 2, hi => cases hi; exact ⟨_, rfl, jfv_mk (x := 0) rfl (by decide) (by decide)⟩
        | 3, hi => cases hi; exact ⟨_, rfl, jfv.ref (by decide) q3⟩
        | 4, hi => cases hi; exact ⟨_, rfl, jfv.ref (by decide) q4⟩
        | 5, hi => cases hi; exact ⟨_, rfl, jfv.ref (by decide) q5⟩
        | i + 6, hi => exact absurd hi (by simp [jfs])))⟩
    · exact absurd c (by decide)
  | succ d ih =>
    intro i f h hd hf s0
    obtain ⟨p1, p2⟩ := o6 i (by omega)
    obtain ⟨g1, g2⟩ := jst_s i (by omega)
    have ee : n + jst i + 1 + 3 + 2 * jsk i = n + jst (i + 1) := by omega
    have hfn : ∀ j, j < i + 1 → updV f i (.ref (n + jst i)) j = .ref (R n j) := by
      intro j hj
      unfold updV
      split
      · rename_i q
        subst q
        rw [p1]
      · exact hf j (by omega)
    iterate 2 refine mj_T.pl rfl rfl rfl rfl ?_
    refine zCS.get s0 rfl rfl ?_
    refine zCS.alen s0 rfl ?_
    refine jT.icmp (a := (i : Int)) (b := 14) rfl ⟨by omega, by omega⟩ ⟨by omega, by omega⟩ (fun c => ?_) (fun _ => ?_)
    · have c := of_decide_eq_true c
      omega
    refine mj_T.pl rfl rfl rfl rfl ?_
    refine zCS.get s0 rfl rfl ?_
    iterate 3 refine mj_T.pl rfl rfl rfl rfl ?_
    refine jT.icmp (a := (i : Int)) (b := 2) rfl ⟨by omega, by omega⟩ ⟨by omega, by omega⟩ (fun c => ?_) (fun c => ?_)
    · have c := of_decide_eq_true c
      have e1 : jsk i = 14 - i := by unfold jsk; rw [if_neg (by omega)]
      have e2 : jss i = 56 := by unfold jss; rw [if_neg (by omega)]
      have e3 : jsu i = 4 := by unfold jsu; rw [if_neg (by omega)]
      refine zCS.new (n := n + jst i) s0 rfl ?_
      iterate 3 refine mj_T.pl rfl rfl rfl rfl ?_
      refine mj_T.isub rfl ?_
      refine mj_T.eq (st2 := [.int (jn ((jsk i : Nat) : Int)), .ref (n + jst i), .ref (n + jst i), .int (jn (i : Int)), .ref n]) ?_ rfl rfl (by rw [e1, show ((14 - i : Nat) : Int) = 14 - (i : Int) by omega]) rfl
      iterate 2 refine mj_T.pl rfl rfl rfl rfl ?_
      refine mj_T.eq (st2 := [.int (jn ((jsu i : Nat) : Int)), .int (jn ((jss i : Nat) : Int)), .int (jn ((jsk i : Nat) : Int)), .ref (n + jst i), .ref (n + jst i), .int (jn (i : Int)), .ref n]) ?_ rfl rfl (by rw [e2, e3]; rfl) rfl
      refine zCS.call (n := n + jst i) (N := n + jst i + 1 + 3 + 2 * jsk i) s0 rfl rfl (Nat.le_of_ble_eq_true rfl) (Nat.le_of_ble_eq_true rfl) rfl rfl (fun e1 e2 => zk_35 (D := D) e2 e1 p2) rfl (fun h1 s1 => ?_)
      rw [ee] at s1
      refine zCS.aast (kv := 13) s1 rfl ⟨by omega, by omega, by omega⟩ p2.1 (by decide) rfl (by omega) (by decide) (fun h2 s2 => ?_)
      refine mj_T.iinc (a := (i : Int)) rfl rfl ?_
      refine mj_T.pl rfl rfl rfl rfl ?_
      exact ih (i + 1) (by omega) hfn s2
    · have c := of_decide_eq_false c
      have e1 : jsk i = 13 := by unfold jsk; rw [if_pos (by omega)]
      have e2 : jss i = 30 := by unfold jss; rw [if_pos (by omega)]
      have e3 : jsu i = 2 := by unfold jsu; rw [if_pos (by omega)]
      refine zCS.new (n := n + jst i) s0 rfl ?_
      iterate 4 refine mj_T.pl rfl rfl rfl rfl ?_
      refine mj_T.eq (st2 := [.int (jn ((jsu i : Nat) : Int)), .int (jn ((jss i : Nat) : Int)), .int (jn ((jsk i : Nat) : Int)), .ref (n + jst i), .ref (n + jst i), .int (jn (i : Int)), .ref n]) ?_ rfl rfl (by rw [e1, e2, e3]; rfl) rfl
      refine zCS.call (n := n + jst i) (N := n + jst i + 1 + 3 + 2 * jsk i) s0 rfl rfl (Nat.le_of_ble_eq_true rfl) (Nat.le_of_ble_eq_true rfl) rfl rfl (fun e1 e2 => zk_35 (D := D) e2 e1 p2) rfl (fun h1 s1 => ?_)
      rw [ee] at s1
      refine mj_T.pl rfl rfl rfl rfl ?_
      refine zCS.aast (kv := 13) s1 rfl ⟨by omega, by omega, by omega⟩ p2.1 (by decide) rfl (by omega) (by decide) (fun h2 s2 => ?_)
      refine mj_T.iinc (a := (i : Int)) rfl rfl ?_
      refine mj_T.pl rfl rfl rfl rfl ?_
      exact ih (i + 1) (by omega) hfn s2
theorem zk_67 {D n a : Nat} {h0 : mj_H} {K L : Nat → Nat} {R : Nat → Nat → Nat} {dd : Nat} (ha : h0[a]? = some (.inr (6, [.null, .null, .int 0, .null, .null, .null]))) (hn : h0.length = n) (o : okS K L R a n dd) : mj_Ok (D + 3) 67 [.ref a, .ref dd] h0 (zDr K L R 0 h0 a (n + jst 14)) := by
  have ok := o
  obtain ⟨o0, q, o1, o2, o3, o4, o5, o6⟩ := o
  have s0 := zCS.beg (K := K) (L := L) (R := R) (tm := 0) ha hn
  refine mj_Ok.of (M := mj_m67) (loc := [some (.ref a), some (.ref dd), none]) rfl rfl rfl ?_
  refine mj_T.pl rfl rfl rfl rfl ?_
  refine mj_T.prim rfl rfl rfl ?_
  iterate 2 refine mj_T.pl rfl rfl rfl rfl ?_
  refine zCS.arrO (n := n) 14 s0 rfl (by decide) (fun h11 s11 => ?_)
  refine zCS.put s11 rfl (Nat.le_of_ble_eq_true rfl) rfl (fun h12 s12 => ?_)
  refine mj_T.pl rfl rfl rfl rfl ?_
  refine zCS.new (n := n + 1) s12 rfl ?_
  iterate 2 refine mj_T.pl rfl rfl rfl rfl ?_
  refine zCS.call (n := n + 1) (N := n + 3) s12 rfl rfl (Nat.le_of_ble_eq_true rfl) (Nat.le_of_ble_eq_true rfl) rfl rfl (fun e1 e2 => zk_85 (D := D + 1) (x := 60) e2 e1 o3) rfl (fun h13 s13 => ?_)
  refine zCS.put s13 rfl (Nat.le_of_ble_eq_true rfl) rfl (fun h14 s14 => ?_)
  refine mj_T.pl rfl rfl rfl rfl ?_
  refine zCS.new (n := n + 3) s14 rfl ?_
  iterate 2 refine mj_T.pl rfl rfl rfl rfl ?_
  refine zCS.call (n := n + 3) (N := n + 5) s14 rfl rfl (Nat.le_of_ble_eq_true rfl) (Nat.le_of_ble_eq_true rfl) rfl rfl (fun e1 e2 => zk_85 (D := D + 1) (x := 60) e2 e1 o4) rfl (fun h15 s15 => ?_)
  refine zCS.put s15 rfl (Nat.le_of_ble_eq_true rfl) rfl (fun h16 s16 => ?_)
  refine mj_T.pl rfl rfl rfl rfl ?_
  refine zCS.new (n := n + 5) s16 rfl ?_
  iterate 2 refine mj_T.pl rfl rfl rfl rfl ?_
  refine zCS.call (n := n + 5) (N := n + 7) s16 rfl rfl (Nat.le_of_ble_eq_true rfl) (Nat.le_of_ble_eq_true rfl) rfl rfl (fun e1 e2 => zk_85 (D := D + 1) (x := 3) e2 e1 o5) rfl (fun h17 s17 => ?_)
  refine zCS.put s17 rfl (Nat.le_of_ble_eq_true rfl) rfl (fun h18 s18 => ?_)
  iterate 2 refine mj_T.pl rfl rfl rfl rfl ?_
  refine zCS.put s18 rfl (Nat.le_of_ble_eq_true rfl) rfl (fun h19 s19 => ?_)
  iterate 2 refine mj_T.pl rfl rfl rfl rfl ?_
  exact zk_67l hn ok 14 0 rfl (fun j hj => absurd hj (by omega)) s19
theorem zk_58 {D n a : Nat} {h0 : mj_H} {K L : Nat → Nat} {R : Nat → Nat → Nat} {dd u : Nat} (ha : h0[a]? = some (.inr (5, [.null, .null, .int 0, .int 0, .int 0, .long 0, .null, .int 0, .null, .null, .null, .null]))) (hn : h0.length = n) (o : okR K L R a n dd u) (hzw : zW (n + 8)) : mj_Ok (D + 2) 58 [.ref a, .ref dd, .ref u] h0 (zDr K L R 0 h0 a (n + 10)) := by
  obtain ⟨o0, ⟨q0, q1, q6, q8, q9, q10, q11⟩, w0, w1, w2, w3, w4⟩ := o
  have s0 := zCS.beg (K := K) (L := L) (R := R) (tm := 0) ha hn
  refine mj_Ok.of (M := mj_m58) (loc := [some (.ref a), some (.ref dd), some (.ref u)]) rfl rfl rfl ?_
  refine mj_T.pl rfl rfl rfl rfl ?_
  refine mj_T.prim rfl rfl rfl ?_
  refine mj_T.pl rfl rfl rfl rfl ?_
  refine zCS.new (n := n) s0 rfl ?_
  iterate 2 refine mj_T.pl rfl rfl rfl rfl ?_
  refine zCS.call (n := n) (N := n + 2) s0 rfl rfl (Nat.le_of_ble_eq_true rfl) (Nat.le_of_ble_eq_true rfl) rfl rfl (fun e1 e2 => zk_85 (D := D) (x := 12) e2 e1 w0) rfl (fun h11 s11 => ?_)
  refine zCS.put s11 rfl (Nat.le_of_ble_eq_true rfl) rfl (fun h12 s12 => ?_)
  refine mj_T.pl rfl rfl rfl rfl ?_
  refine zCS.new (n := n + 2) s12 rfl ?_
  iterate 2 refine mj_T.pl rfl rfl rfl rfl ?_
  refine zCS.call (n := n + 2) (N := n + 4) s12 rfl rfl (Nat.le_of_ble_eq_true rfl) (Nat.le_of_ble_eq_true rfl) rfl rfl (fun e1 e2 => zk_85 (D := D) (x := 12) e2 e1 w1) rfl (fun h13 s13 => ?_)
  refine zCS.put s13 rfl (Nat.le_of_ble_eq_true rfl) rfl (fun h14 s14 => ?_)
  refine mj_T.pl rfl rfl rfl rfl ?_
  refine zCS.new (n := n + 4) s14 rfl ?_
  iterate 2 refine mj_T.pl rfl rfl rfl rfl ?_
  refine zCS.call (n := n + 4) (N := n + 6) s14 rfl rfl (Nat.le_of_ble_eq_true rfl) (Nat.le_of_ble_eq_true rfl) rfl rfl (fun e1 e2 => zk_85 (D := D) (x := 12) e2 e1 w2) rfl (fun h15 s15 => ?_)
  refine zCS.put s15 rfl (Nat.le_of_ble_eq_true rfl) rfl (fun h16 s16 => ?_)
  refine mj_T.pl rfl rfl rfl rfl ?_
  refine zCS.new (n := n + 6) s16 rfl ?_
  iterate 2 refine mj_T.pl rfl rfl rfl rfl ?_
  refine zCS.call (n := n + 6) (N := n + 8) s16 rfl rfl (Nat.le_of_ble_eq_true rfl) (Nat.le_of_ble_eq_true rfl) rfl rfl (fun e1 e2 => zk_85 (D := D) (x := 12) e2 e1 w3) rfl (fun h17 s17 => ?_)
  refine zCS.put s17 rfl (Nat.le_of_ble_eq_true rfl) rfl (fun h18 s18 => ?_)
  refine mj_T.pl rfl rfl rfl rfl ?_
  refine zCS.new (n := n + 8) s18 rfl ?_
  iterate 2 refine mj_T.pl rfl rfl rfl rfl ?_
  refine zCS.call (n := n + 8) (N := n + 10) s18 rfl rfl (Nat.le_of_ble_eq_true rfl) (Nat.le_of_ble_eq_true rfl) rfl rfl (fun e1 e2 => zk_85 (D := D) (x := 1) e2 e1 w4) rfl (fun h19 s19 => ?_)
  refine zCS.put s19 rfl (Nat.le_of_ble_eq_true rfl) rfl (fun h20 s20 => ?_)
  iterate 2 refine mj_T.pl rfl rfl rfl rfl ?_
  refine zCS.put s20 rfl (Nat.le_of_ble_eq_true rfl) rfl (fun h21 s21 => ?_)
  iterate 2 refine mj_T.pl rfl rfl rfl rfl ?_
  refine zCS.put s21 rfl (Nat.le_of_ble_eq_true rfl) rfl (fun h22 s22 => ?_)
  refine mj_T.pl rfl rfl rfl rfl ?_
  refine zCS.get s22 rfl rfl ?_
  refine mj_T.pl rfl rfl rfl rfl ?_
  refine zCS.setL (w := n + 8) (x := 1) (z := 1) s22 rfl rfl (Nat.le_of_ble_eq_true rfl) rfl ⟨by decide, by decide⟩ ⟨by omega, by omega⟩ w4 hzw (fun h9 s9 => ?_)
  exact mj_T.ret rfl rfl rfl ⟨rfl, s9.done (zCf.obj 15 (by decide) o0 rfl rfl (fun i cd hi => by
        match i, hi with
        | 0, hi => cases hi; exact ⟨_, rfl, jfv.ref (by decide) q0⟩
        | 1, hi => cases hi; exact ⟨_, rfl, jfv.ref (by decide) q1⟩
        | 2, hi => cases hi; exact ⟨_, rfl, jfv_mk (x := 0) rfl (by decide) (by decide)⟩
        | 3, hi => cases hi; exact ⟨_, rfl, jfv_mk (x := 0) rfl (by decide) (by decide)⟩
        | 4, hi => cases hi; exact ⟨_, rfl, jfv_mk (x := 0) rfl (by decide) (by decide)⟩
        | 5, hi => cases hi; exact ⟨_, rfl, jfv.long (x := 0) ⟨by decide, by decide⟩⟩
        | 6, hi => cases hi; exact ⟨_, rfl, jfv.ref (by decide) q6⟩
        | 7, hi => cases hi; exact ⟨_, rfl, jfv_mk (x := 0) rfl (by decide) (by decide)⟩
        | 8, hi => cases hi; exact ⟨_, rfl, jfv.ref (by decide) q8⟩
        | 9, hi => cases hi; exact ⟨_, rfl, jfv.ref (by decide) q9⟩
        | 10, hi => cases hi; exact ⟨_, rfl, jfv.ref (by decide) q10⟩
        | 11, hi => cases hi; exact ⟨_, rfl, jfv.ref (by decide) q11⟩
        | i + 12, hi => exact absurd hi (by simp [jfs])))⟩
theorem zk_45 {D n a : Nat} {h0 : mj_H} {K L : Nat → Nat} {R : Nat → Nat → Nat} {dd u : Nat} (ha : h0[a]? = some (.inr (4, [.null, .null, .int 0, .int 0, .int 0, .null, .null, .null]))) (hn : h0.length = n) (o : okE K L R a n dd u) : mj_Ok (D + 1) 45 [.ref a, .ref dd, .ref u] h0 (zDr K L R 0 h0 a (n + 21)) := by
  obtain ⟨o0, ⟨q0, q1, q5, q6, q7⟩, ⟨m0, m1, m2⟩, ⟨m3, m4, m5⟩, l0, l1⟩ := o
  have s0 := zCS.beg (K := K) (L := L) (R := R) (tm := 0) ha hn
  refine mj_Ok.of (M := mj_m45) (loc := [some (.ref a), some (.ref dd), some (.ref u)]) rfl rfl rfl ?_
  refine mj_T.pl rfl rfl rfl rfl ?_
  refine mj_T.prim rfl rfl rfl ?_
  iterate 2 refine mj_T.pl rfl rfl rfl rfl ?_
  refine zCS.put s0 rfl (Nat.le_of_ble_eq_true rfl) rfl (fun h11 s11 => ?_)
  iterate 3 refine mj_T.pl rfl rfl rfl rfl ?_
  refine zCS.rows (n := n) 9 s11 rfl (by decide) m0 m1 m2 (fun h12 s12 => ?_)
  refine zCS.put s12 rfl (Nat.le_of_ble_eq_true rfl) rfl (fun h13 s13 => ?_)
  iterate 3 refine mj_T.pl rfl rfl rfl rfl ?_
  refine zCS.rows (n := n + 10) 9 s13 rfl (by decide) m3 m4 m5 (fun h14 s14 => ?_)
  refine zCS.put s14 rfl (Nat.le_of_ble_eq_true rfl) rfl (fun h15 s15 => ?_)
  iterate 2 refine mj_T.pl rfl rfl rfl rfl ?_
  refine zCS.arr (n := n + 20) (x := 13) 2 s15 rfl (Or.inr (Or.inl rfl)) rfl ⟨by decide, by decide⟩ l0 (by rw [l1]; rfl) (fun h16 s16 => ?_)
  refine zCS.put s16 rfl (Nat.le_of_ble_eq_true rfl) rfl (fun h17 s17 => ?_)
  iterate 2 refine mj_T.pl rfl rfl rfl rfl ?_
  refine zCS.put s17 rfl (Nat.le_of_ble_eq_true rfl) rfl (fun h18 s18 => ?_)
  iterate 2 refine mj_T.pl rfl rfl rfl rfl ?_
  refine zCS.put s18 rfl (Nat.le_of_ble_eq_true rfl) rfl (fun h19 s19 => ?_)
  exact mj_T.ret rfl rfl rfl ⟨rfl, s19.done (zCf.obj 14 (by decide) o0 rfl rfl (fun i cd hi => by
        match i, hi with
        | 0, hi => cases hi; exact ⟨_, rfl, jfv.ref (by decide) q0⟩
        | 1, hi => cases hi; exact ⟨_, rfl, jfv.txt q1⟩
        | 2, hi => cases hi; exact ⟨_, rfl, jfv_mk (x := 0) rfl (by decide) (by decide)⟩
        | 3, hi => cases hi; exact ⟨_, rfl, jfv_mk (x := -1) rfl (by decide) (by decide)⟩
        | 4, hi => cases hi; exact ⟨_, rfl, jfv_mk (x := 0) rfl (by decide) (by decide)⟩
        | 5, hi => cases hi; exact ⟨_, rfl, jfv.ref (by decide) q5⟩
        | 6, hi => cases hi; exact ⟨_, rfl, jfv.ref (by decide) q6⟩
        | 7, hi => cases hi; exact ⟨_, rfl, jfv.ref (by decide) q7⟩
        | i + 8, hi => exact absurd hi (by simp [jfs])))⟩
