/-! The class's reader, exactly: products and sums, the whole text. -/
section JRF
variable {D tm n : Nat} {T : Nat → Int} {g h h' : mj_H} {a e : Int}
/-- check (51): what is too great becomes 0 -/
theorem rq_check {p : Nat} {z : Int} {r : Nat} (hz : 0 ≤ z ∧ z ≤ 1) (kr : cK0 r = 2) (s : rR g n (p : Int) e h) : mj_Ok (D + 2) 51 [.ref 455, .int (jn z), .ref r] h (fun w => ∃ h2, w = (.inl none, h2) ∧ rR g n (p : Int) e h2) := by
  refine mj_Ok.of (M := mj_m51) (loc := [some (.ref 455), some (.int (jn z)), some (.ref r)]) rfl rfl rfl ?_
  refine mj_T.pl rfl rfl rfl rfl ?_
  refine mj_T.if0 (a := z) rfl ⟨by omega, by omega⟩ (fun _ => ?_) (fun _ => ?_)
  · exact mj_T.ret rfl rfl rfl ⟨h, rfl, s⟩
  · iterate 2 refine mj_T.pl rfl rfl rfl rfl ?_
    refine rr_p4 (b := 1) (Or.inr rfl) s rfl (fun h1 s1 => ?_)
    refine mj_T.pl rfl rfl rfl rfl ?_
    refine rr_c s1 rfl rfl (Nat.le_of_ble_eq_true rfl) (Nat.le_of_ble_eq_true rfl) rfl rfl (jc_165 (D := D) cTY0 (Nat.le_of_eq s1.1.1) s1.1 kr) (fun v h2 hv s2 => ?_)
    cases hv
    exact mj_T.ret rfl rfl rfl ⟨h2, rfl, s2⟩
theorem rq_product_loop {d r E a0 : Nat} (hB : jBuf tm T g) (ht : tm ≤ 200) (hT : ∀ j : Nat, j < tm → 1 ≤ T j ∧ T j ≤ 255) (hd : d ≤ 8) (kr : cK0 r = 2)
    (ih : ∀ (f p : Nat) (h : mj_H) (res : Bool × Nat), p ≤ tm → rpr0 T tm f 0 d p = some res → rR g n (p : Int) (-1) h → mj_Ok (E + 6) 52 [.ref 455, .int (jn (8 - (d : Int)))] h (rQ T tm g n p res rV)) : ∀ (f p i : Nat) (h : mj_H) (res : Bool × Nat) (l4 : Option Value), p ≤ tm → i ≤ p → a0 ≤ p → rpr0 T tm f 1 d p = some res → rR g n (p : Int) (-1) h → mj_T (E + 6) mj_m50 19 [some (.ref 455), some (.int (jn (8 - (d : Int)))), some (.ref r), some (.int (jn (i : Int))), l4] [] h (rQ T tm g n a0 res rV0) := by
  intro f
  induction f with
  | zero => intro p i h res l4 _ _ _ hf; cases hf
  | succ f ihf =>
    intro p i h res l4 hp hi ha hf s
    have b := s.jBuf hB
    unfold rpr0 at hf
    iterate 2 refine mj_T.pl rfl rfl rfl rfl ?_
    refine rr_g s rfl (fun t => rfl) ?_
    refine mj_T.gfl rfl b.1 rfl ?_
    refine mj_T.icmp (a := (i : Int)) (b := (tm : Int)) rfl ⟨by omega, by omega⟩ ⟨by omega, by omega⟩ (fun c => ?_) (fun _ => ?_)
    · have c := of_decide_eq_true c
      omega
    iterate 2 refine mj_T.pl rfl rfl rfl rfl ?_
    cases hfa : rpr0 T tm f 0 d p with
    | none => rw [hfa] at hf; cases hf
    | some rs =>
      rw [hfa] at hf
      refine mj_T.call rfl rfl (Nat.le_of_ble_eq_true rfl) (Nat.le_of_ble_eq_true rfl) (s.rv (by decide) rfl _) rfl (ih f p h rs hp hfa s) (fun v h4 hq => ?_) (fun i h4 hq => by obtain ⟨_, _, _, hq, _⟩ := hq; cases hq)
      obtain ⟨v2, c2, h5, hq, ⟨z, hz, hv⟩, c3, c4⟩ := hq
      subst hv
      cases hq
      refine mj_T.pl (loc' := [some (.ref 455), some (.int (jn (8 - (d : Int)))), some (.ref r), some (.int (jn (i : Int))), some (.int (jn z))]) rfl rfl rfl rfl ?_
      refine mj_T.pl rfl rfl rfl rfl ?_
      obtain ⟨ok, x⟩ := rs
      rcases c4 with ⟨e1, e2, e3, s4⟩ | ⟨e1, e2, s4⟩
      rotate_left
      · have e1 : ok = false := e1
        subst e1
        simp only at hf e2 s4
        cases hf
        refine rr_g s4 rfl (fun t => rfl) ?_
        refine mj_T.pl rfl rfl rfl rfl ?_
        refine mj_T.icmp (a := (x : Int)) (b := -1) rfl ⟨by omega, by omega⟩ ⟨by decide, by decide⟩ (fun c => ?_) (fun _ => ?_)
        · simp only [jc, decide_eq_true_eq] at c
          omega
        · exact mj_T.ret rfl rfl rfl ⟨_, c2, _, rfl, rfl, c3, Or.inr ⟨rfl, e2, s4⟩⟩
      have e1 : ok = true := e1
      have e2 : c2 = x := e2
      subst e1 e2
      simp only at hf
      refine rr_g s4 rfl (fun t => rfl) ?_
      refine mj_T.pl rfl rfl rfl rfl ?_
      refine mj_T.icmp (a := -1) (b := -1) rfl ⟨by decide, by decide⟩ ⟨by decide, by decide⟩ (fun _ => ?_) (fun c => absurd c (by decide))
      -- the product so far, times the factor
      have t77 : ∀ h6, rR g n (c2 : Int) (-1) h6 → mj_T (E + 6) mj_m50 77 [some (.ref 455), some (.int (jn (8 - (d : Int)))), some (.ref r), some (.int (jn (i : Int))), some (.int (jn z))] [] h6 (rQ T tm g n a0 res rV0) := fun h6 s6 => by
        iterate 2 refine mj_T.pl rfl rfl rfl rfl ?_
        refine rr_g s6 rfl (fun t => rfl) ?_
        iterate 2 refine mj_T.pl rfl rfl rfl rfl ?_
        refine rr_g s6 rfl (fun t => rfl) ?_
        refine mj_T.pl rfl rfl rfl rfl ?_
        refine rr_c s6 rfl rfl (Nat.le_of_ble_eq_true rfl) (Nat.le_of_ble_eq_true rfl) (jrv_of s6.1 kR.2.2.2 (by decide) rfl (by decide) rfl _) rfl (mj_Ok.up (by omega) (jc_11 (D := 0) cTY0 (Nat.le_of_eq s6.1.1) s6.1 kR.2.2.2 kr kR.2.2.1 kr)) (fun v h7 hv s7 => ?_)
        obtain ⟨y, y1, y2, rfl⟩ := hv
        refine mj_T.eq (st2 := [.int (jn y), .ref 455]) ?_ rfl rfl rfl rfl
        refine mj_T.pl rfl rfl rfl rfl ?_
        refine mj_T.call rfl rfl (Nat.le_of_ble_eq_true rfl) (Nat.le_of_ble_eq_true rfl) (s7.rv (by decide) rfl _) rfl (mj_Ok.up (by omega) (rq_check (D := 0) ⟨y1, y2⟩ kr s7)) (fun v h8 hq => ?_) (fun i h8 hq => by obtain ⟨_, hq, _⟩ := hq; cases hq)
        obtain ⟨_, hq, s8⟩ := hq
        cases hq
        iterate 2 refine mj_T.pl rfl rfl rfl rfl ?_
        refine mj_T.call rfl rfl (Nat.le_of_ble_eq_true rfl) (Nat.le_of_ble_eq_true rfl) (s8.rv (by decide) rfl _) rfl (mj_Ok.up (by omega) (rq_takes (D := 0) (c := 42) ⟨by decide, by decide⟩ hB ht hT c3 s8)) (fun v h9 hq => ?_) (fun i h9 hq => by rcases hq with ⟨_, _, _, _, hq⟩ | ⟨_, _, _, hq⟩ <;> cases hq)
        rcases hq with ⟨b9, _, ⟨g1, g2, g3⟩, s9, hq⟩ | ⟨_, g1, s9, hq⟩
        · cases hq
          rw [g1] at hf
          refine mj_T.if0 (a := 1) rfl ⟨by decide, by decide⟩ (fun _ => ?_) (fun hc2 => by simp [jc] at hc2)
          refine mj_T.iinc (a := (i : Int)) rfl rfl ?_
          refine mj_T.eq (loc2 := [some (.ref 455), some (.int (jn (8 - (d : Int)))), some (.ref r), some (.int (jn ((i + 1 : Nat) : Int))), some (.int (jn z))]) ?_ rfl (by rw [show ((i + 1 : Nat) : Int) = (i : Int) + 1 by omega]; rfl) rfl rfl
          refine mj_T.pl rfl rfl rfl rfl ?_
          exact ihf b9 (i + 1) h9 res _ g2 (by omega) (by omega) hf s9
        · cases hq
          rw [g1] at hf
          cases hf
          have hl9 := rskp_le (T := T) c3
          have hg9 := rskp_ge (T := T) (tm := tm) c2
          refine mj_T.if0 (a := 0) rfl ⟨by decide, by decide⟩ (fun hc2 => by simp [jc] at hc2) (fun _ => ?_)
          exact mj_T.ret rfl rfl rfl ⟨_, rskp T tm c2, h9, rfl, rfl, hl9, Or.inl ⟨rfl, rfl, by omega, s9⟩⟩
      iterate 2 refine mj_T.pl rfl rfl rfl rfl ?_
      refine mj_T.icmp (a := z) (b := -1) rfl ⟨by omega, by omega⟩ ⟨by decide, by decide⟩ (fun _ => t77 _ s4) (fun _ => ?_)
      iterate 2 refine mj_T.pl rfl rfl rfl rfl ?_
      refine rr_g s4 rfl (fun t => rfl) ?_
      refine mj_T.pl rfl rfl rfl rfl ?_
      refine rr_g s4 rfl (fun t => rfl) ?_
      iterate 2 refine mj_T.pl rfl rfl rfl rfl ?_
      refine rr_g s4 rfl (fun t => rfl) ?_
      refine rr_c s4 rfl rfl (Nat.le_of_ble_eq_true rfl) (Nat.le_of_ble_eq_true rfl) (jrv_of s4.1 kR.2.2.2 (by decide) rfl (by decide) rfl _) rfl (mj_Ok.up (by omega) (jc_12 (D := 0) cTY0 (Nat.le_of_eq s4.1.1) s4.1 kR.2.2.2 kR.2.2.1 ⟨by omega, by omega⟩ kR.2.2.1)) (fun v h7 hv s7 => ?_)
      obtain ⟨y, y1, y2, rfl⟩ := hv
      refine mj_T.eq (st2 := [.int (jn y), .ref 455]) ?_ rfl rfl rfl rfl
      refine mj_T.pl rfl rfl rfl rfl ?_
      refine rr_g s7 rfl (fun t => rfl) ?_
      refine mj_T.call rfl rfl (Nat.le_of_ble_eq_true rfl) (Nat.le_of_ble_eq_true rfl) (s7.rv (by decide) rfl _) rfl (mj_Ok.up (by omega) (rq_check (D := 0) ⟨y1, y2⟩ kR.2.2.1 s7)) (fun v h8 hq => ?_) (fun i h8 hq => by obtain ⟨_, hq, _⟩ := hq; cases hq)
      obtain ⟨_, hq, s8⟩ := hq
      cases hq
      exact t77 _ s8
theorem rq_product {d E : Nat} (hB : jBuf tm T g) (ht : tm ≤ 200) (hT : ∀ j : Nat, j < tm → 1 ≤ T j ∧ T j ≤ 255) (hd : d ≤ 8)
    (ih : ∀ (f p : Nat) (h : mj_H) (res : Bool × Nat), p ≤ tm → rpr0 T tm f 0 d p = some res → rR g n (p : Int) (-1) h → mj_Ok (E + 6) 52 [.ref 455, .int (jn (8 - (d : Int)))] h (rQ T tm g n p res rV)) (f p : Nat) (h : mj_H) (res : Bool × Nat) (hp : p ≤ tm) (hf : rpr0 T tm f 1 d p = some res) (s : rR g n (p : Int) (-1) h) : mj_Ok (E + 7) 50 [.ref 455, .int (jn (8 - (d : Int)))] h (rQ T tm g n p res rV0) := by
  refine mj_Ok.of (M := mj_m50) (loc := [some (.ref 455), some (.int (jn (8 - (d : Int)))), none, none, none]) rfl rfl rfl ?_
  refine mj_T.pl rfl rfl rfl rfl ?_
  refine rr_g s rfl (fun t => rfl) ?_
  refine mj_T.pl rfl rfl rfl rfl ?_
  refine rr_cp rfl rfl (Nat.le_of_ble_eq_true rfl) (Nat.le_of_ble_eq_true rfl) rfl rfl (mj_Ok.up (by omega) (jc_48 (D := 0) cTY0 (Nat.le_of_eq s.1.1) s.1 kR.2.1 ⟨by omega, by omega⟩)) (fun v hv => ?_)
  obtain ⟨r, kr, rfl⟩ := hv
  refine mj_T.eq (st2 := [.ref r]) ?_ rfl rfl rfl rfl
  refine mj_T.pl (loc' := [some (.ref 455), some (.int (jn (8 - (d : Int)))), some (.ref r), none, none]) rfl rfl rfl rfl ?_
  refine mj_T.pl rfl rfl rfl rfl ?_
  refine rr_c s rfl rfl (Nat.le_of_ble_eq_true rfl) (Nat.le_of_ble_eq_true rfl) rfl rfl (mj_Ok.up (by omega) (jc_165 (D := 0) cTY0 (Nat.le_of_eq s.1.1) s.1 kr)) (fun v h1 hv s1 => ?_)
  cases hv
  iterate 2 refine mj_T.pl rfl rfl rfl rfl ?_
  refine jT.lc 1 rfl rfl ?_
  have lr : 13 ≤ (cL r : Int) ∧ (cL r : Int) ≤ 13 := jlen 2 cTY0 kr (by decide) (by decide)
  refine jT.last (i := 0) s1.1 rfl kr ⟨by decide, by decide⟩ ⟨by decide, by omega⟩ (show jR 1 from ⟨by decide, by decide⟩) (fun h2 o2 _ => ?_)
  iterate 2 refine mj_T.pl rfl rfl rfl rfl ?_
  exact rq_product_loop hB ht hT hd kr ih f p 0 h2 res _ hp (Nat.zero_le _) (Nat.le_refl _) hf (s1.ty o2)
/-- a sum: and blanks are passed behind it -/
def rQ2 (T : Nat → Int) (tm : Nat) (g : mj_H) (n a : Nat) (res : Bool × Nat) (r : mj_R) : Prop := rQ T tm g n a res rV0 r ∧ (res.1 = true → rskp T tm res.2 = res.2)
theorem rq_sum_loop {d r E a0 : Nat} (hB : jBuf tm T g) (ht : tm ≤ 200) (hT : ∀ j : Nat, j < tm → 1 ≤ T j ∧ T j ≤ 255) (hd : d ≤ 8) (kr : cK0 r = 2)
    (ih : ∀ (f p : Nat) (h : mj_H) (res : Bool × Nat), p ≤ tm → rpr0 T tm f 1 d p = some res → rR g n (p : Int) (-1) h → mj_Ok (E + 7) 50 [.ref 455, .int (jn (8 - (d : Int)))] h (rQ T tm g n p res rV0)) : ∀ (f p i : Nat) (z : Int) (h : mj_H) (res : Bool × Nat) (l5 : Option Value), p ≤ tm → i ≤ p → a0 ≤ p → (z = 1 ∨ z = -1) → rpr0 T tm f 2 d p = some res → rR g n (p : Int) (-1) h → mj_T (E + 7) mj_m49 31 [some (.ref 455), some (.int (jn (8 - (d : Int)))), some (.ref r), some (.int (jn z)), some (.int (jn (i : Int))), l5] [] h (rQ2 T tm g n a0 res) := by
  intro f
  induction f with
  | zero => intro p i z h res l5 _ _ _ _ hf; cases hf
  | succ f ihf =>
    intro p i z h res l5 hp hi ha hz hf s
    have b := s.jBuf hB
    unfold rpr0 at hf
    iterate 2 refine mj_T.pl rfl rfl rfl rfl ?_
    refine rr_g s rfl (fun t => rfl) ?_
    refine mj_T.gfl rfl b.1 rfl ?_
    refine mj_T.icmp (a := (i : Int)) (b := (tm : Int)) rfl ⟨by omega, by omega⟩ ⟨by omega, by omega⟩ (fun c => ?_) (fun _ => ?_)
    · have c := of_decide_eq_true c
      omega
    iterate 2 refine mj_T.pl rfl rfl rfl rfl ?_
    cases hfa : rpr0 T tm f 1 d p with
    | none => rw [hfa] at hf; cases hf
    | some rs =>
      rw [hfa] at hf
      refine mj_T.call rfl rfl (Nat.le_of_ble_eq_true rfl) (Nat.le_of_ble_eq_true rfl) (s.rv (by decide) rfl _) rfl (ih f p h rs hp hfa s) (fun v h4 hq => ?_) (fun i h4 hq => by obtain ⟨_, _, _, hq, _⟩ := hq; cases hq)
      obtain ⟨v2, c2, h5, hq, hv, c3, c4⟩ := hq
      cases hv
      cases hq
      refine mj_T.pl rfl rfl rfl rfl ?_
      obtain ⟨ok, x⟩ := rs
      rcases c4 with ⟨e1, e2, e3, s4⟩ | ⟨e1, e2, s4⟩
      rotate_left
      · have e1 : ok = false := e1
        subst e1
        simp only at hf e2 s4
        cases hf
        refine rr_g s4 rfl (fun t => rfl) ?_
        refine mj_T.pl rfl rfl rfl rfl ?_
        refine mj_T.icmp (a := (x : Int)) (b := -1) rfl ⟨by omega, by omega⟩ ⟨by decide, by decide⟩ (fun c => ?_) (fun _ => ?_)
        · simp only [jc, decide_eq_true_eq] at c
          omega
        · exact mj_T.ret rfl rfl rfl ⟨⟨_, c2, _, rfl, rfl, c3, Or.inr ⟨rfl, e2, s4⟩⟩, fun q => by cases q⟩
      have e1 : ok = true := e1
      have e2 : c2 = x := e2
      subst e1 e2
      simp only at hf
      refine rr_g s4 rfl (fun t => rfl) ?_
      refine mj_T.pl rfl rfl rfl rfl ?_
      refine mj_T.icmp (a := -1) (b := -1) rfl ⟨by decide, by decide⟩ ⟨by decide, by decide⟩ (fun _ => ?_) (fun c => absurd c (by decide))
      iterate 3 refine mj_T.pl rfl rfl rfl rfl ?_
      refine rr_g s4 rfl (fun t => rfl) ?_
      refine mj_T.pl rfl rfl rfl rfl ?_
      refine rr_cp rfl rfl (Nat.le_of_ble_eq_true rfl) (Nat.le_of_ble_eq_true rfl) rfl rfl (mj_Ok.up (by omega) (jc_48 (D := 0) cTY0 (Nat.le_of_eq s4.1.1) s4.1 kR.2.1 ⟨by omega, by omega⟩)) (fun v hv => ?_)
      obtain ⟨r2, kr2, rfl⟩ := hv
      refine mj_T.eq (st2 := [.ref r2, .ref r, .ref 455]) ?_ rfl rfl rfl rfl
      iterate 2 refine mj_T.pl rfl rfl rfl rfl ?_
      refine rr_c s4 rfl rfl (Nat.le_of_ble_eq_true rfl) (Nat.le_of_ble_eq_true rfl) rfl rfl (mj_Ok.up (by omega) (jc_167 (D := 0) cTY0 (Nat.le_of_eq s4.1.1) s4.1 kr kr2 (p2 := z) ⟨by omega, by omega⟩ kr)) (fun v h6 hv s6 => ?_)
      obtain ⟨y, y1, y2, rfl⟩ := hv
      refine mj_T.eq (st2 := [.int (jn y), .ref 455]) ?_ rfl rfl rfl rfl
      refine mj_T.pl rfl rfl rfl rfl ?_
      refine mj_T.call rfl rfl (Nat.le_of_ble_eq_true rfl) (Nat.le_of_ble_eq_true rfl) (s6.rv (by decide) rfl _) rfl (mj_Ok.up (by omega) (rq_check (D := 0) ⟨y1, y2⟩ kr s6)) (fun v h8 hq => ?_) (fun i h8 hq => by obtain ⟨_, hq, _⟩ := hq; cases hq)
      obtain ⟨_, hq, s8⟩ := hq
      cases hq
      have hl9 := rskp_le (T := T) c3
      have hg9 := rskp_ge (T := T) (tm := tm) c2
      -- the next product, with its sign
      have t99 : ∀ (y : Int) (b9 : Nat) (h9 : mj_H), (y = 0 ∨ y = 1) → b9 ≤ tm → i + 1 ≤ b9 → a0 ≤ b9 → rpr0 T tm f 2 d b9 = some res → rR g n (b9 : Int) (-1) h9 → mj_T (E + 7) mj_m49 99 [some (.ref 455), some (.int (jn (8 - (d : Int)))), some (.ref r), some (.int (jn z)), some (.int (jn (i : Int))), some (.int (jn y))] [] h9 (rQ2 T tm g n a0 res) := fun y b9 h9 hy g2 g3 g4 hf9 s9 => by
        have t109 : ∀ z2 : Int, (z2 = 1 ∨ z2 = -1) → mj_T (E + 7) mj_m49 109 [some (.ref 455), some (.int (jn (8 - (d : Int)))), some (.ref r), some (.int (jn z)), some (.int (jn (i : Int))), some (.int (jn y))] [.int (jn z2)] h9 (rQ2 T tm g n a0 res) := fun z2 hz2 => by
          refine mj_T.pl (loc' := [some (.ref 455), some (.int (jn (8 - (d : Int)))), some (.ref r), some (.int (jn z2)), some (.int (jn (i : Int))), some (.int (jn y))]) rfl rfl rfl rfl ?_
          refine mj_T.iinc (a := (i : Int)) rfl rfl ?_
          refine mj_T.eq (loc2 := [some (.ref 455), some (.int (jn (8 - (d : Int)))), some (.ref r), some (.int (jn z2)), some (.int (jn ((i + 1 : Nat) : Int))), some (.int (jn y))]) ?_ rfl (by rw [show ((i + 1 : Nat) : Int) = (i : Int) + 1 by omega]; rfl) rfl rfl
          refine mj_T.pl rfl rfl rfl rfl ?_
          exact ihf b9 (i + 1) z2 h9 res _ g2 g3 g4 hz2 hf9 s9
        refine mj_T.pl rfl rfl rfl rfl ?_
        refine mj_T.if0 (a := y) rfl ⟨by omega, by omega⟩ (fun _ => ?_) (fun _ => ?_)
        · refine mj_T.pl rfl rfl rfl rfl ?_
          exact t109 (-1) (Or.inr rfl)
        · iterate 2 refine mj_T.pl rfl rfl rfl rfl ?_
          exact t109 1 (Or.inl rfl)
      iterate 2 refine mj_T.pl rfl rfl rfl rfl ?_
      refine mj_T.call rfl rfl (Nat.le_of_ble_eq_true rfl) (Nat.le_of_ble_eq_true rfl) (s8.rv (by decide) rfl _) rfl (mj_Ok.up (by omega) (rq_takes (D := 0) (c := 43) ⟨by decide, by decide⟩ hB ht hT c3 s8)) (fun v h9 hq => ?_) (fun i h9 hq => by rcases hq with ⟨_, _, _, _, hq⟩ | ⟨_, _, _, hq⟩ <;> cases hq)
      rcases hq with ⟨b9, _, ⟨g1, g2, g3⟩, s9, hq⟩ | ⟨_, g1, s9, hq⟩
      · cases hq
        rw [g1] at hf
        refine mj_T.pl (loc' := [some (.ref 455), some (.int (jn (8 - (d : Int)))), some (.ref r), some (.int (jn z)), some (.int (jn (i : Int))), some (.int (jn 1))]) rfl rfl rfl rfl ?_
        refine mj_T.pl rfl rfl rfl rfl ?_
        refine mj_T.if0 (a := 1) rfl ⟨by decide, by decide⟩ (fun _ => ?_) (fun hc2 => by simp [jc] at hc2)
        exact t99 1 b9 h9 (Or.inr rfl) g2 (by omega) (by omega) hf s9
      · cases hq
        rw [g1] at hf
        simp only at hf
        refine mj_T.pl (loc' := [some (.ref 455), some (.int (jn (8 - (d : Int)))), some (.ref r), some (.int (jn z)), some (.int (jn (i : Int))), some (.int (jn 0))]) rfl rfl rfl rfl ?_
        refine mj_T.pl rfl rfl rfl rfl ?_
        refine mj_T.if0 (a := 0) rfl ⟨by decide, by decide⟩ (fun hc2 => by simp [jc] at hc2) (fun _ => ?_)
        iterate 2 refine mj_T.pl rfl rfl rfl rfl ?_
        refine mj_T.call rfl rfl (Nat.le_of_ble_eq_true rfl) (Nat.le_of_ble_eq_true rfl) (s9.rv (by decide) rfl _) rfl (mj_Ok.up (by omega) (rq_takes (D := 0) (c := 45) ⟨by decide, by decide⟩ hB ht hT hl9 s9)) (fun v h10 hq => ?_) (fun i h10 hq => by rcases hq with ⟨_, _, _, _, hq⟩ | ⟨_, _, _, hq⟩ <;> cases hq)
        rcases hq with ⟨b9, _, ⟨g1, g2, g3⟩, s10, hq⟩ | ⟨_, g1, s10, hq⟩
        · cases hq
          rw [g1] at hf
          refine mj_T.if0 (a := 1) rfl ⟨by decide, by decide⟩ (fun _ => ?_) (fun hc2 => by simp [jc] at hc2)
          exact t99 0 b9 h10 (Or.inl rfl) g2 (by omega) (by omega) hf s10
        · cases hq
          rw [g1] at hf
          cases hf
          rw [rskp_idem c3] at s10
          refine mj_T.if0 (a := 0) rfl ⟨by decide, by decide⟩ (fun hc2 => by simp [jc] at hc2) (fun _ => ?_)
          exact mj_T.ret rfl rfl rfl ⟨⟨_, rskp T tm c2, h10, rfl, rfl, hl9, Or.inl ⟨rfl, rfl, by omega, s10⟩⟩, fun _ => rskp_idem c3⟩
theorem rq_sum {d E : Nat} (hB : jBuf tm T g) (ht : tm ≤ 200) (hT : ∀ j : Nat, j < tm → 1 ≤ T j ∧ T j ≤ 255) (hd : d ≤ 8)
    (ih : ∀ (f p : Nat) (h : mj_H) (res : Bool × Nat), p ≤ tm → rpr0 T tm f 1 d p = some res → rR g n (p : Int) (-1) h → mj_Ok (E + 7) 50 [.ref 455, .int (jn (8 - (d : Int)))] h (rQ T tm g n p res rV0)) (f p : Nat) (h : mj_H) (res : Bool × Nat) (hp : p ≤ tm) (hf : rpr0 T tm f 3 d p = some res) (s : rR g n (p : Int) (-1) h) : mj_Ok (E + 8) 49 [.ref 455, .int (jn (8 - (d : Int)))] h (rQ2 T tm g n p res) := by
  obtain ⟨f, rfl⟩ : ∃ f0, f = f0 + 1 := by
    cases f with
    | zero => cases hf
    | succ f0 => exact ⟨f0, rfl⟩
  unfold rpr0 at hf
  refine mj_Ok.of (M := mj_m49) (loc := [some (.ref 455), some (.int (jn (8 - (d : Int)))), none, none, none, none]) rfl rfl rfl ?_
  refine mj_T.pl rfl rfl rfl rfl ?_
  refine rr_g s rfl (fun t => rfl) ?_
  refine mj_T.pl rfl rfl rfl rfl ?_
  refine rr_cp rfl rfl (Nat.le_of_ble_eq_true rfl) (Nat.le_of_ble_eq_true rfl) rfl rfl (mj_Ok.up (by omega) (jc_48 (D := 0) cTY0 (Nat.le_of_eq s.1.1) s.1 kR.1 ⟨by omega, by omega⟩)) (fun v hv => ?_)
  obtain ⟨r, kr, rfl⟩ := hv
  refine mj_T.eq (st2 := [.ref r]) ?_ rfl rfl rfl rfl
  refine mj_T.pl (loc' := [some (.ref 455), some (.int (jn (8 - (d : Int)))), some (.ref r), none, none, none]) rfl rfl rfl rfl ?_
  refine mj_T.pl rfl rfl rfl rfl ?_
  refine rr_c s rfl rfl (Nat.le_of_ble_eq_true rfl) (Nat.le_of_ble_eq_true rfl) rfl rfl (mj_Ok.up (by omega) (jc_165 (D := 0) cTY0 (Nat.le_of_eq s.1.1) s.1 kr)) (fun v h1 hv s1 => ?_)
  cases hv
  iterate 2 refine mj_T.pl rfl rfl rfl rfl ?_
  refine mj_T.call rfl rfl (Nat.le_of_ble_eq_true rfl) (Nat.le_of_ble_eq_true rfl) (s1.rv (by decide) rfl _) rfl (mj_Ok.up (by omega) (rq_takes (D := 0) (c := 45) ⟨by decide, by decide⟩ hB ht hT hp s1)) (fun v h2 hq => ?_) (fun i h2 hq => by rcases hq with ⟨_, _, _, _, hq⟩ | ⟨_, _, _, hq⟩ <;> cases hq)
  have t27 : ∀ (z : Int) (b : Nat) (h2 : mj_H), (z = 1 ∨ z = -1) → b ≤ tm → p ≤ b → rpr0 T tm f 2 d b = some res → rR g n (b : Int) (-1) h2 → mj_T (E + 7) mj_m49 27 [some (.ref 455), some (.int (jn (8 - (d : Int)))), some (.ref r), none, none, none] [.int (jn z)] h2 (rQ2 T tm g n p res) := fun z b h2 hz hb hpb hf2 s2 => by
    refine mj_T.pl (loc' := [some (.ref 455), some (.int (jn (8 - (d : Int)))), some (.ref r), some (.int (jn z)), none, none]) rfl rfl rfl rfl ?_
    iterate 2 refine mj_T.pl rfl rfl rfl rfl ?_
    exact rq_sum_loop hB ht hT hd kr ih f b 0 z h2 res none hb (Nat.zero_le _) hpb hz hf2 s2
  have hg := rskp_ge (T := T) (tm := tm) p
  have hl := rskp_le (T := T) hp
  rcases hq with ⟨b, _, ⟨b1, b2, b3⟩, s2, hq⟩ | ⟨_, b1, s2, hq⟩
  · cases hq
    rw [b1] at hf
    refine mj_T.if0 (a := 1) rfl ⟨by decide, by decide⟩ (fun hc2 => by simp [jc] at hc2) (fun _ => ?_)
    iterate 2 refine mj_T.pl rfl rfl rfl rfl ?_
    exact t27 (-1) b h2 (Or.inr rfl) b2 (by omega) hf s2
  · cases hq
    rw [b1] at hf
    refine mj_T.if0 (a := 0) rfl ⟨by decide, by decide⟩ (fun _ => ?_) (fun hc2 => by simp [jc] at hc2)
    refine mj_T.pl rfl rfl rfl rfl ?_
    exact t27 1 _ h2 (Or.inl rfl) hl hg hf s2
/-- all depths -/
theorem rq_all (hB : jBuf tm T g) (ht : tm ≤ 200) (hT : ∀ j : Nat, j < tm → 1 ≤ T j ∧ T j ≤ 255) : ∀ d, d ≤ 8 → ∀ (f p : Nat) (h : mj_H) (res : Bool × Nat), p ≤ tm → rpr0 T tm f 3 d p = some res → rR g n (p : Int) (-1) h → mj_Ok (3 * d + 8) 49 [.ref 455, .int (jn (8 - (d : Int)))] h (rQ2 T tm g n p res) := by
  intro d
  induction d with
  | zero =>
    intro _ f p h res hp hf s
    refine rq_sum (E := 0) hB ht hT (by decide) (fun f p h res hp hf s => ?_) f p h res hp hf s
    exact rq_product (E := 0) hB ht hT (by decide) (fun f p h res hp hf s => rq_factor (E := 5) hB ht hT (by decide) (Nat.le_refl 5) (fun d' e => by omega) hp hf s) f p h res hp hf s
  | succ d ihd =>
    intro hd f p h res hp hf s
    have e : 3 * (d + 1) + 8 = (3 * d + 3) + 8 := by omega
    rw [e]
    refine rq_sum (E := 3 * d + 3) hB ht hT hd (fun f p h res hp hf s => ?_) f p h res hp hf s
    refine rq_product (E := 3 * d + 3) hB ht hT hd (fun f p h res hp hf s => ?_) f p h res hp hf s
    exact rq_factor (E := 3 * d + 8) hB ht hT hd (by omega) (fun d' e f p h res hp hf s => by
      have e2 : d = d' := by omega
      subst e2
      exact (ihd (by omega) f p h res hp hf s).to (fun r q => q.1)) hp hf s
theorem rq_accepts {b0 : Nat} {a0 e0 t0 : Int} (o : jO cK0 cL cR g n 0 g) (hc : g[455]? = some (.inr (4, [.ref 19, .ref b0, .int (jn a0), .int (jn e0), .int (jn t0), .ref 456, .ref 466, .ref 476]))) (hB : jBuf tm T g) (ht : tm ≤ 200) (hT : ∀ j : Nat, j < tm → 1 ≤ T j ∧ T j ≤ 255) : mj_Ok 40 46 [.ref 455, .ref 13] g (fun r => ∃ (p : Nat) (h2 : mj_H), p ≤ tm ∧ jr (rdErr T tm) ∧ rR g n (p : Int) (rdErr T tm) h2 ∧ r = (.inl (some (.int (jn (if rdErr T tm = -1 then 1 else 0)))), h2)) := by
  have hl := (List.getElem?_eq_some_iff.mp hc).1
  refine mj_Ok.of (M := mj_m46) (loc := [some (.ref 455), some (.ref 13)]) rfl rfl rfl ?_
  iterate 2 refine mj_T.pl rfl rfl rfl rfl ?_
  refine mj_T.pfl rfl hc (Nat.le_of_ble_eq_true rfl) rfl ?_
  iterate 2 refine mj_T.pl rfl rfl rfl rfl ?_
  refine mj_T.pfl rfl (List.getElem?_set_self hl) (Nat.le_of_ble_eq_true rfl) rfl ?_
  rw [List.set_set]
  iterate 2 refine mj_T.pl rfl rfl rfl rfl ?_
  refine mj_T.pfl rfl (List.getElem?_set_self hl) (Nat.le_of_ble_eq_true rfl) rfl ?_
  rw [List.set_set]
  iterate 2 refine mj_T.pl rfl rfl rfl rfl ?_
  refine mj_T.pfl rfl (List.getElem?_set_self hl) (Nat.le_of_ble_eq_true rfl) rfl ?_
  rw [List.set_set]
  have s0 : ∀ fs : List Value, fs = RF 0 (-1) 0 → rR g n ((0 : Nat) : Int) (-1) (g.set 455 (.inr (4, fs))) := fun fs q => by
    subst q
    refine ⟨?_, fun p hp hn => by rw [List.getElem?_set_ne (Ne.symm hn)], 0, Or.inl rfl, List.getElem?_set_self hl⟩
    have := o.keep (h' := g.set 455 (.inr (4, RF 0 (-1) 0))) (fun p hp => by rw [List.getElem?_set_ne (by intro q; rw [← q] at hp; exact hp (cK0_0 (by decide)))])
    rw [List.length_set, o.1] at this
    exact this
  have s1 := s0 _ rfl
  obtain ⟨h1, hh1⟩ : ∃ z, z = g.set 455 (.inr (4, RF 0 (-1) 0)) := ⟨_, rfl⟩
  rw [← hh1] at s1
  refine mj_T.eq (h2 := h1) ?_ rfl rfl rfl (by rw [hh1]; rfl)
  obtain ⟨hre, hrb⟩ := rdR_eq T tm
  obtain ⟨res, hres⟩ : ∃ z, rdR T tm = z := ⟨_, rfl⟩
  rw [hres] at hre hrb
  have t55 : ∀ (x : Int) (p : Nat) (h2 : mj_H), jr x → p ≤ tm → rdErr T tm = x → rR g n (p : Int) x h2 → mj_T 39 mj_m46 55 [some (.ref 455), some (.ref 13)] [] h2 (fun r => ∃ (p : Nat) (h2 : mj_H), p ≤ tm ∧ jr (rdErr T tm) ∧ rR g n (p : Int) (rdErr T tm) h2 ∧ r = (.inl (some (.int (jn (if rdErr T tm = -1 then 1 else 0)))), h2)) := fun x p h2 jx hp ex s2 => by
    rw [ex]
    refine mj_T.pl rfl rfl rfl rfl ?_
    refine rr_g s2 rfl (fun t => rfl) ?_
    refine mj_T.pl rfl rfl rfl rfl ?_
    refine mj_T.icmp (a := x) (b := -1) rfl jx ⟨by decide, by decide⟩ (fun c => ?_) (fun c => ?_)
    · simp only [jc, Bool.not_eq_true', decide_eq_false_iff_not] at c
      refine mj_T.pl rfl rfl rfl rfl ?_
      exact mj_T.ret rfl rfl rfl ⟨p, h2, hp, jx, s2, by rw [if_neg c]⟩
    · simp only [jc, Bool.not_eq_false', decide_eq_true_eq] at c
      iterate 2 refine mj_T.pl rfl rfl rfl rfl ?_
      exact mj_T.ret rfl rfl rfl ⟨p, h2, hp, jx, s2, by rw [if_pos c]⟩
  iterate 2 refine mj_T.pl rfl rfl rfl rfl ?_
  refine mj_T.eq (st2 := [.int (jn (8 - ((8 : Nat) : Int))), .ref 455]) ?_ rfl rfl rfl rfl
  refine mj_T.call rfl rfl (Nat.le_of_ble_eq_true rfl) (Nat.le_of_ble_eq_true rfl) (s1.rv (by decide) rfl _) rfl (mj_Ok.up (by decide) (rq_all hB ht hT 8 (by decide) (rdF tm) 0 h1 res (Nat.zero_le _) hre s1)) (fun v h4 hq => ?_) (fun i h4 hq => by obtain ⟨⟨_, _, _, hq, _⟩, _⟩ := hq; cases hq)
  obtain ⟨⟨v2, c2, h5, hq, hv, c3, c4⟩, hsk⟩ := hq
  cases hv
  cases hq
  refine mj_T.pl rfl rfl rfl rfl ?_
  rcases c4 with ⟨e1, e2, e3, s4⟩ | ⟨e1, e2, s4⟩
  rotate_left
  · refine rr_g s4 rfl (fun t => rfl) ?_
    refine mj_T.pl rfl rfl rfl rfl ?_
    refine mj_T.icmp (a := (res.2 : Int)) (b := -1) rfl ⟨by omega, by omega⟩ ⟨by decide, by decide⟩ (fun _ => ?_) (fun c => ?_)
    · exact t55 _ c2 h4 ⟨by omega, by omega⟩ c3 (by unfold rdErr; rw [hres, e1]; rfl) s4
    · simp only [jc, Bool.not_eq_false', decide_eq_true_eq] at c
      omega
  have hb := s4.jBuf hB
  have hsk2 := hsk e1
  refine rr_g s4 rfl (fun t => rfl) ?_
  refine mj_T.pl rfl rfl rfl rfl ?_
  refine mj_T.icmp (a := -1) (b := -1) rfl ⟨by decide, by decide⟩ ⟨by decide, by decide⟩ (fun c => absurd c (by decide)) (fun _ => ?_)
  refine mj_T.pl rfl rfl rfl rfl ?_
  refine rr_g s4 rfl (fun t => rfl) ?_
  refine mj_T.pl rfl rfl rfl rfl ?_
  refine rr_g s4 rfl (fun t => rfl) ?_
  refine mj_T.gfl rfl hb.1 rfl ?_
  refine mj_T.icmp (a := (c2 : Int)) (b := (tm : Int)) rfl ⟨by omega, by omega⟩ ⟨by omega, by omega⟩ (fun c => ?_) (fun c => ?_)
  · have c := of_decide_eq_true c
    refine t55 (-1) c2 h4 ⟨by decide, by decide⟩ c3 ?_ s4
    unfold rdErr
    rw [hres, if_pos e1, if_pos (by rw [hsk2]; omega)]
  · have c := of_decide_eq_false c
    iterate 2 refine mj_T.pl rfl rfl rfl rfl ?_
    refine rr_g s4 rfl (fun t => rfl) ?_
    refine rr_p3 s4 rfl (fun h6 s6 => ?_)
    refine t55 (c2 : Int) c2 h6 ⟨by omega, by omega⟩ c3 ?_ s6
    unfold rdErr
    rw [hres, if_pos e1, if_neg (by rw [hsk2]; omega), hsk2, e2]
end JRF
