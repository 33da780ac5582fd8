/-! The class's reader over the memory: blanks, signs, numbers. -/
section JRD2t
variable {D tm n tx : Nat} {T : Nat → Int} {g h h' : mj_H} {a e t : Int} {X0 Y : Nat → Nat → Int} {Z : Nat → Prop}
variable {pc : Nat} {M : mj_M} {loc : mj_L} {st : List Value} {Q : mj_R → Prop} {r1 r2 r3 r4 r5 : Nat}
theorem rt_at {p : Nat} {m : Nat} (s : rMt g n tx X0 Z Y t (p : Int) e h) (hB : bXt tx X0 tm T) (ht : tm ≤ 340) (hT : ∀ j : Nat, j < tm → 0 ≤ T j ∧ T j ≤ 255) (hp : p ≤ 340) (hc : M.2.2.2.2.1 pc = some (.invokevirtual m, 79, 2, r3, r4, 7)) (hk : mj_kind (.invokevirtual m) r3 = 3) (hcat : mj_cat st ≤ 8) (k : mj_T (D + 1) M (pc + 3) loc (.int (jn (rvt T tm p)) :: st) h Q) : mj_T (D + 1) M pc loc (.int (jn (p : Int)) :: .ref tx :: st) h Q := by
  have b := s.jBt hB
  refine mj_T.call hc hk (Nat.le_add_left _ _) hcat (by simp [mj_recv, b.1]) rfl (rq_att (D := D) b ht hT ⟨by omega, by omega⟩) (fun v h' hq => ?_) (fun i h' hq => by cases hq)
  cases hq
  have e : (if 0 ≤ (p : Int) ∧ (p : Int) < (tm : Int) then T (p : Int).toNat else -1) = rvt T tm p := by
    unfold rvt
    rw [Int.toNat_natCast]
    by_cases c : p < tm
    · rw [if_pos c, if_pos ⟨by omega, by omega⟩]
    · rw [if_neg c, if_neg (by omega)]
  rw [e]
  exact k
theorem rt_skips_loop (hB : bXt tx X0 tm T) (ht : tm ≤ 340) (hT : ∀ j : Nat, j < tm → 0 ≤ T j ∧ T j ≤ 255) {Q : mj_R → Prop} : ∀ (m p i : Nat) (h : mj_H), p + m = tm → i ≤ p → rMt g n tx X0 Z Y t (p : Int) e h → (∀ h2, rMt g n tx X0 Z Y t (rsk T m p : Nat) e h2 → Q (.inl none, h2)) → mj_T (D + 1) mj_m56 2 [some (.ref 455), some (.int (jn (i : Int)))] [] h Q := by
  intro m
  induction m with
  | zero =>
    intro p i h hp hi s hend
    have b := s.jBt hB
    iterate 2 refine mj_T.pl rfl rfl rfl rfl ?_
    refine rt_g s rfl rfl ?_
    refine mj_T.gfl rfl b.1 rfl ?_
    refine mj_T.icmp (a := (i : Int)) (b := (tm : Int)) rfl ⟨by omega, by omega⟩ ⟨by omega, by omega⟩ (fun _ => mj_T.ret rfl rfl rfl (hend h s)) (fun _ => ?_)
    refine mj_T.pl rfl rfl rfl rfl ?_
    refine rt_g s rfl rfl ?_
    refine mj_T.pl rfl rfl rfl rfl ?_
    refine rt_g s rfl rfl ?_
    refine rt_at s hB ht hT (by omega) rfl rfl (Nat.le_of_ble_eq_true rfl) ?_
    rw [show rvt T tm p = -1 from if_neg (by omega)]
    refine mj_T.pl rfl rfl rfl rfl ?_
    refine mj_T.icmp (a := -1) (b := 32) rfl ⟨by decide, by decide⟩ ⟨by decide, by decide⟩ (fun _ => mj_T.ret rfl rfl rfl (hend h s)) (fun c => absurd c (by decide))
  | succ m ih =>
    intro p i h hp hi s hend
    have b := s.jBt hB
    have hTp := hT p (by omega)
    iterate 2 refine mj_T.pl rfl rfl rfl rfl ?_
    refine rt_g s rfl rfl ?_
    refine mj_T.gfl rfl b.1 rfl ?_
    refine mj_T.icmp (a := (i : Int)) (b := (tm : Int)) rfl ⟨by omega, by omega⟩ ⟨by omega, by omega⟩ (fun c => ?_) (fun _ => ?_)
    · have c := of_decide_eq_true c
      omega
    refine mj_T.pl rfl rfl rfl rfl ?_
    refine rt_g s rfl rfl ?_
    refine mj_T.pl rfl rfl rfl rfl ?_
    refine rt_g s rfl rfl ?_
    refine rt_at s hB ht hT (by omega) rfl rfl (Nat.le_of_ble_eq_true rfl) ?_
    rw [show rvt T tm p = T p from if_pos (by omega)]
    refine mj_T.pl rfl rfl rfl rfl ?_
    refine mj_T.icmp (a := T p) (b := 32) rfl ⟨by omega, by omega⟩ ⟨by decide, by decide⟩ (fun c => ?_) (fun c => ?_)
    · simp only [jc, Bool.not_eq_true', decide_eq_false_iff_not] at c
      rw [show rsk T (m + 1) p = p from if_neg c] at hend
      exact mj_T.ret rfl rfl rfl (hend h s)
    · simp only [jc, Bool.not_eq_false', decide_eq_true_eq] at c
      rw [show rsk T (m + 1) p = rsk T m (p + 1) from if_pos c] at hend
      iterate 2 refine mj_T.pl rfl rfl rfl rfl ?_
      refine rt_g s rfl rfl ?_
      refine mj_T.pl rfl rfl rfl rfl ?_
      refine mj_T.iadd (a := (p : Int)) (b := 1) rfl ?_
      rw [show (p : Int) + 1 = ((p + 1 : Nat) : Int) by omega]
      refine rt_p2 s rfl (fun h1 s1 => ?_)
      refine mj_T.iinc (a := (i : Int)) rfl rfl ?_
      refine mj_T.eq (loc2 := [some (.ref 455), some (.int (jn ((i + 1 : Nat) : Int)))]) ?_ rfl (by rw [show ((i + 1 : Nat) : Int) = (i : Int) + 1 by omega]; rfl) rfl rfl
      refine mj_T.pl rfl rfl rfl rfl ?_
      exact ih (p + 1) (i + 1) h1 (by omega) (by omega) s1 hend
theorem rt_skips {p : Nat} (hB : bXt tx X0 tm T) (ht : tm ≤ 340) (hT : ∀ j : Nat, j < tm → 0 ≤ T j ∧ T j ≤ 255) (hp : p ≤ tm) (s : rMt g n tx X0 Z Y t (p : Int) e h) : mj_Ok (D + 2) 56 [.ref 455] h (fun r => ∃ h2, rMt g n tx X0 Z Y t (rskp T tm p : Nat) e h2 ∧ r = (.inl none, h2)) := by
  refine mj_Ok.of (M := mj_m56) (loc := [some (.ref 455), none]) rfl rfl rfl ?_
  iterate 2 refine mj_T.pl rfl rfl rfl rfl ?_
  refine rt_skips_loop (D := D) hB ht hT (tm - p) p 0 h (by omega) (Nat.zero_le _) s (fun h2 s2 => ⟨h2, s2, rfl⟩)
theorem rt_takes {p : Nat} {c : Int} (hc : 1 ≤ c ∧ c ≤ 255) (hB : bXt tx X0 tm T) (ht : tm ≤ 340) (hT : ∀ j : Nat, j < tm → 0 ≤ T j ∧ T j ≤ 255) (hp : p ≤ tm) (s : rMt g n tx X0 Z Y t (p : Int) e h) : mj_Ok (D + 3) 57 [.ref 455, .int (jn c)] h (fun r => (∃ (b : Nat) (h2 : mj_H), (rtk T tm c p = some b ∧ b ≤ tm ∧ p < b) ∧ rMt g n tx X0 Z Y t (b : Int) e h2 ∧ r = (.inl (some (.int (jn 1))), h2)) ∨ (∃ h2, rtk T tm c p = none ∧ rMt g n tx X0 Z Y t (rskp T tm p : Nat) e h2 ∧ r = (.inl (some (.int (jn 0))), h2))) := by
  refine mj_Ok.of (M := mj_m57) (loc := [some (.ref 455), some (.int (jn c))]) rfl rfl rfl ?_
  have hle := rskp_le (T := T) hp
  have hge := rskp_ge (T := T) (tm := tm) p
  refine mj_T.pl rfl rfl rfl rfl ?_
  refine mj_T.call rfl rfl (Nat.le_of_ble_eq_true rfl) (Nat.le_of_ble_eq_true rfl) (s.rv (by decide) rfl _) rfl (rt_skips (D := D) hB ht hT hp s) (fun v h1 hq => ?_) (fun i h1 hq => by obtain ⟨_, _, hq⟩ := hq; cases hq)
  obtain ⟨_, s1, hq⟩ := hq
  cases hq
  obtain ⟨q, hqd⟩ : ∃ q, rskp T tm p = q := ⟨_, rfl⟩
  rw [hqd] at s1 hle hge ⊢
  refine mj_T.pl rfl rfl rfl rfl ?_
  refine rt_g s1 rfl rfl ?_
  refine mj_T.pl rfl rfl rfl rfl ?_
  refine rt_g s1 rfl rfl ?_
  refine rt_at s1 hB ht hT (by omega) rfl rfl (Nat.le_of_ble_eq_true rfl) ?_
  have hb := rvt_bd0 (tm := tm) hT q
  refine mj_T.pl rfl rfl rfl rfl ?_
  refine mj_T.icmp (a := rvt T tm q) (b := c) rfl ⟨by omega, by omega⟩ ⟨by omega, by omega⟩ (fun hc2 => ?_) (fun hc2 => ?_)
  · simp only [jc, decide_eq_true_eq] at hc2
    have hlt : q < tm ∧ T q = c := by
      unfold rvt at hc2
      by_cases c1 : q < tm
      · rw [if_pos c1] at hc2
        exact ⟨c1, hc2⟩
      · rw [if_neg c1] at hc2
        omega
    iterate 2 refine mj_T.pl rfl rfl rfl rfl ?_
    refine rt_g s1 rfl rfl ?_
    refine mj_T.pl rfl rfl rfl rfl ?_
    refine mj_T.iadd (a := (q : Int)) (b := 1) rfl ?_
    rw [show (q : Int) + 1 = ((q + 1 : Nat) : Int) by omega]
    refine rt_p2 s1 rfl (fun h2 s2 => ?_)
    refine mj_T.pl rfl rfl rfl rfl ?_
    exact mj_T.ret rfl rfl rfl (Or.inl ⟨q + 1, h2, ⟨by unfold rtk; rw [hqd, if_pos hlt], by omega, by omega⟩, s2, rfl⟩)
  · simp only [jc, decide_eq_false_iff_not] at hc2
    refine mj_T.pl rfl rfl rfl rfl ?_
    refine mj_T.ret rfl rfl rfl (Or.inr ⟨h1, ?_, s1, rfl⟩)
    unfold rtk
    rw [hqd, if_neg]
    intro hn
    exact hc2 (by rw [show rvt T tm q = T q from if_pos hn.1]; exact hn.2)
theorem rt_num_loop (hB : bXt tx X0 tm T) (ht : tm ≤ 340) (hT : ∀ j : Nat, j < tm → 0 ≤ T j ∧ T j ≤ 255) {s0 : Nat} {Q : mj_R → Prop} : ∀ (m k : Nat) (h : mj_H), s0 + k + m = tm → rMt g n tx X0 Z Y t ((s0 + k : Nat) : Int) e h → (∀ (k2 : Nat) (h2 : mj_H) (l4 : Option Value), s0 + k2 = rdg T m (s0 + k) → rMt g n tx X0 Z Y t ((s0 + k2 : Nat) : Int) e h2 → mj_T (D + 1) mj_m54 78 [some (.ref 455), some (.int (jn (s0 : Int))), some (.long (jl (rvl T s0 k2))), none, l4] [] h2 Q) → mj_T (D + 1) mj_m54 10 [some (.ref 455), some (.int (jn (s0 : Int))), some (.long (jl (rvl T s0 k))), none, some (.int (jn (k : Int)))] [] h Q := by
  intro m
  induction m with
  | zero =>
    intro k h hk s hend
    have b := s.jBt hB
    iterate 2 refine mj_T.pl rfl rfl rfl rfl ?_
    refine rt_g s rfl rfl ?_
    refine mj_T.gfl rfl b.1 rfl ?_
    refine mj_T.icmp (a := (k : Int)) (b := (tm : Int)) rfl ⟨by omega, by omega⟩ ⟨by omega, by omega⟩ (fun _ => hend k h _ rfl s) (fun _ => ?_)
    refine mj_T.pl rfl rfl rfl rfl ?_
    refine rt_g s rfl rfl ?_
    refine mj_T.pl rfl rfl rfl rfl ?_
    refine rt_g s rfl rfl ?_
    refine rt_at s hB ht hT (by omega) rfl rfl (Nat.le_of_ble_eq_true rfl) ?_
    rw [show rvt T tm (s0 + k) = -1 from if_neg (by omega)]
    refine mj_T.call rfl rfl (Nat.le_of_ble_eq_true rfl) (Nat.le_of_ble_eq_true rfl) rfl rfl (rq_isDigit (D := D) (v := -1) ⟨by decide, by decide⟩) (fun v' h' hq' => ?_) (fun i h' hq' => by rcases hq' with ⟨_, h⟩ | ⟨_, h⟩ <;> cases h)
    rcases hq' with ⟨hd, _⟩ | ⟨_, hq'⟩
    · omega
    cases hq'
    refine mj_T.if0 (a := 0) rfl ⟨by decide, by decide⟩ (fun _ => hend k h _ rfl s) (fun hc2 => by simp [jc] at hc2)
  | succ m ih =>
    intro k h hk s hend
    have b := s.jBt hB
    have hTa := hT (s0 + k) (by omega)
    iterate 2 refine mj_T.pl rfl rfl rfl rfl ?_
    refine rt_g s rfl rfl ?_
    refine mj_T.gfl rfl b.1 rfl ?_
    refine mj_T.icmp (a := (k : Int)) (b := (tm : Int)) rfl ⟨by omega, by omega⟩ ⟨by omega, by omega⟩ (fun c => ?_) (fun _ => ?_)
    · have c := of_decide_eq_true c
      omega
    refine mj_T.pl rfl rfl rfl rfl ?_
    refine rt_g s rfl rfl ?_
    refine mj_T.pl rfl rfl rfl rfl ?_
    refine rt_g s rfl rfl ?_
    refine rt_at s hB ht hT (by omega) rfl rfl (Nat.le_of_ble_eq_true rfl) ?_
    rw [show rvt T tm (s0 + k) = T (s0 + k) from if_pos (by omega)]
    refine mj_T.call rfl rfl (Nat.le_of_ble_eq_true rfl) (Nat.le_of_ble_eq_true rfl) rfl rfl (rq_isDigit (D := D) (v := T (s0 + k)) ⟨by omega, by omega⟩) (fun v' h' hq' => ?_) (fun i h' hq' => by rcases hq' with ⟨_, h⟩ | ⟨_, h⟩ <;> cases h)
    rcases hq' with ⟨hd, hq'⟩ | ⟨hd, hq'⟩
    · cases hq'
      rw [show rdg T (m + 1) (s0 + k) = rdg T m (s0 + k + 1) from if_pos hd] at hend
      refine mj_T.if0 (a := 1) rfl ⟨by decide, by decide⟩ (fun hc2 => by simp [jc] at hc2) (fun _ => ?_)
      iterate 2 refine mj_T.pl rfl rfl rfl rfl ?_
      refine mj_T.eq (pc2 := 43) (st2 := [.long (jl 10), .long (jl (rvl T s0 k))]) ?_ rfl rfl rfl rfl
      refine mj_T.lmul rfl ?_
      refine mj_T.pl rfl rfl rfl rfl ?_
      refine rt_g s rfl rfl ?_
      refine mj_T.pl rfl rfl rfl rfl ?_
      refine rt_g s rfl rfl ?_
      refine rt_at s hB ht hT (by omega) rfl rfl (Nat.le_of_ble_eq_true rfl) ?_
      rw [show rvt T tm (s0 + k) = T (s0 + k) from if_pos (by omega)]
      refine mj_T.i2l rfl ⟨by omega, by omega⟩ ?_
      refine mj_T.ladd rfl ?_
      refine mj_T.pl rfl rfl rfl rfl ?_
      refine mj_T.lsub (b := 48) rfl ?_
      rw [show rvl T s0 k * 10 + T (s0 + k) - 48 = rvl T s0 (k + 1) by show _ = 10 * rvl T s0 k + T (s0 + k) - 48; omega]
      refine mj_T.pl (loc' := [some (.ref 455), some (.int (jn (s0 : Int))), some (.long (jl (rvl T s0 (k + 1)))), none, some (.int (jn (k : Int)))]) rfl rfl rfl rfl ?_
      iterate 2 refine mj_T.pl rfl rfl rfl rfl ?_
      refine rt_g s rfl rfl ?_
      refine mj_T.pl rfl rfl rfl rfl ?_
      refine mj_T.iadd (a := ((s0 + k : Nat) : Int)) (b := 1) rfl ?_
      rw [show ((s0 + k : Nat) : Int) + 1 = ((s0 + (k + 1) : Nat) : Int) by omega]
      refine rt_p2 s rfl (fun h1 s1 => ?_)
      refine mj_T.iinc (a := (k : Int)) rfl rfl ?_
      refine mj_T.eq (loc2 := [some (.ref 455), some (.int (jn (s0 : Int))), some (.long (jl (rvl T s0 (k + 1)))), none, some (.int (jn ((k + 1 : Nat) : Int)))]) ?_ rfl (by rw [show ((k + 1 : Nat) : Int) = (k : Int) + 1 by omega]; rfl) rfl rfl
      refine mj_T.pl rfl rfl rfl rfl ?_
      exact ih (k + 1) h1 (by omega) s1 hend
    · cases hq'
      rw [show rdg T (m + 1) (s0 + k) = s0 + k from if_neg hd] at hend
      refine mj_T.if0 (a := 0) rfl ⟨by decide, by decide⟩ (fun _ => hend k h _ rfl s) (fun hc2 => by simp [jc] at hc2)
theorem rt_number {p : Nat} (hB : bXt tx X0 tm T) (ht : tm ≤ 340) (hT : ∀ j : Nat, j < tm → 0 ≤ T j ∧ T j ≤ 255) (hp : p ≤ tm) (s : rMt g n tx X0 Z Y t (p : Int) (-1) h) : mj_Ok (D + 2) 54 [.ref 455] h (fun r => ∃ (k : Nat) (h2 : mj_H), rdgp T tm p = p + k ∧ p + k ≤ tm ∧ ((k ≤ 18 ∧ rMt g n tx X0 Z Y t ((p + k : Nat) : Int) (-1) h2 ∧ r = (.inl (some (.long (jl (rvl T p k)))), h2)) ∨ (18 < k ∧ rMt g n tx X0 Z Y t ((p + k : Nat) : Int) (p : Int) h2 ∧ r = (.inl (some (.long (jl 0))), h2)))) := by
  refine mj_Ok.of (M := mj_m54) (loc := [some (.ref 455), none, none, none, none]) rfl rfl rfl ?_
  refine mj_T.pl rfl rfl rfl rfl ?_
  refine rt_g s rfl rfl ?_
  refine mj_T.pl (loc' := [some (.ref 455), some (.int (jn (p : Int))), none, none, none]) rfl rfl rfl rfl ?_
  iterate 4 refine mj_T.pl rfl rfl rfl rfl ?_
  refine rt_num_loop (D := D) hB ht hT (tm - p) 0 h (by omega) s (fun k h2 l4 hk s2 => ?_)
  have hdl := rdg_le (T := T) (tm - p) (p + 0)
  rw [← hk] at hdl
  refine mj_T.pl rfl rfl rfl rfl ?_
  refine rt_g s2 rfl rfl ?_
  refine mj_T.pl rfl rfl rfl rfl ?_
  refine mj_T.isub (a := ((p + k : Nat) : Int)) (b := (p : Int)) rfl ?_
  rw [show ((p + k : Nat) : Int) - (p : Int) = (k : Int) by omega]
  refine mj_T.pl rfl rfl rfl rfl ?_
  refine mj_T.icmp (a := (k : Int)) (b := 18) rfl ⟨by omega, by omega⟩ ⟨by decide, by decide⟩ (fun c => ?_) (fun c => ?_)
  · have c := of_decide_eq_true c
    refine mj_T.pl rfl rfl rfl rfl ?_
    exact mj_T.ret rfl rfl rfl ⟨k, h2, hk.symm, by omega, Or.inl ⟨by omega, s2, rfl⟩⟩
  · have c := of_decide_eq_false c
    iterate 2 refine mj_T.pl rfl rfl rfl rfl ?_
    refine rt_p3 s2 rfl (fun h3 s3 => ?_)
    refine mj_T.pl rfl rfl rfl rfl ?_
    exact mj_T.ret rfl rfl rfl ⟨k, h3, hk.symm, by omega, Or.inr ⟨by omega, s3, rfl⟩⟩
end JRD2t
section JRE2t
variable {D tm n tx : Nat} {T : Nat → Int} {g h h' : mj_H} {a e t : Int} {X0 Y : Nat → Nat → Int} {Z : Nat → Prop}
/-- how a piece of the reading ends -/
def rQt (T : Nat → Int) (tm : Nat) (g : mj_H) (n tx : Nat) (X0 : Nat → Nat → Int) (Z : Nat → Prop) (a : Nat) (res : Bool × Nat) (V : Option Value → Prop) (U : (Nat → Nat → Int) → Int → Option Value → Prop) (r : mj_R) : Prop := ∃ (v : Option Value) (b : Nat) (h2 : mj_H) (Y2 : Nat → Nat → Int) (t2 : Int), r = (.inl v, h2) ∧ V v ∧ b ≤ tm ∧ ((res.1 = true ∧ b = res.2 ∧ a ≤ b ∧ rMt g n tx X0 Z Y2 t2 (b : Int) (-1) h2 ∧ U Y2 t2 v) ∨ (res.1 = false ∧ res.2 ≤ tm ∧ rMt g n tx X0 (fun _ => False) Y2 t2 (b : Int) (res.2 : Int) h2))
theorem rQt.le {a a' : Nat} {res : Bool × Nat} {V : Option Value → Prop} {U U' : (Nat → Nat → Int) → Int → Option Value → Prop} {r : mj_R} (q : rQt T tm g n tx X0 Z a' res V U r) (hl : a ≤ a') (hU : ∀ Y2 t2 v, U Y2 t2 v → U' Y2 t2 v) : rQt T tm g n tx X0 Z a res V U' r := by
  obtain ⟨v, b, h2, Y2, t2, q1, q2, q3, q4⟩ := q
  refine ⟨v, b, h2, Y2, t2, q1, q2, q3, ?_⟩
  rcases q4 with ⟨x1, x2, x3, x4, x5⟩ | x
  · exact Or.inl ⟨x1, x2, by omega, x4, hU _ _ _ x5⟩
  · exact Or.inr x
theorem rt_exponent {p : Nat} (hB : bXt tx X0 tm T) (ht : tm ≤ 340) (hT : ∀ j : Nat, j < tm → 0 ≤ T j ∧ T j ≤ 255) (hp : p ≤ tm) (s : rMt g n tx X0 Z Y t (p : Int) (-1) h) : mj_Ok (D + 3) 53 [.ref 455] h (rQt T tm g n tx X0 Z p (rnm T tm 12 p) rV (fun Y2 t2 v => Y2 = Y ∧ t2 = t ∧ ∃ z : Int, v = some (.int (jn z)) ∧ (0 ≤ z ∧ z ≤ 12) ∧ z = rnv T tm p)) := by
  refine mj_Ok.of (M := mj_m53) (loc := [some (.ref 455), none, none, none]) rfl rfl rfl ?_
  have hle := rskp_le (T := T) hp
  have hge := rskp_ge (T := T) (tm := tm) p
  refine mj_T.pl rfl rfl rfl rfl ?_
  refine mj_T.call rfl rfl (Nat.le_of_ble_eq_true rfl) (Nat.le_of_ble_eq_true rfl) (s.rv (by decide) rfl _) rfl (rt_skips (D := D) hB ht hT hp s) (fun v h1 hq => ?_) (fun i h1 hq => by obtain ⟨_, _, hq⟩ := hq; cases hq)
  obtain ⟨_, s1, hq⟩ := hq
  cases hq
  obtain ⟨q, hqd⟩ : ∃ q, rskp T tm p = q := ⟨_, rfl⟩
  have eV : rnv T tm p = rvl T q (rdgp T tm q - q) := by
    unfold rnv
    rw [hqd]
  have eN : rnm T tm 12 p = if (1 ≤ rdgp T tm q - q ∧ rdgp T tm q - q ≤ 18) ∧ rvl T q (rdgp T tm q - q) ≤ 12 then (true, rdgp T tm q) else (false, q) := by
    unfold rnm
    rw [hqd]
  rw [eN]
  rw [hqd] at s1 hle hge
  refine mj_T.pl rfl rfl rfl rfl ?_
  refine rt_g s1 rfl rfl ?_
  refine mj_T.pl (loc' := [some (.ref 455), some (.int (jn (q : Int))), none, none]) rfl rfl rfl rfl ?_
  refine mj_T.pl rfl rfl rfl rfl ?_
  refine rt_g s1 rfl rfl ?_
  refine mj_T.pl rfl rfl rfl rfl ?_
  refine rt_g s1 rfl rfl ?_
  refine rt_at (D := D + 1) s1 hB ht hT (by omega) rfl rfl (Nat.le_of_ble_eq_true rfl) ?_
  have hb := rvt_bd0 (tm := tm) hT q
  refine mj_T.call rfl rfl (Nat.le_of_ble_eq_true rfl) (Nat.le_of_ble_eq_true rfl) rfl rfl (rq_isDigit (D := D + 1) (v := rvt T tm q) ⟨by omega, by omega⟩) (fun v' h' hq' => ?_) (fun i h' hq' => by rcases hq' with ⟨_, h⟩ | ⟨_, h⟩ <;> cases h)
  rcases hq' with ⟨hd, hq'⟩ | ⟨hd, hq'⟩
  · cases hq'
    have hdig : q < tm ∧ 48 ≤ T q ∧ T q ≤ 57 := by
      unfold rvt at hd
      by_cases c : q < tm
      · rw [if_pos c] at hd
        exact ⟨c, hd⟩
      · rw [if_neg c] at hd
        omega
    refine mj_T.if0 (a := 1) rfl ⟨by decide, by decide⟩ (fun _ => ?_) (fun hc2 => by simp [jc] at hc2)
    refine mj_T.pl rfl rfl rfl rfl ?_
    refine mj_T.call rfl rfl (Nat.le_of_ble_eq_true rfl) (Nat.le_of_ble_eq_true rfl) (s1.rv (by decide) rfl _) rfl (rt_number (D := D) hB ht hT hle s1) (fun v h2 hq => ?_) (fun i h2 hq => by obtain ⟨_, _, _, _, ⟨_, _, hq⟩ | ⟨_, _, hq⟩⟩ := hq <;> cases hq)
    obtain ⟨k, h3, k1, k2, hq⟩ := hq
    have kp := (rdgp_pos k1).mpr hdig
    rw [k1, Nat.add_sub_cancel_left]
    have hin : ∀ j, q ≤ j → j < q + k → 48 ≤ T j ∧ T j ≤ 57 := fun j j1 j2 => rdg_in (T := T) (tm - q) q j j1 (by show j < rdgp T tm q; omega)
    have hbd := rvl_bd (T := T) (s := q) k hin
    rcases hq with ⟨k3, s3, hq⟩ | ⟨k3, s3, hq⟩
    · cases hq
      have hpw : 10 ^ k ≤ 10 ^ 18 := Nat.pow_le_pow_right (by decide) (by omega)
      have hj : jR (rvl T q k) := ⟨by omega, by omega⟩
      refine mj_T.pl (loc' := [some (.ref 455), some (.int (jn (q : Int))), some (.long (jl (rvl T q k))), none]) rfl rfl rfl rfl ?_
      refine mj_T.pl rfl rfl rfl rfl ?_
      refine mj_T.pl rfl rfl rfl rfl ?_
      refine mj_T.eq (st2 := [.long (jl 12), .long (jl (rvl T q k))]) ?_ rfl rfl rfl rfl
      refine mj_T.lif (a := rvl T q k) (b := 12) rfl rfl hj ⟨by decide, by decide⟩ (fun c => ?_) (fun c => ?_)
      · simp only [jc, decide_eq_true_eq] at c
        refine mj_T.pl rfl rfl rfl rfl ?_
        refine mj_T.l2i rfl ?_
        refine mj_T.ret rfl rfl rfl ⟨_, q + k, _, Y, t, rfl, ⟨rvl T q k, ⟨by omega, by omega⟩, rfl⟩, k2, Or.inl ?_⟩
        rw [if_pos ⟨⟨kp, k3⟩, c⟩]
        exact ⟨rfl, rfl, by omega, s3, rfl, rfl, _, rfl, ⟨hbd.1, c⟩, by rw [eV, k1, Nat.add_sub_cancel_left]⟩
      · simp only [jc, decide_eq_false_iff_not] at c
        iterate 2 refine mj_T.pl rfl rfl rfl rfl ?_
        refine rt_p3 s3 rfl (fun h4 s4 => ?_)
        refine mj_T.pl rfl rfl rfl rfl ?_
        refine mj_T.ret rfl rfl rfl ⟨_, q + k, h4, Y, t, rfl, ⟨-1, ⟨by decide, by decide⟩, rfl⟩, k2, Or.inr ?_⟩
        rw [if_neg (fun w => c w.2)]
        exact ⟨rfl, hle, s4.mono (fun c hc => hc.elim)⟩
    · cases hq
      refine mj_T.pl (loc' := [some (.ref 455), some (.int (jn (q : Int))), some (.long (jl 0)), none]) rfl rfl rfl rfl ?_
      refine mj_T.pl rfl rfl rfl rfl ?_
      refine mj_T.pl rfl rfl rfl rfl ?_
      refine mj_T.eq (st2 := [.long (jl 12), .long (jl 0)]) ?_ rfl rfl rfl rfl
      refine mj_T.lif (a := 0) (b := 12) rfl rfl ⟨by decide, by decide⟩ ⟨by decide, by decide⟩ (fun c => ?_) (fun c => by simp [jc] at c)
      refine mj_T.pl rfl rfl rfl rfl ?_
      refine mj_T.l2i rfl ?_
      refine mj_T.ret rfl rfl rfl ⟨_, q + k, _, Y, t, rfl, ⟨0, ⟨by decide, by decide⟩, rfl⟩, k2, Or.inr ?_⟩
      rw [if_neg (fun w => by omega)]
      exact ⟨rfl, hle, s3.mono (fun c hc => hc.elim)⟩
  · cases hq'
    obtain ⟨k, k1⟩ : ∃ k, rdgp T tm q = q + k := ⟨rdgp T tm q - q, by have w : q ≤ rdgp T tm q := rdg_ge (T := T) (tm - q) q; omega⟩
    have k0 : ¬ (1 ≤ k) := fun w => by
      have d := (rdgp_pos k1).mp w
      exact hd (by rw [show rvt T tm q = T q from if_pos d.1]; exact d.2)
    refine mj_T.if0 (a := 0) rfl ⟨by decide, by decide⟩ (fun hc2 => by simp [jc] at hc2) (fun _ => ?_)
    iterate 2 refine mj_T.pl rfl rfl rfl rfl ?_
    refine rt_g s1 rfl rfl ?_
    refine rt_p3 s1 rfl (fun h2 s2 => ?_)
    refine mj_T.pl rfl rfl rfl rfl ?_
    refine mj_T.ret rfl rfl rfl ⟨_, q, h2, Y, t, rfl, ⟨-1, ⟨by decide, by decide⟩, rfl⟩, hle, Or.inr ?_⟩
    rw [k1, Nat.add_sub_cancel_left, if_neg (fun w => k0 w.1.1)]
    exact ⟨rfl, hle, s2.mono (fun c hc => hc.elim)⟩
theorem rt_fin {a p : Nat} {l1 : Option Value} (hB : bXt tx X0 tm T) (ht : tm ≤ 340) (hT : ∀ j : Nat, j < tm → 0 ≤ T j ∧ T j ≤ 255) (hp : p ≤ tm) (hap : a ≤ p) (s : rMt g n tx X0 Z Y t (p : Int) (-1) h) : mj_T (D + 4) mj_m52 135 [some (.ref 455), l1] [] h (rQt T tm g n tx X0 Z a (rex T tm p) rV (UE T tm Y t p)) := by
  have hge := rskp_ge (T := T) (tm := tm) p
  have hle := rskp_le (T := T) hp
  refine mj_T.pl rfl rfl rfl rfl ?_
  refine rt_g s rfl rfl ?_
  refine mj_T.pl rfl rfl rfl rfl ?_
  refine mj_T.icmp (a := -1) (b := -1) rfl ⟨by decide, by decide⟩ ⟨by decide, by decide⟩ (fun c => absurd c (by decide)) (fun _ => ?_)
  iterate 2 refine mj_T.pl rfl rfl rfl rfl ?_
  refine mj_T.call rfl rfl (Nat.le_of_ble_eq_true rfl) (Nat.le_of_ble_eq_true rfl) (s.rv (by decide) rfl _) rfl (rt_takes (D := D + 1) (c := 94) ⟨by decide, by decide⟩ hB ht hT hp s) (fun v h1 hq => ?_) (fun i h1 hq => by rcases hq with ⟨_, _, _, _, hq⟩ | ⟨_, _, _, hq⟩ <;> cases hq)
  rcases hq with ⟨b, _, ⟨b1, b2, b3⟩, s1, hq⟩ | ⟨_, b1, s1, hq⟩
  · cases hq
    refine mj_T.if0 (a := 1) rfl ⟨by decide, by decide⟩ (fun hc2 => by simp [jc] at hc2) (fun _ => ?_)
    refine mj_T.pl rfl rfl rfl rfl ?_
    have er : rex T tm p = rnm T tm 12 b := by unfold rex; rw [b1]
    rw [er]
    refine mj_T.call rfl rfl (Nat.le_of_ble_eq_true rfl) (Nat.le_of_ble_eq_true rfl) (s1.rv (by decide) rfl _) rfl (rt_exponent (D := D + 1) hB ht hT b2 s1) (fun v h2 hq => ?_) (fun i h2 hq => by obtain ⟨_, _, _, _, _, hq, _⟩ := hq; cases hq)
    obtain ⟨v2, c, h3, Y3, t3, hq, hv, c1, c2⟩ := hq
    obtain ⟨z, hz, rfl⟩ := hv
    cases hq
    refine mj_T.pl rfl rfl rfl rfl ?_
    refine mj_T.ret rfl rfl rfl (rQt.le (a' := b) (U := fun Y2 t2 v => Y2 = Y ∧ t2 = t ∧ ∃ z : Int, v = some (.int (jn z)) ∧ (0 ≤ z ∧ z ≤ 12) ∧ z = rnv T tm b) ⟨_, c, _, Y3, t3, rfl, ⟨z, hz, rfl⟩, c1, c2⟩ (by omega) (fun Y2 t2 v hu => ?_))
    obtain ⟨u1, u2, z2, u3, u4, u5⟩ := hu
    exact ⟨u1, u2, z2, u3, ⟨by omega, u4.2⟩, Or.inr ⟨b, b1, u5, u4.1⟩⟩
  · cases hq
    refine mj_T.if0 (a := 0) rfl ⟨by decide, by decide⟩ (fun _ => ?_) (fun hc2 => by simp [jc] at hc2)
    have er : rex T tm p = (true, rskp T tm p) := by unfold rex; rw [b1]
    rw [er]
    refine mj_T.pl rfl rfl rfl rfl ?_
    exact mj_T.ret rfl rfl rfl ⟨_, rskp T tm p, h1, Y, t, rfl, ⟨-1, ⟨by decide, by decide⟩, rfl⟩, hle, Or.inl ⟨rfl, rfl, by omega, s1, rfl, rfl, -1, rfl, ⟨by decide, by decide⟩, Or.inl ⟨b1, rfl⟩⟩⟩
theorem rt_finE {a p x : Nat} {Z2 : Nat → Prop} {U : (Nat → Nat → Int) → Int → Option Value → Prop} {l1 : Option Value} (ht : tm ≤ 340) (hp : p ≤ tm) (hx : x ≤ tm) (s : rMt g n tx X0 Z Y t (p : Int) (x : Int) h) : mj_T (D + 4) mj_m52 135 [some (.ref 455), l1] [] h (rQt T tm g n tx X0 Z2 a (false, x) rV U) := by
  refine mj_T.pl rfl rfl rfl rfl ?_
  refine rt_g s rfl rfl ?_
  refine mj_T.pl rfl rfl rfl rfl ?_
  refine mj_T.icmp (a := (x : Int)) (b := -1) rfl ⟨by omega, by omega⟩ ⟨by decide, by decide⟩ (fun _ => ?_) (fun c => ?_)
  · refine mj_T.pl rfl rfl rfl rfl ?_
    exact mj_T.ret rfl rfl rfl ⟨_, p, h, Y, t, rfl, ⟨-1, ⟨by decide, by decide⟩, rfl⟩, hp, Or.inr ⟨rfl, hx, s.mono (fun c hc => hc.elim)⟩⟩
  · simp only [jc, Bool.not_eq_false', decide_eq_true_eq] at c
    omega
theorem rt_factor {d a f : Nat} {res : Bool × Nat} (hB : bXt tx X0 tm T) (ht : tm ≤ 340) (hT : ∀ j : Nat, j < tm → 0 ≤ T j ∧ T j ≤ 255) (hd : d ≤ 8) {E : Nat} (hE : 5 ≤ E) (htt : t = 0 ∨ t = 1)
    (ih : ∀ d', d = d' + 1 → ∀ (f p : Nat) (h : mj_H) (res : Bool × Nat) (Y : Nat → Nat → Int) (t : Int), (t = 0 ∨ t = 1) → p ≤ tm → rpr0 T tm f 3 d' p = some res → rMt g n tx X0 (zkS (8 - d')) Y t (p : Int) (-1) h → mj_Ok E 49 [.ref 455, .int (jn (8 - (d' : Int)))] h (rQt T tm g n tx X0 (zkP (8 - d')) p res rV0 (US d' Y t (zv0 T tm f 3 d' p none 1))))
    (ha : a ≤ tm) (hf : rpr0 T tm f 0 d a = some res) (s : rMt g n tx X0 (zkF (8 - d)) Y t (a : Int) (-1) h) : mj_Ok (E + 1) 52 [.ref 455, .int (jn (8 - (d : Int)))] h (rQt T tm g n tx X0 (zkG (8 - d)) a res rV (UF d Y t (zv0 T tm f 0 d a none 1))) := by
  obtain ⟨E0, rfl⟩ : ∃ E0, E = E0 + 5 := ⟨E - 5, by omega⟩
  have hge := rskp_ge (T := T) (tm := tm) a
  have hle := rskp_le (T := T) ha
  have hid := rskp_idem (T := T) ha
  obtain ⟨f, rfl⟩ : ∃ f0, f = f0 + 1 := by
    cases f with
    | zero => cases hf
    | succ f0 => exact ⟨f0, rfl⟩
  refine mj_Ok.of (M := mj_m52) (loc := [some (.ref 455), some (.int (jn (8 - (d : Int))))]) rfl rfl rfl ?_
  refine mj_T.pl rfl rfl rfl rfl ?_
  refine rt_g s rfl rfl ?_
  refine mj_T.call rfl rfl (Nat.le_of_ble_eq_true rfl) (Nat.le_of_ble_eq_true rfl) rfl rfl (mj_Ok.up (by omega) (rt_165 (D := 0) (Z' := zkG (8 - d)) s isRw.f (fun c hc => hc.symm))) (fun v h0 hq => ?_) (fun i h0 hq => by obtain ⟨_, _, hq⟩ := hq; cases hq)
  obtain ⟨_, s, hq⟩ := hq
  cases hq
  have y476 : ∀ w : Nat → Int, ∀ c, c ≤ 457 + (8 - d) ∨ (467 ≤ c ∧ c ≤ 467 + (8 - d)) → rwu (rwu Y 476 (fun _ => 0)) 476 w c = Y c := fun w c hc => by
    rw [rwu_ne _ _ (by omega), rwu_ne _ _ (by omega)]
  refine mj_T.pl rfl rfl rfl rfl ?_
  refine mj_T.call rfl rfl (Nat.le_of_ble_eq_true rfl) (Nat.le_of_ble_eq_true rfl) (s.rv (by decide) rfl _) rfl (mj_Ok.up (by omega) (rt_skips (D := 0) hB ht hT ha s)) (fun v h1 hq => ?_) (fun i h1 hq => by obtain ⟨_, _, hq⟩ := hq; cases hq)
  obtain ⟨_, s1, hq⟩ := hq
  cases hq
  obtain ⟨q, hqd⟩ : ∃ q, rskp T tm a = q := ⟨_, rfl⟩
  have eVal : zv0 T tm (f + 1) 0 d a none 1 = if q < tm ∧ T q = 120 then zvx T tm (some pz_x) (q + 1) else if q < tm ∧ T q = 40 then (match rpr0 T tm f 3 (d - 1) (q + 1) with | some (true, c) => (match rtk T tm 41 c with | some e => zvx T tm (zv0 T tm f 3 (d - 1) (q + 1) none 1) e | none => none) | _ => none) else zvx T tm (some (pz_k (rnv T tm a))) (rdgp T tm q) := by
    rw [← hqd]
    rfl
  have eNv : rnv T tm a = rvl T q (rdgp T tm q - q) := by
    unfold rnv
    rw [hqd]
  unfold rpr0 at hf
  rw [hqd] at s1 hle hge hid hf
  refine mj_T.pl rfl rfl rfl rfl ?_
  refine rt_g s1 rfl rfl ?_
  refine mj_T.pl rfl rfl rfl rfl ?_
  refine rt_g s1 rfl rfl ?_
  refine rt_at (D := E0 + 4) s1 hB ht hT (by omega) rfl rfl (Nat.le_of_ble_eq_true rfl) ?_
  have hb := rvt_bd0 (tm := tm) hT q
  refine mj_T.call rfl rfl (Nat.le_of_ble_eq_true rfl) (Nat.le_of_ble_eq_true rfl) rfl rfl (rq_isDigit (D := E0 + 4) (v := rvt T tm q) ⟨by omega, by omega⟩) (fun v' h' hq' => ?_) (fun i h' hq' => by rcases hq' with ⟨_, h⟩ | ⟨_, h⟩ <;> cases h)
  rcases hq' with ⟨hdg, hq'⟩ | ⟨hdg, hq'⟩
  · -- a number
    cases hq'
    have hdig : q < tm ∧ 48 ≤ T q ∧ T q ≤ 57 := by
      unfold rvt at hdg
      by_cases c : q < tm
      · rw [if_pos c] at hdg
        exact ⟨c, hdg⟩
      · rw [if_neg c] at hdg
        omega
    rw [if_neg (by omega), if_neg (by omega)] at hf
    have eN : rnm T tm 9223372036854775807 q = if (1 ≤ rdgp T tm q - q ∧ rdgp T tm q - q ≤ 18) ∧ rvl T q (rdgp T tm q - q) ≤ 9223372036854775807 then (true, rdgp T tm q) else (false, q) := by
      unfold rnm
      rw [hid]
    rw [eN] at hf
    refine mj_T.if0 (a := 1) rfl ⟨by decide, by decide⟩ (fun hc2 => by simp [jc] at hc2) (fun _ => ?_)
    refine mj_T.pl rfl rfl rfl rfl ?_
    refine rt_g s1 rfl rfl ?_
    iterate 2 refine mj_T.pl rfl rfl rfl rfl ?_
    refine mj_T.call rfl rfl (Nat.le_of_ble_eq_true rfl) (Nat.le_of_ble_eq_true rfl) (s1.rv (by decide) rfl _) rfl (mj_Ok.up (by omega) (rt_number (D := 0) hB ht hT hle s1)) (fun v h2 hq => ?_) (fun i h2 hq => by obtain ⟨_, _, _, _, ⟨_, _, hq⟩ | ⟨_, _, hq⟩⟩ := hq <;> cases hq)
    obtain ⟨k, h3, k1, k2, hq⟩ := hq
    have kp := (rdgp_pos k1).mpr hdig
    rw [k1, Nat.add_sub_cancel_left] at hf
    have hin : ∀ j, q ≤ j → j < q + k → 48 ≤ T j ∧ T j ≤ 57 := fun j j1 j2 => rdg_in (T := T) (tm - q) q j j1 (by show j < rdgp T tm q; omega)
    have hbd := rvl_bd (T := T) (s := q) k hin
    rcases hq with ⟨k3, s3, hq⟩ | ⟨k3, s3, hq⟩
    · cases hq
      have hpw : 10 ^ k ≤ 10 ^ 18 := Nat.pow_le_pow_right (by decide) (by omega)
      rw [if_pos ⟨⟨kp, k3⟩, by omega⟩] at hf
      cases hf
      refine rt_last (i := 0) s3 (Or.inr rfl) rfl ⟨by decide, by decide⟩ (by omega) (fun h4 s4 => ?_)
      refine mj_T.pl rfl rfl rfl rfl ?_
      refine mj_T.to (rt_fin hB ht hT k2 (by omega) s4) (fun r hr => hr.le (Nat.le_refl _) (fun Y2 t2 v hu => ?_))
      obtain ⟨rfl, rfl, z, u3, u4, u5⟩ := hu
      rw [eVal, if_neg (by omega), if_neg (by omega), eNv, k1, Nat.add_sub_cancel_left]
      refine ⟨z, _, u3, u4, zF_of u5, ⟨htt, Or.inl ⟨_, rfl, fit_k (by omega), rfl, fun j hj => ?_⟩⟩, y476 _⟩
      rw [rwu_at, rwu_at]
      rfl
    · cases hq
      rw [if_neg (fun w => by omega)] at hf
      cases hf
      refine rt_last (i := 0) s3 (Or.inr rfl) rfl ⟨by decide, by decide⟩ (by decide) (fun h4 s4 => ?_)
      refine mj_T.pl rfl rfl rfl rfl ?_
      exact rt_finE ht k2 hle s4
  · cases hq'
    refine mj_T.if0 (a := 0) rfl ⟨by decide, by decide⟩ (fun _ => ?_) (fun hc2 => by simp [jc] at hc2)
    have ndig : ¬ (q < tm ∧ 48 ≤ T q ∧ T q ≤ 57) := fun w => hdg (by rw [show rvt T tm q = T q from if_pos w.1]; exact w.2)
    iterate 2 refine mj_T.pl rfl rfl rfl rfl ?_
    refine mj_T.call rfl rfl (Nat.le_of_ble_eq_true rfl) (Nat.le_of_ble_eq_true rfl) (s1.rv (by decide) rfl _) rfl (mj_Ok.up (by omega) (rt_takes (D := 0) (c := 120) ⟨by decide, by decide⟩ hB ht hT hle s1)) (fun v h2 hq => ?_) (fun i h2 hq => by rcases hq with ⟨_, _, _, _, hq⟩ | ⟨_, _, _, hq⟩ <;> cases hq)
    rcases hq with ⟨b, _, ⟨b1, b2, b3⟩, s2, hq⟩ | ⟨_, b1, s2, hq⟩
    · -- the letter x
      cases hq
      unfold rtk at b1
      rw [hid] at b1
      by_cases c : q < tm ∧ T q = 120
      · rw [if_pos c] at b1
        cases b1
        rw [if_pos c] at hf
        cases hf
        refine mj_T.if0 (a := 1) rfl ⟨by decide, by decide⟩ (fun hc2 => by simp [jc] at hc2) (fun _ => ?_)
        refine mj_T.pl rfl rfl rfl rfl ?_
        refine rt_g s2 rfl rfl ?_
        refine mj_T.pl rfl rfl rfl rfl ?_
        refine jT.lc 1 rfl rfl ?_
        refine rt_last (i := 1) s2 (Or.inr rfl) rfl ⟨by decide, by decide⟩ (by decide) (fun h4 s4 => ?_)
        refine mj_T.pl rfl rfl rfl rfl ?_
        refine mj_T.to (rt_fin hB ht hT b2 (by omega) s4) (fun r hr => hr.le (Nat.le_refl _) (fun Y2 t2 v hu => ?_))
        obtain ⟨rfl, rfl, z, u3, u4, u5⟩ := hu
        rw [eVal, if_pos c]
        refine ⟨z, _, u3, u4, zF_of u5, ⟨htt, Or.inl ⟨_, rfl, fit_x, rfl, fun j hj => ?_⟩⟩, y476 _⟩
        rw [rwu_at, rwu_at]
        rfl
      · rw [if_neg c] at b1
        cases b1
    · cases hq
      rw [hid] at s2
      have nx : ¬ (q < tm ∧ T q = 120) := fun w => by
        unfold rtk at b1
        rw [hid, if_pos w] at b1
        cases b1
      rw [if_neg nx] at hf
      refine mj_T.if0 (a := 0) rfl ⟨by decide, by decide⟩ (fun _ => ?_) (fun hc2 => by simp [jc] at hc2)
      -- nothing fits: the error is here
      have bad : ∀ h2, rMt g n tx X0 (zkG (8 - d)) (rwu Y 476 (fun _ => 0)) t (q : Int) (-1) h2 → res = (false, q) → mj_T (E0 + 5) mj_m52 127 [some (.ref 455), some (.int (jn (8 - (d : Int))))] [] h2 (rQt T tm g n tx X0 (zkG (8 - d)) a res rV (UF d Y t (zv0 T tm (f + 1) 0 d a none 1))) := fun h2 s2 er => by
        subst er
        iterate 2 refine mj_T.pl rfl rfl rfl rfl ?_
        refine rt_g s2 rfl rfl ?_
        refine rt_p3 s2 rfl (fun h3 s3 => ?_)
        exact rt_finE ht hle hle s3
      have num : ¬ (q < tm ∧ T q = 40) → res = (false, q) := fun w => by
        rw [if_neg w] at hf
        obtain ⟨k, k1⟩ : ∃ k, rdgp T tm q = q + k := ⟨rdgp T tm q - q, by have w : q ≤ rdgp T tm q := rdg_ge (T := T) (tm - q) q; omega⟩
        have k0 : ¬ (1 ≤ k) := fun w => ndig ((rdgp_pos k1).mp w)
        have eN : rnm T tm 9223372036854775807 q = (false, q) := by
          unfold rnm
          rw [hid, k1, Nat.add_sub_cancel_left, if_neg (fun w => k0 w.1.1)]
        rw [eN] at hf
        cases hf
        rfl
      iterate 2 refine mj_T.pl rfl rfl rfl rfl ?_
      refine mj_T.icmp (a := 8 - (d : Int)) (b := 8) rfl ⟨by omega, by omega⟩ ⟨by decide, by decide⟩ (fun c => ?_) (fun c => ?_)
      · simp only [jc, decide_eq_true_eq] at c
        have d0 : d = 0 := by omega
        subst d0
        refine bad _ s2 ?_
        by_cases w : q < tm ∧ T q = 40
        · rw [if_pos w, if_pos rfl] at hf
          cases hf
          rfl
        · exact num w
      simp only [jc, decide_eq_false_iff_not] at c
      obtain ⟨d', rfl⟩ : ∃ d', d = d' + 1 := ⟨d - 1, by omega⟩
      iterate 2 refine mj_T.pl rfl rfl rfl rfl ?_
      refine mj_T.call rfl rfl (Nat.le_of_ble_eq_true rfl) (Nat.le_of_ble_eq_true rfl) (s2.rv (by decide) rfl _) rfl (mj_Ok.up (by omega) (rt_takes (D := 0) (c := 40) ⟨by decide, by decide⟩ hB ht hT hle s2)) (fun v h3 hq => ?_) (fun i h3 hq => by rcases hq with ⟨_, _, _, _, hq⟩ | ⟨_, _, _, hq⟩ <;> cases hq)
      rcases hq with ⟨b, _, ⟨b1, b2, b3⟩, s3, hq⟩ | ⟨_, b1, s3, hq⟩
      rotate_left
      · cases hq
        rw [hid] at s3
        have n40 : ¬ (q < tm ∧ T q = 40) := fun w => by
          unfold rtk at b1
          rw [hid, if_pos w] at b1
          cases b1
        refine mj_T.if0 (a := 0) rfl ⟨by decide, by decide⟩ (fun _ => ?_) (fun hc2 => by simp [jc] at hc2)
        exact bad _ s3 (num n40)
      -- a sum in parentheses
      cases hq
      unfold rtk at b1
      rw [hid] at b1
      by_cases w : q < tm ∧ T q = 40
      rotate_left
      · rw [if_neg w] at b1
        cases b1
      rw [if_pos w] at b1
      cases b1
      rw [if_pos w, if_neg (Nat.succ_ne_zero d')] at hf
      refine mj_T.if0 (a := 1) rfl ⟨by decide, by decide⟩ (fun hc2 => by simp [jc] at hc2) (fun _ => ?_)
      iterate 3 refine mj_T.pl rfl rfl rfl rfl ?_
      refine mj_T.iadd (a := 8 - ((d' + 1 : Nat) : Int)) (b := 1) rfl ?_
      rw [show 8 - ((d' + 1 : Nat) : Int) + 1 = 8 - (d' : Int) by omega]
      -- behind the sum: copy it, go on
      have t107 : ∀ (Y3 : Nat → Nat → Int) (t3 : Int) (b : Nat) (x : Int) (h4 : mj_H) (Z4 Z5 : Nat → Prop) (Y5 : Nat → Nat → Int), rMt g n tx X0 Z4 Y3 t3 (b : Int) x h4 → mj_Ok 1 164 [.ref (457 + (8 - d')), .ref 476] h4 (fun z => ∃ h5, rMt g n tx X0 Z5 Y5 t3 (b : Int) x h5 ∧ z = (.inl none, h5)) → (∀ h5, rMt g n tx X0 Z5 Y5 t3 (b : Int) x h5 → mj_T (E0 + 5) mj_m52 135 [some (.ref 455), some (.int (jn (8 - ((d' + 1 : Nat) : Int))))] [] h5 (rQt T tm g n tx X0 (zkG (8 - (d' + 1))) a res rV (UF (d' + 1) Y t (zv0 T tm (f + 1) 0 (d' + 1) a none 1)))) → mj_T (E0 + 5) mj_m52 107 [some (.ref 455), some (.int (jn (8 - ((d' + 1 : Nat) : Int))))] [] h4 (rQt T tm g n tx X0 (zkG (8 - (d' + 1))) a res rV (UF (d' + 1) Y t (zv0 T tm (f + 1) 0 (d' + 1) a none 1))) := fun Y3 t3 b x h4 Z4 Z5 Y5 s4 k164 k => by
        refine mj_T.pl rfl rfl rfl rfl ?_
        refine rt_g s4 rfl rfl ?_
        iterate 2 refine mj_T.pl rfl rfl rfl rfl ?_
        refine mj_T.iadd (a := 8 - ((d' + 1 : Nat) : Int)) (b := 1) rfl ?_
        rw [show 8 - ((d' + 1 : Nat) : Int) + 1 = ((8 - d' : Nat) : Int) by omega]
        refine mj_T.call rfl rfl (Nat.le_of_ble_eq_true rfl) (Nat.le_of_ble_eq_true rfl) rfl rfl (mj_Ok.up (by omega) (rt_48 (D := 0) (b := 456) (k := 8 - d') s4 (Or.inl rfl) (by omega))) (fun v h5 hq => ?_) (fun i h5 hq => by cases hq)
        cases hq
        refine mj_T.eq (st2 := [.ref (457 + (8 - d'))]) ?_ rfl rfl rfl rfl
        refine mj_T.pl rfl rfl rfl rfl ?_
        refine rt_g s4 rfl rfl ?_
        refine mj_T.call rfl rfl (Nat.le_of_ble_eq_true rfl) (Nat.le_of_ble_eq_true rfl) rfl rfl (mj_Ok.up (by omega) k164) (fun v h5 hq => ?_) (fun i h5 hq => by obtain ⟨_, _, hq⟩ := hq; cases hq)
        obtain ⟨_, s5, hq⟩ := hq
        cases hq
        refine mj_T.pl rfl rfl rfl rfl ?_
        exact k _ s5
      cases hsum : rpr0 T tm f 3 d' (q + 1) with
      | none =>
        rw [show d' + 1 - 1 = d' from rfl, hsum] at hf
        cases hf
      | some rs =>
        rw [show d' + 1 - 1 = d' from rfl, hsum] at hf
        refine mj_T.call rfl rfl (Nat.le_of_ble_eq_true rfl) (Nat.le_of_ble_eq_true rfl) (s3.rv (by decide) rfl _) rfl (ih d' rfl f (q + 1) h3 rs _ t htt b2 hsum (s3.mono (fun c hc => by unfold zkS at hc; unfold zkG zkF; omega))) (fun v h4 hq => ?_) (fun i h4 hq => by obtain ⟨_, _, _, _, _, hq, _⟩ := hq; cases hq)
        obtain ⟨v2, c2, h5, Y3, t3, hq, hv, c3, c4⟩ := hq
        cases hv
        cases hq
        obtain ⟨ok, x⟩ := rs
        rcases c4 with ⟨e1, e2, e3, s4, hU⟩ | ⟨e1, e2, s4⟩
        · have e1 : ok = true := e1
          have e2 : c2 = x := e2
          subst e1 e2
          simp only at hf
          refine mj_T.pl rfl rfl rfl rfl ?_
          refine rt_g s4 rfl rfl ?_
          refine mj_T.pl rfl rfl rfl rfl ?_
          refine mj_T.icmp (a := -1) (b := -1) rfl ⟨by decide, by decide⟩ ⟨by decide, by decide⟩ (fun c => absurd c (by decide)) (fun _ => ?_)
          iterate 2 refine mj_T.pl rfl rfl rfl rfl ?_
          refine mj_T.call rfl rfl (Nat.le_of_ble_eq_true rfl) (Nat.le_of_ble_eq_true rfl) (s4.rv (by decide) rfl _) rfl (mj_Ok.up (by omega) (rt_takes (D := 0) (c := 41) ⟨by decide, by decide⟩ hB ht hT c3 s4)) (fun v h6 hq => ?_) (fun i h6 hq => by rcases hq with ⟨_, _, _, _, hq⟩ | ⟨_, _, _, hq⟩ <;> cases hq)
          rcases hq with ⟨b6, _, ⟨g1, g2, g3⟩, s6, hq⟩ | ⟨_, g1, s6, hq⟩
          · cases hq
            rw [g1] at hf
            cases hf
            refine mj_T.if0 (a := 1) rfl ⟨by decide, by decide⟩ (fun _ => ?_) (fun hc2 => by simp [jc] at hc2)
            refine t107 Y3 t3 b6 (-1) h6 _ _ _ s6 (rt_164 (D := 0) (Z' := zkG (8 - (d' + 1))) s6 (show zkP (8 - d') (457 + (8 - d')) from Or.inl ⟨by omega, by omega⟩) isRw.f (fun c hc => by unfold zkG zkF at hc; unfold zkP; omega)) (fun h7 s7 => mj_T.to (rt_fin hB ht hT g2 (by omega) s7) (fun r hr => hr.le (Nat.le_refl _) (fun Y2 t2 v hu => ?_)))
            obtain ⟨rfl, rfl, z, u3, u4, u5⟩ := hu
            have hc9 : ¬ (q < tm ∧ T q = 120) := by omega
            rw [eVal, if_neg hc9, if_pos w, show d' + 1 - 1 = d' from rfl, hsum]
            show UF (d' + 1) Y t (match rtk T tm 41 c2 with | some e => zvx T tm (zv0 T tm f 3 d' (q + 1) none 1) e | none => none) _ _ _
            rw [g1]
            refine ⟨z, _, u3, u4, zF_of u5, ?_, fun c hc => ?_⟩
            · rw [rwu_at]
              exact hU.1
            · rw [rwu_ne _ _ (by omega), hU.2 c (by omega), rwu_ne _ _ (by omega)]
          · cases hq
            rw [g1] at hf
            cases hf
            have hl6 := rskp_le (T := T) c3
            refine mj_T.if0 (a := 0) rfl ⟨by decide, by decide⟩ (fun hc2 => by simp [jc] at hc2) (fun _ => ?_)
            iterate 2 refine mj_T.pl rfl rfl rfl rfl ?_
            refine rt_g s6 rfl rfl ?_
            refine rt_p3 s6 rfl (fun h7 s7 => ?_)
            exact t107 _ _ _ _ h7 _ _ _ s7 (rt_164l (D := 0) s7 (isRw.s (by omega)) isRw.f) (fun h8 s8 => rt_finE ht hl6 hl6 s8)
        · have e1 : ok = false := e1
          subst e1
          simp only at hf e2 s4
          cases hf
          refine mj_T.pl rfl rfl rfl rfl ?_
          refine rt_g s4 rfl rfl ?_
          refine mj_T.pl rfl rfl rfl rfl ?_
          refine mj_T.icmp (a := (x : Int)) (b := -1) rfl ⟨by omega, by omega⟩ ⟨by decide, by decide⟩ (fun _ => ?_) (fun c => ?_)
          · exact t107 _ _ c2 (x : Int) h4 _ _ _ s4 (rt_164l (D := 0) s4 (isRw.s (by omega)) isRw.f) (fun h7 s7 => rt_finE ht c3 e2 s7)
          · simp only [jc, Bool.not_eq_false', decide_eq_true_eq] at c
            omega
end JRE2t
