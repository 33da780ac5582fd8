/-! The class's reader over the memory: blanks, signs, numbers. -/
section JRD2
variable {D tm n : Nat} {T : Nat → Int} {g h h' : mj_H} {a e t : Int} {X0 Y : Nat → Nat → Int} {Z : Nat → Prop}
variable {pc : Nat} {M : mj_M} {loc : mj_L} {st : List Value} {Q : mj_R → Prop} {r1 r2 r3 r4 r5 : Nat}
theorem rm_at {p : Nat} {m : Nat} (s : rM g n X0 Z Y t (p : Int) e h) (hB : bX X0 tm T) (ht : tm ≤ 200) (hT : ∀ j : Nat, j < tm → 1 ≤ T j ∧ T j ≤ 255) (hp : p ≤ 200) (hc : M.2.2.2.2.1 pc = some (.invokevirtual m, 79, 2, r3, r4, 7)) (hk : mj_kind (.invokevirtual m) r3 = 3) (hcat : mj_cat st ≤ 8) (k : mj_T (D + 1) M (pc + 3) loc (.int (jn (rvt T tm p)) :: st) h Q) : mj_T (D + 1) M pc loc (.int (jn (p : Int)) :: .ref 13 :: st) h Q := by
  have b := s.jBuf hB
  refine mj_T.call hc hk (Nat.le_add_left _ _) hcat (by simp [mj_recv, b.1]) rfl (rq_at (D := D) b ht hT ⟨by omega, by omega⟩) (fun v h' hq => ?_) (fun i h' hq => by cases hq)
  cases hq
  have e : (if 0 ≤ (p : Int) ∧ (p : Int) < (tm : Int) then T (p : Int).toNat else -1) = rvt T tm p := by
    unfold rvt
    rw [Int.toNat_natCast]
    by_cases c : p < tm
    · rw [if_pos c, if_pos ⟨by omega, by omega⟩]
    · rw [if_neg c, if_neg (by omega)]
  rw [e]
  exact k
theorem rm_skips_loop (hB : bX X0 tm T) (ht : tm ≤ 200) (hT : ∀ j : Nat, j < tm → 1 ≤ T j ∧ T j ≤ 255) {Q : mj_R → Prop} : ∀ (m p i : Nat) (h : mj_H), p + m = tm → i ≤ p → rM g n X0 Z Y t (p : Int) e h → (∀ h2, rM g n X0 Z Y t (rsk T m p : Nat) e h2 → Q (.inl none, h2)) → mj_T (D + 1) mj_m56 2 [some (.ref 455), some (.int (jn (i : Int)))] [] h Q := by
  intro m
  induction m with
  | zero =>
    intro p i h hp hi s hend
    have b := s.jBuf hB
    iterate 2 refine mj_T.pl rfl rfl rfl rfl ?_
    refine rm_g s rfl rfl ?_
    refine mj_T.gfl rfl b.1 rfl ?_
    refine mj_T.icmp (a := (i : Int)) (b := (tm : Int)) rfl ⟨by omega, by omega⟩ ⟨by omega, by omega⟩ (fun _ => mj_T.ret rfl rfl rfl (hend h s)) (fun _ => ?_)
    refine mj_T.pl rfl rfl rfl rfl ?_
    refine rm_g s rfl rfl ?_
    refine mj_T.pl rfl rfl rfl rfl ?_
    refine rm_g s rfl rfl ?_
    refine rm_at s hB ht hT (by omega) rfl rfl (Nat.le_of_ble_eq_true rfl) ?_
    rw [show rvt T tm p = -1 from if_neg (by omega)]
    refine mj_T.pl rfl rfl rfl rfl ?_
    refine mj_T.icmp (a := -1) (b := 32) rfl ⟨by decide, by decide⟩ ⟨by decide, by decide⟩ (fun _ => mj_T.ret rfl rfl rfl (hend h s)) (fun c => absurd c (by decide))
  | succ m ih =>
    intro p i h hp hi s hend
    have b := s.jBuf hB
    have hTp := hT p (by omega)
    iterate 2 refine mj_T.pl rfl rfl rfl rfl ?_
    refine rm_g s rfl rfl ?_
    refine mj_T.gfl rfl b.1 rfl ?_
    refine mj_T.icmp (a := (i : Int)) (b := (tm : Int)) rfl ⟨by omega, by omega⟩ ⟨by omega, by omega⟩ (fun c => ?_) (fun _ => ?_)
    · have c := of_decide_eq_true c
      omega
    refine mj_T.pl rfl rfl rfl rfl ?_
    refine rm_g s rfl rfl ?_
    refine mj_T.pl rfl rfl rfl rfl ?_
    refine rm_g s rfl rfl ?_
    refine rm_at s hB ht hT (by omega) rfl rfl (Nat.le_of_ble_eq_true rfl) ?_
    rw [show rvt T tm p = T p from if_pos (by omega)]
    refine mj_T.pl rfl rfl rfl rfl ?_
    refine mj_T.icmp (a := T p) (b := 32) rfl ⟨by omega, by omega⟩ ⟨by decide, by decide⟩ (fun c => ?_) (fun c => ?_)
    · simp only [jc, Bool.not_eq_true', decide_eq_false_iff_not] at c
      rw [show rsk T (m + 1) p = p from if_neg c] at hend
      exact mj_T.ret rfl rfl rfl (hend h s)
    · simp only [jc, Bool.not_eq_false', decide_eq_true_eq] at c
      rw [show rsk T (m + 1) p = rsk T m (p + 1) from if_pos c] at hend
      iterate 2 refine mj_T.pl rfl rfl rfl rfl ?_
      refine rm_g s rfl rfl ?_
      refine mj_T.pl rfl rfl rfl rfl ?_
      refine mj_T.iadd (a := (p : Int)) (b := 1) rfl ?_
      rw [show (p : Int) + 1 = ((p + 1 : Nat) : Int) by omega]
      refine rm_p2 s rfl (fun h1 s1 => ?_)
      refine mj_T.iinc (a := (i : Int)) rfl rfl ?_
      refine mj_T.eq (loc2 := [some (.ref 455), some (.int (jn ((i + 1 : Nat) : Int)))]) ?_ rfl (by rw [show ((i + 1 : Nat) : Int) = (i : Int) + 1 by omega]; rfl) rfl rfl
      refine mj_T.pl rfl rfl rfl rfl ?_
      exact ih (p + 1) (i + 1) h1 (by omega) (by omega) s1 hend
theorem rm_skips {p : Nat} (hB : bX X0 tm T) (ht : tm ≤ 200) (hT : ∀ j : Nat, j < tm → 1 ≤ T j ∧ T j ≤ 255) (hp : p ≤ tm) (s : rM g n X0 Z Y t (p : Int) e h) : mj_Ok (D + 2) 56 [.ref 455] h (fun r => ∃ h2, rM g n X0 Z Y t (rskp T tm p : Nat) e h2 ∧ r = (.inl none, h2)) := by
  refine mj_Ok.of (M := mj_m56) (loc := [some (.ref 455), none]) rfl rfl rfl ?_
  iterate 2 refine mj_T.pl rfl rfl rfl rfl ?_
  refine rm_skips_loop (D := D) hB ht hT (tm - p) p 0 h (by omega) (Nat.zero_le _) s (fun h2 s2 => ⟨h2, s2, rfl⟩)
theorem rm_takes {p : Nat} {c : Int} (hc : 1 ≤ c ∧ c ≤ 255) (hB : bX X0 tm T) (ht : tm ≤ 200) (hT : ∀ j : Nat, j < tm → 1 ≤ T j ∧ T j ≤ 255) (hp : p ≤ tm) (s : rM g n X0 Z Y t (p : Int) e h) : mj_Ok (D + 3) 57 [.ref 455, .int (jn c)] h (fun r => (∃ (b : Nat) (h2 : mj_H), (rtk T tm c p = some b ∧ b ≤ tm ∧ p < b) ∧ rM g n X0 Z Y t (b : Int) e h2 ∧ r = (.inl (some (.int (jn 1))), h2)) ∨ (∃ h2, rtk T tm c p = none ∧ rM g n X0 Z Y t (rskp T tm p : Nat) e h2 ∧ r = (.inl (some (.int (jn 0))), h2))) := by
  refine mj_Ok.of (M := mj_m57) (loc := [some (.ref 455), some (.int (jn c))]) rfl rfl rfl ?_
  have hle := rskp_le (T := T) hp
  have hge := rskp_ge (T := T) (tm := tm) p
  refine mj_T.pl rfl rfl rfl rfl ?_
  refine mj_T.call rfl rfl (Nat.le_of_ble_eq_true rfl) (Nat.le_of_ble_eq_true rfl) (s.rv (by decide) rfl _) rfl (rm_skips (D := D) hB ht hT hp s) (fun v h1 hq => ?_) (fun i h1 hq => by obtain ⟨_, _, hq⟩ := hq; cases hq)
  obtain ⟨_, s1, hq⟩ := hq
  cases hq
  obtain ⟨q, hqd⟩ : ∃ q, rskp T tm p = q := ⟨_, rfl⟩
  rw [hqd] at s1 hle hge ⊢
  refine mj_T.pl rfl rfl rfl rfl ?_
  refine rm_g s1 rfl rfl ?_
  refine mj_T.pl rfl rfl rfl rfl ?_
  refine rm_g s1 rfl rfl ?_
  refine rm_at s1 hB ht hT (by omega) rfl rfl (Nat.le_of_ble_eq_true rfl) ?_
  have hb := rvt_bd (tm := tm) hT q
  refine mj_T.pl rfl rfl rfl rfl ?_
  refine mj_T.icmp (a := rvt T tm q) (b := c) rfl ⟨by omega, by omega⟩ ⟨by omega, by omega⟩ (fun hc2 => ?_) (fun hc2 => ?_)
  · simp only [jc, decide_eq_true_eq] at hc2
    have hlt : q < tm ∧ T q = c := by
      unfold rvt at hc2
      by_cases c1 : q < tm
      · rw [if_pos c1] at hc2
        exact ⟨c1, hc2⟩
      · rw [if_neg c1] at hc2
        omega
    iterate 2 refine mj_T.pl rfl rfl rfl rfl ?_
    refine rm_g s1 rfl rfl ?_
    refine mj_T.pl rfl rfl rfl rfl ?_
    refine mj_T.iadd (a := (q : Int)) (b := 1) rfl ?_
    rw [show (q : Int) + 1 = ((q + 1 : Nat) : Int) by omega]
    refine rm_p2 s1 rfl (fun h2 s2 => ?_)
    refine mj_T.pl rfl rfl rfl rfl ?_
    exact mj_T.ret rfl rfl rfl (Or.inl ⟨q + 1, h2, ⟨by unfold rtk; rw [hqd, if_pos hlt], by omega, by omega⟩, s2, rfl⟩)
  · simp only [jc, decide_eq_false_iff_not] at hc2
    refine mj_T.pl rfl rfl rfl rfl ?_
    refine mj_T.ret rfl rfl rfl (Or.inr ⟨h1, ?_, s1, rfl⟩)
    unfold rtk
    rw [hqd, if_neg]
    intro hn
    exact hc2 (by rw [show rvt T tm q = T q from if_pos hn.1]; exact hn.2)
theorem rm_num_loop (hB : bX X0 tm T) (ht : tm ≤ 200) (hT : ∀ j : Nat, j < tm → 1 ≤ T j ∧ T j ≤ 255) {s0 : Nat} {Q : mj_R → Prop} : ∀ (m k : Nat) (h : mj_H), s0 + k + m = tm → rM g n X0 Z Y t ((s0 + k : Nat) : Int) e h → (∀ (k2 : Nat) (h2 : mj_H) (l4 : Option Value), s0 + k2 = rdg T m (s0 + k) → rM g n X0 Z Y t ((s0 + k2 : Nat) : Int) e h2 → mj_T (D + 1) mj_m54 78 [some (.ref 455), some (.int (jn (s0 : Int))), some (.long (jl (rvl T s0 k2))), none, l4] [] h2 Q) → mj_T (D + 1) mj_m54 10 [some (.ref 455), some (.int (jn (s0 : Int))), some (.long (jl (rvl T s0 k))), none, some (.int (jn (k : Int)))] [] h Q := by
  intro m
  induction m with
  | zero =>
    intro k h hk s hend
    have b := s.jBuf hB
    iterate 2 refine mj_T.pl rfl rfl rfl rfl ?_
    refine rm_g s rfl rfl ?_
    refine mj_T.gfl rfl b.1 rfl ?_
    refine mj_T.icmp (a := (k : Int)) (b := (tm : Int)) rfl ⟨by omega, by omega⟩ ⟨by omega, by omega⟩ (fun _ => hend k h _ rfl s) (fun _ => ?_)
    refine mj_T.pl rfl rfl rfl rfl ?_
    refine rm_g s rfl rfl ?_
    refine mj_T.pl rfl rfl rfl rfl ?_
    refine rm_g s rfl rfl ?_
    refine rm_at s hB ht hT (by omega) rfl rfl (Nat.le_of_ble_eq_true rfl) ?_
    rw [show rvt T tm (s0 + k) = -1 from if_neg (by omega)]
    refine mj_T.call rfl rfl (Nat.le_of_ble_eq_true rfl) (Nat.le_of_ble_eq_true rfl) rfl rfl (rq_isDigit (D := D) (v := -1) ⟨by decide, by decide⟩) (fun v' h' hq' => ?_) (fun i h' hq' => by rcases hq' with ⟨_, h⟩ | ⟨_, h⟩ <;> cases h)
    rcases hq' with ⟨hd, _⟩ | ⟨_, hq'⟩
    · omega
    cases hq'
    refine mj_T.if0 (a := 0) rfl ⟨by decide, by decide⟩ (fun _ => hend k h _ rfl s) (fun hc2 => by simp [jc] at hc2)
  | succ m ih =>
    intro k h hk s hend
    have b := s.jBuf hB
    have hTa := hT (s0 + k) (by omega)
    iterate 2 refine mj_T.pl rfl rfl rfl rfl ?_
    refine rm_g s rfl rfl ?_
    refine mj_T.gfl rfl b.1 rfl ?_
    refine mj_T.icmp (a := (k : Int)) (b := (tm : Int)) rfl ⟨by omega, by omega⟩ ⟨by omega, by omega⟩ (fun c => ?_) (fun _ => ?_)
    · have c := of_decide_eq_true c
      omega
    refine mj_T.pl rfl rfl rfl rfl ?_
    refine rm_g s rfl rfl ?_
    refine mj_T.pl rfl rfl rfl rfl ?_
    refine rm_g s rfl rfl ?_
    refine rm_at s hB ht hT (by omega) rfl rfl (Nat.le_of_ble_eq_true rfl) ?_
    rw [show rvt T tm (s0 + k) = T (s0 + k) from if_pos (by omega)]
    refine mj_T.call rfl rfl (Nat.le_of_ble_eq_true rfl) (Nat.le_of_ble_eq_true rfl) rfl rfl (rq_isDigit (D := D) (v := T (s0 + k)) ⟨by omega, by omega⟩) (fun v' h' hq' => ?_) (fun i h' hq' => by rcases hq' with ⟨_, h⟩ | ⟨_, h⟩ <;> cases h)
    rcases hq' with ⟨hd, hq'⟩ | ⟨hd, hq'⟩
    · cases hq'
      rw [show rdg T (m + 1) (s0 + k) = rdg T m (s0 + k + 1) from if_pos hd] at hend
      refine mj_T.if0 (a := 1) rfl ⟨by decide, by decide⟩ (fun hc2 => by simp [jc] at hc2) (fun _ => ?_)
      iterate 2 refine mj_T.pl rfl rfl rfl rfl ?_
      refine mj_T.eq (pc2 := 43) (st2 := [.long (jl 10), .long (jl (rvl T s0 k))]) ?_ rfl rfl rfl rfl
      refine mj_T.lmul rfl ?_
      refine mj_T.pl rfl rfl rfl rfl ?_
      refine rm_g s rfl rfl ?_
      refine mj_T.pl rfl rfl rfl rfl ?_
      refine rm_g s rfl rfl ?_
      refine rm_at s hB ht hT (by omega) rfl rfl (Nat.le_of_ble_eq_true rfl) ?_
      rw [show rvt T tm (s0 + k) = T (s0 + k) from if_pos (by omega)]
      refine mj_T.i2l rfl ⟨by omega, by omega⟩ ?_
      refine mj_T.ladd rfl ?_
      refine mj_T.pl rfl rfl rfl rfl ?_
      refine mj_T.lsub (b := 48) rfl ?_
      rw [show rvl T s0 k * 10 + T (s0 + k) - 48 = rvl T s0 (k + 1) by show _ = 10 * rvl T s0 k + T (s0 + k) - 48; omega]
      refine mj_T.pl (loc' := [some (.ref 455), some (.int (jn (s0 : Int))), some (.long (jl (rvl T s0 (k + 1)))), none, some (.int (jn (k : Int)))]) rfl rfl rfl rfl ?_
      iterate 2 refine mj_T.pl rfl rfl rfl rfl ?_
      refine rm_g s rfl rfl ?_
      refine mj_T.pl rfl rfl rfl rfl ?_
      refine mj_T.iadd (a := ((s0 + k : Nat) : Int)) (b := 1) rfl ?_
      rw [show ((s0 + k : Nat) : Int) + 1 = ((s0 + (k + 1) : Nat) : Int) by omega]
      refine rm_p2 s rfl (fun h1 s1 => ?_)
      refine mj_T.iinc (a := (k : Int)) rfl rfl ?_
      refine mj_T.eq (loc2 := [some (.ref 455), some (.int (jn (s0 : Int))), some (.long (jl (rvl T s0 (k + 1)))), none, some (.int (jn ((k + 1 : Nat) : Int)))]) ?_ rfl (by rw [show ((k + 1 : Nat) : Int) = (k : Int) + 1 by omega]; rfl) rfl rfl
      refine mj_T.pl rfl rfl rfl rfl ?_
      exact ih (k + 1) h1 (by omega) s1 hend
    · cases hq'
      rw [show rdg T (m + 1) (s0 + k) = s0 + k from if_neg hd] at hend
      refine mj_T.if0 (a := 0) rfl ⟨by decide, by decide⟩ (fun _ => hend k h _ rfl s) (fun hc2 => by simp [jc] at hc2)
theorem rm_number {p : Nat} (hB : bX X0 tm T) (ht : tm ≤ 200) (hT : ∀ j : Nat, j < tm → 1 ≤ T j ∧ T j ≤ 255) (hp : p ≤ tm) (s : rM g n X0 Z Y t (p : Int) (-1) h) : mj_Ok (D + 2) 54 [.ref 455] h (fun r => ∃ (k : Nat) (h2 : mj_H), rdgp T tm p = p + k ∧ p + k ≤ tm ∧ ((k ≤ 18 ∧ rM g n X0 Z Y t ((p + k : Nat) : Int) (-1) h2 ∧ r = (.inl (some (.long (jl (rvl T p k)))), h2)) ∨ (18 < k ∧ rM g n X0 Z Y t ((p + k : Nat) : Int) (p : Int) h2 ∧ r = (.inl (some (.long (jl 0))), h2)))) := by
  refine mj_Ok.of (M := mj_m54) (loc := [some (.ref 455), none, none, none, none]) rfl rfl rfl ?_
  refine mj_T.pl rfl rfl rfl rfl ?_
  refine rm_g s rfl rfl ?_
  refine mj_T.pl (loc' := [some (.ref 455), some (.int (jn (p : Int))), none, none, none]) rfl rfl rfl rfl ?_
  iterate 4 refine mj_T.pl rfl rfl rfl rfl ?_
  refine rm_num_loop (D := D) hB ht hT (tm - p) 0 h (by omega) s (fun k h2 l4 hk s2 => ?_)
  have hdl := rdg_le (T := T) (tm - p) (p + 0)
  rw [← hk] at hdl
  refine mj_T.pl rfl rfl rfl rfl ?_
  refine rm_g s2 rfl rfl ?_
  refine mj_T.pl rfl rfl rfl rfl ?_
  refine mj_T.isub (a := ((p + k : Nat) : Int)) (b := (p : Int)) rfl ?_
  rw [show ((p + k : Nat) : Int) - (p : Int) = (k : Int) by omega]
  refine mj_T.pl rfl rfl rfl rfl ?_
  refine mj_T.icmp (a := (k : Int)) (b := 18) rfl ⟨by omega, by omega⟩ ⟨by decide, by decide⟩ (fun c => ?_) (fun c => ?_)
  · have c := of_decide_eq_true c
    refine mj_T.pl rfl rfl rfl rfl ?_
    exact mj_T.ret rfl rfl rfl ⟨k, h2, hk.symm, by omega, Or.inl ⟨by omega, s2, rfl⟩⟩
  · have c := of_decide_eq_false c
    iterate 2 refine mj_T.pl rfl rfl rfl rfl ?_
    refine rm_p3 s2 rfl (fun h3 s3 => ?_)
    refine mj_T.pl rfl rfl rfl rfl ?_
    exact mj_T.ret rfl rfl rfl ⟨k, h3, hk.symm, by omega, Or.inr ⟨by omega, s3, rfl⟩⟩
end JRD2
