/-! The law's run from its entry to its end, on every script. -/
theorem jZ_ref {h1 : mj_H} (l1 : h1.length = 563) : mj_Ok 100 174 [.ref 563] (h1 ++ [.inr (10, mj_new 10)]) (fun r => r.1 = .inl none ∧ r.2.length = 571 ∧ (∀ a, a < 563 → r.2[a]? = h1[a]?) ∧ ∃ hr, jEm 563 hr r.2 ∧ jIx riN 0 (fun _ => riN) 0 (-1) (fun _ => 0) hr) := by
  have q0 : jNr [.inr (10, mj_new 10)] := fun a n f ha => by
    match a, ha with
    | 0, ha => cases ha
    | a + 1, ha => simp at ha
  obtain ⟨F, r, h2, ⟨hr, h3, hI⟩, h4⟩ := (rx_init (D := 0) (H := fun _ => riN)).nr q0
  subst h3
  have s8 := jI_s8 hI.tI h4
  have em : mj_em (fun k => 563 + k) 1 564 [.inr (10, mj_new 10)] (h1 ++ [.inr (10, mj_new 10)]) := by
    refine ⟨Nat.le_refl 1, by rw [List.length_append, l1]; rfl, fun k e he => ?_⟩
    match k, he with
    | 0, he =>
      cases he
      show (h1 ++ [.inr (10, mj_new 10)])[563]? = _
      rw [List.getElem?_append_right (by omega), l1]
      rfl
    | k + 1, he => simp at he
  obtain ⟨h', g1, g2, g3⟩ := mj_ren_run (ρ := fun k => 563 + k) (n := 1) (m := 564) (fun k hk => by omega) (fun i j hij => by have hij : 563 + i = 563 + j := hij; omega) mj_P F 2 174 [.ref 0] _ (h1 ++ [.inr (10, mj_new 10)]) _ h2 em
  have hl : h'.length = 571 := by
    have := g2.2.1
    simp only [s8.1] at this
    omega
  refine mj_Ok.up (D := 2) (by decide) ⟨F, _, g1, rfl, hl, fun a ha => ?_, hr, ⟨s8, h4, by show 563 + 8 ≤ h'.length; omega, fun i e hi => g2.2.2 i e hi⟩, hI⟩
  show h'[a]? = h1[a]?
  rw [g3 a (by omega) (fun k hk => by show 563 + k ≠ a; omega), List.getElem?_append_left (by omega)]
theorem jZ_start {Lx : Nat} {xs : Nat → Int32} {Q : mj_R → Prop} (k : ∀ h, jLi cK cL cR (.inl (100, Lx, fun j => .int (xs j))) 571 563 572 0 (-1) (fun _ => 0) h → jcx (-1) 0 (fun _ => 0) h → YX 0 (-1) (fun _ => 0) h → mj_T 100 mj_mK 23 [some (.ref 0), some (.ref 1), some (.ref 563), some (.ref 571), some (.int (jn 0)), none, none, none, none] [] h Q) : mj_T 100 mj_mK 0 (mj_loc0 9 [.ref 0]) [] [.inl (100, Lx, fun j => .int (xs j))] Q := by
  refine mj_T.eq (loc2 := [some (.ref 0), none, none, none, none, none, none, none, none]) ?_ rfl rfl rfl rfl
  iterate 2 refine mj_T.pl rfl rfl rfl rfl ?_
  refine mj_T.call rfl rfl (Nat.le_of_ble_eq_true rfl) (Nat.le_of_ble_eq_true rfl) rfl rfl (mj_Ok.up (by decide) ((jk_101 (D := 0) rfl rfl).and (zk_start (D := 0) (H := fun _ => riN) rfl rfl))) (fun v h1 hq => ?_) (fun i h' hq => by obtain ⟨⟨hq, _⟩, _⟩ := hq; cases hq)
  obtain ⟨⟨hv, o1, c1, X1⟩, cc1⟩ := hq
  cases hv
  have l1 : h1.length = 563 := o1.1
  have c1 : h1[0]? = some (.inl (100, Lx, fun j => .int (xs j))) := c1
  refine mj_T.pl rfl rfl rfl rfl ?_
  refine mj_T.step (pc' := 11) (loc' := [some (.ref 0), some (.ref 1), none, none, none, none, none, none, none]) (st' := [.ref 563]) (h' := h1 ++ [.inr (10, mj_new 10)]) rfl rfl (by simp only [mj_step, l1]; rfl) ?_
  refine mj_T.pl rfl rfl rfl rfl ?_
  refine mj_T.call rfl rfl (Nat.le_of_ble_eq_true rfl) (Nat.le_of_ble_eq_true rfl) rfl rfl (jZ_ref l1) (fun v h2 hq => ?_) (fun i h' hq => by obtain ⟨hq, _⟩ := hq; cases hq)
  obtain ⟨hv, l2, f2, hr, E, I⟩ := hq
  cases hv
  have l2 : h2.length = 571 := l2
  iterate 2 refine mj_T.pl rfl rfl rfl rfl ?_
  refine mj_T.step (pc' := 19) (loc' := [some (.ref 0), some (.ref 1), some (.ref 563), none, none, none, none, none, none]) (st' := [.ref 571]) (h' := h2 ++ [.inl (1, 1, fun _ => .long 0)]) rfl rfl (by simp only [mj_step, l2]; exact if_pos ⟨by decide, by decide, by decide⟩) ?_
  iterate 3 refine mj_T.pl rfl rfl rfl rfl ?_
  refine k _ ⟨⟨⟨by rw [List.length_append, l2]; rfl, o1.2.1, fun _ _ => ⟨fun _ => rfl, fun p q => absurd p (by rw [List.length_append, l2]; simp; omega)⟩, fun a ha => ?_⟩, ⟨cK_out (by decide), fun a ha hl => absurd hl (by rw [List.length_append, l2]; simp; omega)⟩, fun _ => .long 0, ?_⟩, ?_, hr, ?_, I.tI⟩ (X1.same ?_ ?_) ⟨riN, 0, fun _ => riN, hr, ?_, ?_, I⟩
  · have ha2 := cK_in ha
    rw [List.getElem?_append_left (by omega), f2 a ha2]
    exact o1.2.2.2 a ha
  · rw [List.getElem?_append_right (by omega), l2]
    rfl
  · rw [List.getElem?_append_left (by omega), f2 0 (by decide)]
    exact c1
  · obtain ⟨e1, e2, e3, e4⟩ := E
    refine ⟨e1, e2, by rw [List.length_append]; exact Nat.le_trans e3 (Nat.le_add_right _ _), fun i e hi => ?_⟩
    have hi8 : i < 8 := by
      have := (List.getElem?_eq_some_iff.mp hi).1
      rw [e1.1] at this
      exact this
    rw [List.getElem?_append_left (by omega)]
    exact e4 i e hi
  · rw [List.getElem?_append_left (by omega), f2 1 (by decide)]
  · rw [List.getElem?_append_left (by omega), f2 14 (by decide)]
  · exact cC.fr (h := h1) cc1 (fun a ha => by
      have ha2 := cK_in ha
      rw [List.getElem?_append_left (by omega), f2 a ha2])
  · obtain ⟨e1, e2, e3, e4⟩ := E
    refine ⟨e1, e2, by rw [List.length_append]; exact Nat.le_trans e3 (Nat.le_add_right _ _), fun i e hi => ?_⟩
    have hi8 : i < 8 := by
      have := (List.getElem?_eq_some_iff.mp hi).1
      rw [e1.1] at this
      exact this
    rw [List.getElem?_append_left (by omega)]
    exact e4 i e hi
/-! What is written of the room. -/
theorem jZ_take {h : mj_H} {w b : Nat → Nat} (hw : ∀ (a : Nat) (e : mj_E), h[a]? = some e → mj_slot e ≤ w a) (hb : ∀ a, b a + w a ≤ b (a + 1)) : ∀ n, n ≤ h.length → mj_sl (h.take n) ≤ b n := by
  intro n
  induction n with
  | zero =>
    intro _
    rw [List.take_zero]
    exact Nat.zero_le _
  | succ n ih =>
    intro hn
    have he : h[n]? = some h[n] := List.getElem?_eq_getElem (by omega)
    have h1 := ih (by omega)
    have h2 := hw n _ he
    have h3 := hb n
    rw [List.take_succ, he]
    show mj_sl (h.take n ++ [h[n]]) ≤ _
    rw [mj_sl_push]
    omega
theorem jZ_ck : ((List.range 563).all fun a => decide (a = 0) || (decide (cK a ≠ 0) && decide (cL a ≤ 1000) && decide ((jfs (cK a)).length ≤ 1000))) = true := by decide +kernel
theorem jZ_rs {tm er : Int} {T : Nat → Int} {hr : mj_H} (hI : jI tm er T hr) : ∀ (i : Nat) (e : mj_E), hr[i]? = some e → mj_slot e ≤ 470000 := by
  obtain ⟨S, N, B, X, V, hs, _⟩ := hI
  obtain ⟨bg, ov, db, _, rfl⟩ := hs
  intro i e hi
  match i, hi with
  | 0, hi => cases hi; exact (by decide : 16 ≤ 470000)
  | 1, hi => cases hi; exact (by decide : 91 ≤ 470000)
  | 2, hi => cases hi; exact (by decide : 728 ≤ 470000)
  | 3, hi => cases hi; exact (by decide : 466830 ≤ 470000)
  | 4, hi => cases hi; exact (by decide : 1404 ≤ 470000)
  | 5, hi => cases hi; exact (by decide : 702 ≤ 470000)
  | 6, hi => cases hi; exact (by decide : 200 ≤ 470000)
  | 7, hi => cases hi; exact (by decide : 600 ≤ 470000)
  | i + 8, hi =>
    have := (List.getElem?_eq_some_iff.mp hi).1
    simp only [List.length_set] at this
    exact absurd this (by show ¬ (i + 8 < 8); omega)
theorem mj_slot_rE (ρ : Nat → Nat) (e : mj_E) : mj_slot (mj_rE ρ e) = mj_slot e := by
  match e with
  | .inl (t, n, f) => rfl
  | .inr (c, fs) =>
    show (fs.map (mj_rn ρ)).length = fs.length
    rw [List.length_map]
def jZw (L0 a : Nat) : Nat := if a = 0 then L0 else if a < 563 then 1000 else if a < 571 then 470000 else 6
def jZb (L0 a : Nat) : Nat := if a = 0 then 0 else if a ≤ 563 then L0 + 1000 * (a - 1) else if a ≤ 571 then L0 + 562000 + 470000 * (a - 563) else L0 + 4322000 + 6 * (a - 571)
theorem jZ_wb (L0 a : Nat) : jZb L0 a + jZw L0 a ≤ jZb L0 (a + 1) := by
  unfold jZb jZw
  rw [if_neg (show ¬ (a + 1 = 0) by omega)]
  by_cases c0 : a = 0
  · subst c0
    rw [if_pos rfl, if_pos rfl, if_pos (by decide)]
    omega
  rw [if_neg c0, if_neg c0]
  by_cases c1 : a < 563
  · rw [if_pos (by omega), if_pos c1, if_pos (by omega)]
    omega
  rw [if_neg c1, if_neg (show ¬ (a + 1 ≤ 563) by omega)]
  by_cases c2 : a < 571
  · rw [if_pos c2, if_pos (show a + 1 ≤ 571 by omega)]
    by_cases c3 : a ≤ 563
    · rw [if_pos c3]
      omega
    · rw [if_neg c3, if_pos (by omega)]
      omega
  rw [if_neg c2, if_neg (show ¬ (a + 1 ≤ 571) by omega), if_neg (show ¬ (a ≤ 563) by omega)]
  by_cases c3 : a ≤ 571
  · rw [if_pos c3]
    omega
  · rw [if_neg c3]
    omega
theorem jZ_sl {n L0 : Nat} {tm er : Int} {T : Nat → Int} {f : Nat → Value} {h : mj_H} (I : jLi cK cL cR (.inl (100, L0, f)) 571 563 n tm er T h) (hn : n ≤ 10000) : mj_sl h ≤ L0 + 7202922 := by
  obtain ⟨⟨o, ⟨_, x⟩, g, hg⟩, c0, hr, E, hI⟩ := I
  have key := jZ_take (h := h) (w := jZw L0) (b := jZb L0) (fun a e he => ?_) (jZ_wb L0) h.length (Nat.le_refl _)
  · rw [List.take_length] at key
    have hl := (List.getElem?_eq_some_iff.mp hg).1
    have hl2 := o.1
    unfold jZb at key
    rw [if_neg (by omega), if_neg (by omega), if_neg (by omega)] at key
    omega
  · unfold jZw
    by_cases d0 : a = 0
    · subst d0
      rw [c0] at he
      cases he
      rw [if_pos rfl]
      exact Nat.le_refl _
    rw [if_neg d0]
    by_cases d1 : a < 563
    · rw [if_pos d1]
      have k1 := jall jZ_ck d1
      simp only [d0, decide_false, Bool.false_or, Bool.and_eq_true, decide_eq_true_eq] at k1
      obtain ⟨⟨k1, k2⟩, k3⟩ := k1
      obtain ⟨e2, h1, h2⟩ := o.2.2.2 a k1
      rw [he] at h1
      cases h1
      unfold jCf at h2
      split at h2
      · obtain ⟨f, h3, _⟩ := h2
        subst h3
        exact k2
      · obtain ⟨fs, h3, h4, _⟩ := h2
        subst h3
        show fs.length ≤ 1000
        omega
    rw [if_neg d1]
    by_cases d2 : a < 571
    · rw [if_pos d2]
      have hr8 : hr.length = 8 := E.1.1
      have he2 : hr[a - 563]? = some (hr[a - 563]'(by omega)) := List.getElem?_eq_getElem (by omega)
      have h1 := E.2.2.2 _ _ he2
      rw [show 563 + (a - 563) = a by omega, he] at h1
      cases h1
      rw [mj_slot_rE]
      exact jZ_rs hI _ _ he2
    rw [if_neg d2]
    by_cases d3 : a = 571
    · subst d3
      rw [hg] at he
      cases he
      exact (by decide : 1 ≤ 6)
    · rw [x a (by omega) (List.getElem?_eq_some_iff.mp he).1] at he
      cases he
      exact Nat.le_refl 6
theorem jZ_runs {L : Nat} (hL : L ≤ 3072) (xs : Nat → Int32) : ∃ F r, mj_loop (mj_run mj_P F 100) mj_mL F 0 (mj_loc0 9 [.ref 0]) [] (mj_h0 L xs) = some r ∧ ∃ h', r = (.inl (some (.int 1)), h') ∧ h'.length ≤ 1 + 603072 ∧ mj_sl h' ≤ L + 7202922 := by
  rw [mj_mK_eq]
  exact jZ_start (Q := fun r => ∃ h', r = (.inl (some (.int 1)), h') ∧ h'.length ≤ 1 + 603072 ∧ mj_sl h' ≤ L + 7202922) (fun h I X Y => jL_loop (N := 1084) hL (fun n' tm' er' T' h' hn I' => ⟨h', rfl, by have := I'.1.1.1; omega, jZ_sl I' (by omega)⟩) 512 (by decide) (by omega) (by omega) (by decide) I X Y)
