/-! The law's loop, whole. -/
theorem jL_loop {N Lx : Nat} {xs : Nat → Int32} {Q : mj_R → Prop} (hL : Lx ≤ 3072) (hend : ∀ (n' : Nat) (tm' er' : Int) (T' : Nat → Int) (h' : mj_H), n' ≤ N → jLi cK cL cR (.inl (100, Lx, fun j => .int (xs j))) 571 563 n' tm' er' T' h' → Q (.inl (some (.int 1)), h')) : ∀ (r : Nat) {n : Nat} {i tm er : Int} {T : Nat → Int} {h : mj_H} {l5 l6 l7 l8 : Option Value}, 0 ≤ i → (Lx : Int) ≤ i + 6 * r + 5 → i ≤ Lx + 6 → n + r ≤ N → jLi cK cL cR (.inl (100, Lx, fun j => .int (xs j))) 571 563 n tm er T h → jcx er tm T h → YX tm er T h → mj_T 100 mj_mK 23 [some (.ref 0), some (.ref 1), some (.ref 563), some (.ref 571), some (.int (jn i)), l5, l6, l7, l8] [] h Q := by
  intro r
  induction r with
  | zero =>
    intro n i tm er T h l5 l6 l7 l8 h0 h1 h2 hN I X Y
    iterate 2 refine mj_T.pl rfl rfl rfl rfl ?_
    refine mj_T.alen rfl I.2.1 ?_
    refine mj_T.pl rfl rfl rfl rfl ?_
    refine mj_T.isub rfl ?_
    refine jT.icmp (a := i) (b := (Lx : Int) - 6) rfl ⟨by omega, by omega⟩ ⟨by omega, by omega⟩ (fun c => ?_) (fun c => ?_)
    · refine mj_T.pl rfl rfl rfl rfl ?_
      exact mj_T.ret rfl rfl rfl (hend n tm er T h (by omega) I)
    · have c := of_decide_eq_false c
      omega
  | succ r ih =>
    intro n i tm er T h l5 l6 l7 l8 h0 h1 h2 hN I X Y
    iterate 2 refine mj_T.pl rfl rfl rfl rfl ?_
    refine mj_T.alen rfl I.2.1 ?_
    refine mj_T.pl rfl rfl rfl rfl ?_
    refine mj_T.isub rfl ?_
    refine jT.icmp (a := i) (b := (Lx : Int) - 6) rfl ⟨by omega, by omega⟩ ⟨by omega, by omega⟩ (fun c => ?_) (fun c => ?_)
    · refine mj_T.pl rfl rfl rfl rfl ?_
      exact mj_T.ret rfl rfl rfl (hend n tm er T h (by omega) I)
    · have c := of_decide_eq_false c
      iterate 2 refine mj_T.pl rfl rfl rfl rfl ?_
      have hr : jr i := ⟨by omega, by omega⟩
      have hin : mj_in (jn i) Lx = true := by rw [jn_in hr]; exact decide_eq_true ⟨by omega, by omega⟩
      refine mj_T.step (pc' := 37) (loc' := [some (.ref 0), some (.ref 1), some (.ref 563), some (.ref 571), some (.int (jn i)), l5, l6, l7, l8]) (st' := [.int (xs i.toNat)]) (h' := h) rfl rfl (by simp only [mj_step, I.2.1, hin, jn_nat h0 hr, or_true, true_and, if_true]) ?_
      iterate 2 refine mj_T.pl rfl rfl rfl rfl ?_
      refine jL_round ⟨h0, by omega⟩ hL I X Y (fun n' tm' er' T' h' l5' l6' l7' l8' hn hn2 I' X' Y' => ?_) (jL_and _)
      refine mj_T.iinc (a := i) rfl rfl ?_
      refine mj_T.eq (loc2 := [some (.ref 0), some (.ref 1), some (.ref 563), some (.ref 571), some (.int (jn (i + 6))), l5', l6', l7', l8']) ?_ rfl rfl rfl rfl
      refine mj_T.pl rfl rfl rfl rfl ?_
      exact ih (by omega) (by omega) (by omega) (by omega) I' X' Y'
