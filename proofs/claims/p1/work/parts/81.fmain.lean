/-! The law's run on the fast machine. -/
noncomputable def mq_fin : mq_Kr := fun w _ _ _ => Sum.rec (motive := fun _ => Bool) (fun n => Nat.beq n 1) (fun _ => false) w
noncomputable def mq_try (t : mq_Ht) (env : mq_V) : Bool := mq_loop mq_lsL (fun _ _ _ _ _ _ => false) (mq_go mq_tab 40) mq_fin (fun _ _ _ _ => false) 1000000 0 [.inr (.inl 0)] [] 1 t env
def mq_Q (r : mj_R) : Prop := ∃ h', r = (.inl (some (.int 1)), h') ∧ h'.length ≤ 1 + 600006 ∧ mj_sl h' ≤ 7302056
theorem mq_fin_ok {ρ : Nat → Nat} : ∀ r, mq_Po ρ mq_fin (fun _ _ _ _ => false) r → mq_Q r
  | (.inl vo, h), hp => by
    obtain ⟨w, n, t, e, h1, h2, h3, h4⟩ := hp
    match w, h1, h4 with
    | .inl x, h1, h4 =>
      have h4 : x = 1 := Nat.beq_eq.mp h4
      subst h4
      refine ⟨h, by rw [h1]; rfl, ?_, ?_⟩
      · have := h2.len
        have := h2.le
        omega
      · have h5 := h2.sl
        have h6 := h2.le
        split at h5 <;> omega
    | .inr _, _, h4 => cases h4
  | (.inr i, h), hp => by
    obtain ⟨n, t, e, h1, h2, h3⟩ := hp
    cases h3
theorem mq_law {ρ : Nat → Nat} {t : mq_Ht} {env : mq_V} {h : mj_H} (hl : mj_mL.2.2.1 = 9) (hr : mq_Hr ρ 1 t h) (hs : mq_Sat ρ env) (g : mq_try t env = true) : mj_T 48 mj_mL 0 (mj_loc0 9 [.ref 0]) [] h mq_Q := by
  unfold mq_try at g
  rw [mq_cL1] at g
  have hG := mq_loop_ok (D := 48) (M := mj_mL) (Q := mq_Q) (ρ := ρ) (ps := mq_ppL) (ds := mq_dlL) (ks := fun _ _ _ _ _ _ => false) (ca := mq_go mq_tab 40) (kr := mq_fin) (kx := fun _ _ _ _ => false) (mq_go_ok mq_tab_ok 40) (fun p _ _ _ _ _ _ _ _ g => by cases g) mq_fin_ok mq_cL 1000000 0 0 rfl
  refine hG [.inr (.inl 0)] [] 1 t env (mj_loc0 9 [.ref 0]) h ⟨hs, hl.symm ▸ rfl, fun i hi => ?_, hr⟩ g
  match i, hi with
  | 0, _ => rfl
  | i + 1, hi => cases hi
