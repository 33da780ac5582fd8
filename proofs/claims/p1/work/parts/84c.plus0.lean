/-! Wide's plus with the factor 0 too, at once; the table with it. -/
noncomputable def mq_o_plus2 : mq_Oc := fun as n t env kr kx => mq_pA as env fun a s e => mq_pA s e fun o s e => mq_pI s e fun f s e => mq_cW t a fun b len u => mq_cW t o fun _ _ v => (Bool.rec (motive := fun _ => Bool) (mq_o_plus as n t env kr kx) (kr mq_U n t e) (Nat.beq f 0))
theorem mq_w91b : mq_okO 91 3 mq_o_plus2 := by
  intro ρ as n t env kr kx h hl g hs hr
  obtain ⟨w, s, a, e, has, e1, S, g1⟩ := mq_pA_of g hs
  obtain ⟨w2, s2, o, e2, hs1, e3, S2, g2⟩ := mq_pA_of g1 S
  obtain ⟨w3, s3, f, e4, hs3, e5, S3, g3⟩ := mq_pI_of g2 S2
  obtain ⟨b, len, u, gg, h1, h2, h3, h4, h5, h6, h7, h8, h9, h10, h11, g4⟩ := mq_cW_of g3 hr
  obtain ⟨d, len2, v, gq, k1, k2, k3, k4, k5, k6, k7, k8, k9, k10, k11, g5⟩ := mq_cW_of g4 hr
  rcases mq_if_or g5 with ⟨q, hk⟩ | ⟨-, g6⟩
  · have q : f = 0 := Nat.beq_eq.mp q
    subst q
    subst has
    subst hs1
    subst hs3
    have hs4 : s3 = [] := mq_len1 (by simpa using hl)
    subst hs4
    rw [List.map_cons, List.map_cons, List.map_cons, List.map_nil, e1, e3, e5]
    refine (mj_Ok.of (D := 0) (M := mj_m91) rfl rfl rfl ?_).up (by omega)
    refine mj_T.pl rfl rfl rfl rfl ?_
    refine mj_T.step (loc' := mj_loc0 4 [.ref a, .ref o, .int (jn ((0 : Nat) : Int))]) (st' := [.int (jn (jsg (mq_nv ρ v)))]) (h' := h) (pc' := 4) rfl rfl (by simp only [mj_step, k2, if_true]; rfl) ?_
    refine mj_T.pl rfl rfl rfl rfl ?_
    refine mj_T.imul rfl ?_
    rw [show jsg (mq_nv ρ v) * ((0 : Nat) : Int) = 0 by simp]
    iterate 2 refine mj_T.pl rfl rfl rfl rfl ?_
    refine mj_T.if0 rfl ⟨by decide, by decide⟩ (fun hc => ?_) (fun hc => ?_)
    · simp [jc] at hc
    · exact mj_T.ret rfl rfl rfl ⟨mq_U, n, t, e4, rfl, hr, S3, hk⟩
  · exact mq_w91 ρ as n t env kr kx h hl g6 hs hr
noncomputable def mq_tab2 : mq_T mq_Md := .branch (nat_lit 92) (.branch (nat_lit 91) mq_tab (.leaf (.inr (nat_lit 3, mq_o_plus2)))) mq_tab
theorem mq_tab2_ok : mq_okP mq_tab2 := fun j => by
  unfold mq_tab2
  rw [mq_get_b]
  split
  · exact mq_tab_ok j
  · rename_i q1
    have q1 : ¬ 92 ≤ j := q1
    rw [mq_get_b]
    split
    · rename_i q2
      have q2 : 91 ≤ j := q2
      have : j = 91 := by omega
      subst this
      exact mq_w91b
    · exact mq_tab_ok j
noncomputable def mq_try2 (t : mq_Ht) (env : mq_V) : Bool := mq_loop mq_lsL (fun _ _ _ _ _ _ => false) (mq_go mq_tab2 40) mq_fin (fun _ _ _ _ => false) 1000000 0 [.inr (.inl 0)] [] 1 t env
theorem mq_law2 {ρ : Nat → Nat} {t : mq_Ht} {env : mq_V} {h : mj_H} (hl : mj_mL.2.2.1 = 9) (hr : mq_Hr ρ 1 t h) (hs : mq_Sat ρ env) (g : mq_try2 t env = true) : mj_T 48 mj_mL 0 (mj_loc0 9 [.ref 0]) [] h mq_Q := by
  unfold mq_try2 at g
  rw [mq_cL1] at g
  have hG := mq_loop_ok (D := 48) (M := mj_mL) (Q := mq_Q) (ρ := ρ) (ps := mq_ppL) (ds := mq_dlL) (ks := fun _ _ _ _ _ _ => false) (ca := mq_go mq_tab2 40) (kr := mq_fin) (kx := fun _ _ _ _ => false) (mq_go_ok mq_tab2_ok 40) (fun p _ _ _ _ _ _ _ _ g => by cases g) mq_fin_ok mq_cL 1000000 0 0 rfl
  refine hG [.inr (.inl 0)] [] 1 t env (mj_loc0 9 [.ref 0]) h ⟨hs, hl.symm ▸ rfl, fun i hi => ?_, hr⟩ g
  match i, hi with
  | 0, _ => rfl
  | i + 1, hi => cases hi
