/-! The class's numbers, at once: two and three of them. -/
theorem mq_lay4 {h : mj_H} {a b o d : Nat} {x y u z : mj_E} (ho : h[o]? = some u) (hd : h[d]? = some z) (h1 : o ≠ a) (h2 : o ≠ b) (h3 : d ≠ a) (h4 : d ≠ b) : (((h.set a x).set b y).set o u).set d z = (h.set a x).set b y := by
  have e1 : ((h.set a x).set b y).set o u = (h.set a x).set b y := mq_set_same (by rw [List.getElem?_set_ne (by omega), List.getElem?_set_ne (by omega)]; exact ho)
  rw [e1]
  exact mq_set_same (by rw [List.getElem?_set_ne (by omega), List.getElem?_set_ne (by omega)]; exact hd)
theorem mq_beq_ne {x y : Nat} (h : Nat.beq x y = false) : x ≠ y := fun q => by rw [Nat.beq_eq.mpr q] at h; cases h
theorem mq_w91 : mq_okO 91 3 mq_o_plus := by
  intro ρ as n t env kr kx h hl g hs hr
  obtain ⟨w, s, a, e, rfl, e1, S, g1⟩ := mq_pA_of g hs
  obtain ⟨w2, s2, o, e2, rfl, e3, S2, g2⟩ := mq_pA_of g1 S
  obtain ⟨w3, s3, f, e4, rfl, e5, S3, g3⟩ := mq_pI_of g2 S2
  have hs2 : s3 = [] := mq_len1 (by simpa using hl)
  subst hs2
  obtain ⟨b, len, u, gg, h1, h2, h3, h4, h5, h6, h7, h8, h9, h10, h11, g4⟩ := mq_cW_of g3 hr
  obtain ⟨d, len2, v, gq, k1, k2, k3, k4, k5, k6, k7, k8, k9, k10, k11, g5⟩ := mq_cW_of g4 hr
  obtain ⟨hvl, g6⟩ := mq_cond_of g5
  have hvl := mq_fit_of (ρ := ρ) hvl k7
  have key : ∃ (fz : Int) (z : mq_N), (fz = 1 ∨ (fz = -1 ∧ a ≠ o)) ∧ jn (f : Nat) = jn fz ∧ mq_nv ρ z = mq_nv ρ u + fz * mq_nv ρ v ∧ mq_nf z ∧ (mq_putW t a b len z fun t => kr mq_U n t e4) = true := by
    rcases mq_if_or g6 with ⟨q, g7⟩ | ⟨-, g7⟩
    · have q : f = 1 := Nat.beq_eq.mp q
      obtain ⟨z, z1, z2, z3⟩ := mq_add_of (ρ := ρ) g7
      exact ⟨1, z, Or.inl rfl, by rw [q]; rfl, by rw [z1, Int.one_mul], z2, z3⟩
    · obtain ⟨q, g7⟩ := mq_cond_of g7
      have q : f = 4294967295 := Nat.beq_eq.mp q
      obtain ⟨qa, g7⟩ := mq_cond_no g7
      obtain ⟨y, y1, g8⟩ := mq_neg_of (ρ := ρ) g7
      obtain ⟨z, z1, z2, z3⟩ := mq_add_of (ρ := ρ) g8
      exact ⟨-1, z, Or.inr ⟨rfl, mq_beq_ne qa⟩, by rw [q]; rfl, by rw [z1, y1]; omega, z2, z3⟩
  obtain ⟨fz, z, hfz, hjf, hz, hnf, g7⟩ := key
  unfold mq_putW at g7
  obtain ⟨q, g8⟩ := mq_cond_of g7
  rw [mq_hk_eq] at g8
  have hfit := mq_fit_of (ρ := ρ) q hnf
  by_cases hao : @Eq Nat a o
  · subst hao
    rw [h1] at k1
    have ev : u = v := by
      unfold mq_wide at k1
      injection k1 with k1
      injection k1 with k1
      injection k1 with k1
      injection k1 with k1
      injection k1 with _ k1
      injection k1
    subst ev
    have hf1 : fz = 1 := by rcases hfz with q | q; exact q; exact absurd rfl q.2
    subst hf1
    rw [Int.one_mul] at hz
    have c := mq_at2 (h := h) (a := a) (b := b) (jw_plus_self (D := 6) (n := len) (u := mq_nv ρ u) (g := gg) (by omega) h5 (by rw [← hz]; exact hfit) h4) h11 h2 h3 (fun r hr => by obtain ⟨_, _, hr⟩ := hr; rw [hr]; rfl)
    have e6 : [w, w2, w3].map (mq_val ρ) = ([.ref 0, .ref 0, .int (jn 1)] : List Value).map (mj_rn (jrho [a, b] h.length)) := by
      rw [List.map_cons, List.map_cons, List.map_cons, List.map_nil, e1, e3, e5, hjf]
      rfl
    rw [e6]
    refine c.to (fun r hq => ?_)
    obtain ⟨r0, K', ⟨g', m1, m3⟩, m4⟩ := hq
    cases m3
    subst m4
    rw [← hz] at m1 ⊢
    exact ⟨mq_U, n, _, e4, rfl, hr.wide (v := z) (g := g') h10 h1 h2 rfl h8 h9 h3 h11 m1 hfit h6 hnf, S3, g8⟩
  · obtain ⟨d1, d2, d3⟩ := mq_disj h1 h9 k1 k9 hao
    have c := mq_at4 (h := h) (a := a) (b := b) (o := o) (d := d) (jw_plus (D := 6) (n := len) (m := len2) (u := mq_nv ρ u) (w := mq_nv ρ v) (f := fz) (g := gg) (q := gq) (by omega) (by omega) (by rcases hfz with q | q; exact Or.inl q; exact Or.inr q.1) h5 k5 hvl (by rw [← hz]; exact hfit) h4 k4) (by simp; omega) h2 h3 k2 k3 (fun r hr => by obtain ⟨_, _, hr⟩ := hr; rw [hr]; rfl)
    have e6 : [w, w2, w3].map (mq_val ρ) = ([.ref 0, .ref 2, .int (jn fz)] : List Value).map (mj_rn (jrho [a, b, o, d] h.length)) := by
      rw [List.map_cons, List.map_cons, List.map_cons, List.map_nil, e1, e3, e5, hjf]
      rfl
    rw [e6]
    refine c.to (fun r hq => ?_)
    obtain ⟨r0, K', ⟨g', m1, m3⟩, m4⟩ := hq
    cases m3
    subst m4
    rw [← hz] at m1 ⊢
    refine ⟨mq_U, n, _, e4, rfl, ?_, S3, g8⟩
    have hR := hr.wide (v := z) (g := g') h10 h1 h2 rfl h8 h9 h3 h11 m1 hfit h6 hnf
    have hL := mq_lay4 (h := h) (a := a) (b := b) (x := .inr (8, [.ref b, .int (jn (jnl (mq_nv ρ z).natAbs)), .int (jn (jsg (mq_nv ρ z)))])) (y := .inl (0, len, fun j => .int (g' j))) k2 k3 (by omega) (by omega) (by omega) (by omega)
    rw [← hL] at hR
    exact hR
