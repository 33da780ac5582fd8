/-! The reference's multiplies and cuts, at once. -/
theorem mq_isU_of {d : mq_T mq_W} (h : mq_isU d = true) : ∀ j, mq_kn (mq_get d j) = false := by
  match d, h with
  | .leaf v, h =>
    intro j
    rw [mq_get_l]
    have h : Bool.rec (motive := fun _ => Bool) true false (mq_kn v) = true := h
    cases e : mq_kn v
    · rfl
    · rw [e] at h; cases h
  | .branch _ _ _, h => cases h
theorem mq_row_of {ρ : Nat → Nat} {n z i : Nat} {t : mq_Ht} {h : mj_H} {env : mq_V} {fs : List mq_W} {fs' : List Value} {k : Nat → Bool} (hh : mq_row t (mq_nth mq_U fs i) z k = true) (hs : mq_Sat ρ env) (hr : mq_Hr ρ n t h) (h4 : ∀ i, i < fs.length → mq_kn (mq_nth mq_U fs i) = true → fs'[i]? = some (mq_val ρ (mq_nth mq_U fs i))) : ∃ b, ∃ f : Nat → Value, fs'[i]? = some (.ref b) ∧ h[b]? = some (.inl (0, z, f)) ∧ b < 1024 ∧ mq_pl (mq_hg t b) ∧ (∀ (h' : mj_H) (f' : Nat → Value), mq_cr ρ h' (mq_hg t b) (.inl (0, z, f'))) ∧ k b = true := by
  unfold mq_row at hh
  obtain ⟨b, e', k1, k2, g⟩ := mq_fA_of (env := env) hh hs.nil h4
  obtain ⟨ty, len, dep, d, f, l1, l2, l3, l4, l5, g2⟩ := mq_cA_of g hr
  obtain ⟨q, g3⟩ := mq_cond_of g2
  rw [mq_and_eq, mq_and_eq] at q
  have q1 : ty = 0 := Nat.beq_eq.mp q.1.1
  have q2 : len = z := Nat.beq_eq.mp q.1.2
  subst q1
  subst q2
  refine ⟨b, f, k1, l2, l5, by rw [l1]; trivial, fun h' f' => ?_, g3⟩
  rw [l1]
  exact ⟨f', rfl, l3, fun j hj hk => by rw [mq_isU_of q.2 j] at hk; cases hk⟩
theorem mq_rO_of {ρ : Nat → Nat} {n a : Nat} {t : mq_Ht} {h : mj_H} {env : mq_V} {k : Nat → mq_T mq_N → Bool} (hh : mq_rO t a k = true) (hs : mq_Sat ρ env) (hr : mq_Hr ρ n t h) : ∃ b d fs' q2 q3, ∃ bg : Nat → Int32, ∃ f2 f3 : Nat → Value, jG h a b q2 q3 fs' ∧ jZ h b q2 q3 bg f2 f3 = h ∧ mq_wl 10 665 d ∧ (∀ s, s < 665 → jrs bg s (mq_nv ρ (mq_get d s)) ∧ mq_nf (mq_get d s)) ∧ b < 1024 ∧ mq_hg t b = mq_slots d ∧ (∀ f2' f3' : Nat → Value, mq_Hr ρ n t ((h.set q3 (.inl (0, 702, f3'))).set q2 (.inl (0, 1404, f2'))) ∧ ((h.set q3 (.inl (0, 702, f3'))).set q2 (.inl (0, 1404, f2')))[b]? = some (.inl (0, 466830, fun j => .int (bg j)))) ∧ k b d = true := by
  unfold mq_rO at hh
  obtain ⟨ci, fs, fs0, h1, h2, h3, h4, h5, g⟩ := mq_cO_of hh hr
  obtain ⟨q, g1⟩ := mq_cond_of g
  obtain ⟨q2, f2, a1, a2, a3, a4, a5, g2⟩ := mq_row_of (env := env) g1 hs hr h4
  obtain ⟨q3, f3, b1, b2, b3, b4, b5, g3⟩ := mq_row_of (env := env) g2 hs hr h4
  obtain ⟨b, d, fs', bg, c1, c2, c3, c4, c5, c6, c7, g4⟩ := mq_rS_of g3 hs hr
  have ef : fs' = fs0 := by
    rw [c1] at h2
    injection h2 with h2
    injection h2 with h2
    injection h2
  subst ef
  have n1 : q2 ≠ a := fun e => by rw [e, c1] at a2; cases a2
  have n2 : q2 ≠ b := fun e => by rw [e, c4] at a2; injection a2 with a2; injection a2 with a2; injection a2 with _ a2; injection a2 with a2 _; cases a2
  have n3 : q3 ≠ a := fun e => by rw [e, c1] at b2; cases b2
  have n4 : q3 ≠ b := fun e => by rw [e, c4] at b2; injection b2 with b2; injection b2 with b2; injection b2 with _ b2; injection b2 with b2 _; cases b2
  have n5 : q3 ≠ q2 := fun e => by rw [e, a2] at b2; injection b2 with b2; injection b2 with b2; injection b2 with _ b2; injection b2 with b2 _; cases b2
  have l2 := (List.getElem?_eq_some_iff.mp a2).1
  have l3 := (List.getElem?_eq_some_iff.mp b2).1
  have C := mq_jC c1 c2 c4
  refine ⟨b, d, fs', q2, q3, bg, f2, f3, ⟨⟨C, a1, n1, n2, l2⟩, b1, n3, n4, n5, l3⟩, ?_, c5, c6, c7, c3, fun f2' f3' => ⟨?_, ?_⟩, g4⟩
  · show (((h.set q3 _).set q2 _).set b _) = h
    rw [mq_set_same b2, mq_set_same a2, mq_set_same c4]
  · refine (hr.mut (e := .inl (0, 702, f3')) b3 b2 rfl b4 (b5 _ _)).mut (e := .inl (0, 1404, f2')) a3 (e0 := .inl (0, 1404, f2)) (by rw [List.getElem?_set_ne n5]; exact a2) rfl a4 (a5 _ _)
  · rw [List.getElem?_set_ne n2, List.getElem?_set_ne n4]
    exact c4
theorem mq_w189 : mq_okO 189 4 mq_r_mul := by
  intro ρ as n t env kr kx h hl g hs hr
  obtain ⟨w, s, a, e, rfl, e1, S, g1⟩ := mq_pA_of g hs
  obtain ⟨w1, s1, to, e11, rfl, e12, S1, g1⟩ := mq_pI_of g1 S
  obtain ⟨w2, s2, i, e2, rfl, e3, S2, g2⟩ := mq_pI_of g1 S1
  obtain ⟨w3, s3, j, e4, rfl, e5, S3, g3⟩ := mq_pI_of g2 S2
  have hs2 : s3 = [] := mq_len1 (by simpa using hl)
  subst hs2
  obtain ⟨b, d, fs', q2, q3, bg, f2, f3, G, hZ, h5, h6, h7, h8, h9, g4⟩ := mq_rO_of g3 S3 hr
  obtain ⟨q, g5⟩ := mq_cond_of g4
  rw [mq_and_eq] at q
  have r1 : i + 1 ≤ 665 := Nat.ble_eq.mp q.1
  have r2 : j + 1 ≤ 665 := Nat.ble_eq.mp q.2
  obtain ⟨u1, u2⟩ := h6 i (by omega)
  obtain ⟨v1, v2⟩ := h6 j (by omega)
  obtain ⟨z, z1, z2, g6⟩ := mq_mul_of (ρ := ρ) g5
  obtain ⟨hi, qf, g7⟩ := mq_putS_of g6
  have hfit := mq_fit_of (ρ := ρ) qf z2
  rw [List.map_cons, List.map_cons, List.map_cons, List.map_cons, List.map_nil, e1, e12, e3, e5]
  have c := jq_mul (D := 6) (jG_e G (.inl (0, 702, f3))) (bg := bg) (ov := f2) (to := to) (a := i) (b := j) hi (by omega) (by omega) u1 v1 (by rw [← z1]; exact hfit)
  rw [show jY (h.set q3 (.inl (0, 702, f3))) b q2 bg f2 = h from hZ, ← z1] at c
  refine c.to (fun r hq => ?_)
  obtain ⟨bg', ov', k1, k2, rfl⟩ := hq
  obtain ⟨m1, m2⟩ := h9 ov' f3
  exact ⟨mq_U, n, _, e4, rfl, m1.slot h7 h8 m2 h5 h6 hi k1 k2 z2, S3, g7⟩
theorem mq_cS_at {t : mq_Ht} {b : Nat} {d : mq_T mq_N} {k : mq_T mq_N → Bool} (hg : mq_hg t b = mq_slots d) (h : mq_cS t b k = true) : k d = true := by
  unfold mq_cS at h
  obtain ⟨-, h2⟩ := mq_cond_of h
  rw [hg] at h2
  exact h2
theorem mq_w191 : mq_okO 191 5 mq_r_cuts := by
  intro ρ as n t env kr kx h hl g hs hr
  obtain ⟨w, s, a, e, rfl, e1, S, g1⟩ := mq_pA_of g hs
  obtain ⟨w1, s1, q, e11, rfl, e12, S1, g1⟩ := mq_pI_of g1 S
  obtain ⟨w2, s2, r, e2, rfl, e3, S2, g2⟩ := mq_pI_of g1 S1
  obtain ⟨w3, s3, i, e4, rfl, e5, S3, g3⟩ := mq_pI_of g2 S2
  obtain ⟨w4, s4, j, e6, rfl, e7, S4, g3'⟩ := mq_pI_of g3 S3
  have hs2 : s4 = [] := mq_len1 (by simpa using hl)
  subst hs2
  obtain ⟨b, d, fs', q2, q3, bg, f2, f3, G, hZ, h5, h6, h7, h8, h9, g4⟩ := mq_rO_of g3' S4 hr
  obtain ⟨p, m, hu, g5⟩ := mq_nZ_of g4
  obtain ⟨p2, m2, hv, g6⟩ := mq_nZ_of g5
  obtain ⟨c, g7⟩ := mq_cond_of g6
  rw [mq_and_eq, mq_and_eq, mq_and_eq, mq_and_eq, mq_and_eq, mq_and_eq, mq_and_eq] at c
  obtain ⟨⟨⟨c1, c2, c3⟩, c4, c5⟩, ⟨c6, c7⟩, c8⟩ := c
  have ne : ∀ {x y : Nat}, mq_ne x y = true → x ≠ y := fun {x y} hx e => by
    unfold mq_ne at hx
    rw [Nat.beq_eq.mpr e] at hx
    cases hx
  have n1 := ne c1
  have n2 := ne c2
  have n3 := ne c3
  have n4 := ne c4
  have r1 : i + 1 ≤ 665 := Nat.ble_eq.mp c6
  have r2 : j + 1 ≤ 665 := Nat.ble_eq.mp c7
  have r3 : 1 ≤ p2 + m2 := Nat.ble_eq.mp c8
  obtain ⟨u1, u2⟩ := h6 i (by omega)
  obtain ⟨v1, v2⟩ := h6 j (by omega)
  rw [hu] at u1 u2
  rw [hv] at v1 v2
  have u3 : p = 0 ∨ m = 0 := u2
  have v3 : p2 = 0 ∨ m2 = 0 := v2
  obtain ⟨hq, -, g8⟩ := mq_putS_of g7
  have hd1 : mq_hg (mq_hset t b (mq_slots (mq_set 10 d q (mq_quoZ p m p2 m2)))) b = mq_slots (mq_set 10 d q (mq_quoZ p m p2 m2)) := by
    rw [mq_hg_set hr.wl _ h7 h7, if_pos rfl]
  have g9 := mq_cS_at hd1 g8
  obtain ⟨hrr, -, g10⟩ := mq_putS_of g9
  -- quotient and rest
  have eq1 : mq_nv ρ (mq_quoZ p m p2 m2) = (mq_nv ρ (Sum.inl (p, m))).tdiv (mq_nv ρ (Sum.inl (p2, m2))) := by
    show ((p / p2 + m / m2 - (p / m2 + m / p2) : Nat) : Int) - ((p / m2 + m / p2 - (p / p2 + m / m2) : Nat) : Int) = ((p : Int) - m).tdiv ((p2 : Int) - m2)
    rcases u3 with e | e <;> rcases v3 with e' | e' <;> subst e <;> subst e'
    · rw [Nat.zero_div, Nat.zero_div, Nat.div_zero, show ((0 : Nat) : Int) - m = -(m : Int) by omega, show ((0 : Nat) : Int) - m2 = -(m2 : Int) by omega, Int.neg_tdiv, Int.tdiv_neg, Int.neg_neg]
      show ((0 + m / m2 - (0 + 0) : Nat) : Int) - ((0 + 0 - (0 + m / m2) : Nat) : Int) = ((m / m2 : Nat) : Int)
      omega
    · rw [Nat.zero_div, Nat.zero_div, Nat.div_zero, show ((0 : Nat) : Int) - m = -(m : Int) by omega, show (p2 : Int) - ((0 : Nat) : Int) = (p2 : Int) by omega, Int.neg_tdiv]
      show ((0 + 0 - (0 + m / p2) : Nat) : Int) - ((0 + m / p2 - (0 + 0) : Nat) : Int) = -((m / p2 : Nat) : Int)
      omega
    · rw [Nat.zero_div, Nat.zero_div, Nat.div_zero, show ((0 : Nat) : Int) - m2 = -(m2 : Int) by omega, show (p : Int) - ((0 : Nat) : Int) = (p : Int) by omega, Int.tdiv_neg]
      show ((0 + 0 - (p / m2 + 0) : Nat) : Int) - ((p / m2 + 0 - (0 + 0) : Nat) : Int) = -((p / m2 : Nat) : Int)
      omega
    · rw [Nat.zero_div, Nat.zero_div, Nat.div_zero, show (p2 : Int) - ((0 : Nat) : Int) = (p2 : Int) by omega, show (p : Int) - ((0 : Nat) : Int) = (p : Int) by omega]
      show ((p / p2 + 0 - (0 + 0) : Nat) : Int) - ((0 + 0 - (p / p2 + 0) : Nat) : Int) = ((p / p2 : Nat) : Int)
      omega
  have eq2 : mq_nv ρ (Sum.inl (Nat.mod p (Nat.add p2 m2), Nat.mod m (Nat.add p2 m2))) = (mq_nv ρ (Sum.inl (p, m))).tmod (mq_nv ρ (Sum.inl (p2, m2))) := by
    show ((p % (p2 + m2) : Nat) : Int) - ((m % (p2 + m2) : Nat) : Int) = ((p : Int) - m).tmod ((p2 : Int) - m2)
    rcases u3 with e | e <;> rcases v3 with e' | e' <;> subst e <;> subst e'
    · rw [Nat.zero_mod, Nat.zero_add, show ((0 : Nat) : Int) - m = -(m : Int) by omega, show ((0 : Nat) : Int) - m2 = -(m2 : Int) by omega, Int.neg_tmod, Int.tmod_neg]
      show ((0 : Nat) : Int) - ((m % m2 : Nat) : Int) = -((m % m2 : Nat) : Int)
      omega
    · rw [Nat.zero_mod, Nat.add_zero, show ((0 : Nat) : Int) - m = -(m : Int) by omega, show (p2 : Int) - ((0 : Nat) : Int) = (p2 : Int) by omega, Int.neg_tmod]
      show ((0 : Nat) : Int) - ((m % p2 : Nat) : Int) = -((m % p2 : Nat) : Int)
      omega
    · rw [Nat.zero_mod, Nat.zero_add, show ((0 : Nat) : Int) - m2 = -(m2 : Int) by omega, show (p : Int) - ((0 : Nat) : Int) = (p : Int) by omega, Int.tmod_neg]
      show ((p % m2 : Nat) : Int) - ((0 : Nat) : Int) = ((p % m2 : Nat) : Int)
      omega
    · rw [Nat.zero_mod, Nat.add_zero, show (p2 : Int) - ((0 : Nat) : Int) = (p2 : Int) by omega, show (p : Int) - ((0 : Nat) : Int) = (p : Int) by omega]
      show ((p % p2 : Nat) : Int) - ((0 : Nat) : Int) = ((p % p2 : Nat) : Int)
      omega
  have nf1 : mq_nf (mq_quoZ p m p2 m2) := by
    show p / p2 + m / m2 - (p / m2 + m / p2) = 0 ∨ p / m2 + m / p2 - (p / p2 + m / m2) = 0
    omega
  have nf2 : mq_nf (Sum.inl (Nat.mod p (Nat.add p2 m2), Nat.mod m (Nat.add p2 m2))) := by
    show p % (p2 + m2) = 0 ∨ m % (p2 + m2) = 0
    rcases u3 with e | e <;> subst e <;> simp
  have hv0 : mq_nv ρ (Sum.inl (p2, m2)) ≠ 0 := by
    show (p2 : Int) - m2 ≠ 0
    omega
  rw [List.map_cons, List.map_cons, List.map_cons, List.map_cons, List.map_cons, List.map_nil, e1, e12, e3, e5, e7]
  have c := jq_cuts (D := 4) G (bg := bg) (ov := f2) (db := f3) (q := q) (r := r) (a := i) (b := j) hq hrr (by omega) (by omega) n1 n2 n3 n4 u1 v1 hv0
  rw [hZ, ← eq1, ← eq2] at c
  refine c.to (fun z hz => ?_)
  obtain ⟨bg', ov', db', k1, k2, k3, rfl⟩ := hz
  obtain ⟨m1, m2'⟩ := h9 ov' db'
  refine ⟨mq_U, n, _, e6, rfl, ?_, S4, g10⟩
  -- by way of a row in which the quotient alone is set
  obtain ⟨bg1, hb1⟩ : ∃ bg1 : Nat → Int32, bg1 = fun x => if q * 702 ≤ x ∧ x < q * 702 + 702 then bg' x else bg x := ⟨_, rfl⟩
  have F1 : jrf bg bg1 q := fun x hx => by rw [hb1]; exact if_neg (by omega)
  have in1 : ∀ x, q * 702 ≤ x → x < q * 702 + 702 → bg1 x = bg' x := fun x hx hx2 => by rw [hb1]; exact if_pos ⟨hx, hx2⟩
  have k1q : jrs bg1 q (mq_nv ρ (mq_quoZ p m p2 m2)) := by
    obtain ⟨t1, t2, t3, t4⟩ := k1
    exact ⟨(in1 _ (by omega) (by omega)).trans t1, (in1 _ (by omega) (by omega)).trans t2, fun x hx => (in1 _ (by omega) (by omega)).trans (t3 x hx), t4⟩
  have R1 := m1.slot h7 h8 m2' h5 h6 hq k1q F1 nf1
  have hl4 := (List.getElem?_eq_some_iff.mp m2').1
  have R2 := R1.set (a := b) (e := .inl (0, 466830, fun x => .int (bg' x))) (e0 := .inl (0, 466830, fun x => .int (bg1 x))) (c := mq_slots (mq_set 10 (mq_set 10 d q (mq_quoZ p m p2 m2)) r (Sum.inl (Nat.mod p (Nat.add p2 m2), Nat.mod m (Nat.add p2 m2))))) h7 (List.getElem?_set_self hl4) (by rw [hd1]; trivial) trivial ⟨(h5.set hq _).set hrr _, bg', rfl, fun s hs => ?_⟩ rfl
  · rw [List.set_set] at R2
    exact R2
  · rw [mq_get_set (h5.set hq _) _ hrr hs]
    by_cases er : s = r
    · subst er
      rw [if_pos rfl]
      exact ⟨k2, nf2⟩
    · rw [if_neg er, mq_get_set h5 _ hq hs]
      by_cases eq0 : s = q
      · subst eq0
        rw [if_pos rfl]
        exact ⟨k1, nf1⟩
      · rw [if_neg eq0]
        exact ⟨k3 s _ eq0 er (h6 s hs).1, (h6 s hs).2⟩
