/-! The reference's valueAt, at once. -/
theorem jq_deg {ρ : Nat → Nat} {a b p : Nat} {h : mj_H} {fs' : List Value} {bg : Nat → Int32} {d : mq_T mq_N} {k : Nat → Bool} (h1 : h[a]? = some (.inr (10, fs'))) (h2 : fs'[4]? = some (.ref b)) (h4 : h[b]? = some (.inl (0, 466830, fun j => .int (bg j)))) (h6 : ∀ s, s < 665 → jrs bg s (mq_nv ρ (mq_get d s)) ∧ mq_nf (mq_get d s)) (hp : p ≤ 49) (hg : mq_deg d (p * 13) 13 k = true) : mj_Ok 2 197 [.ref a, .int (jn (p : Nat))] h (fun r => ∃ m, m ≤ 13 ∧ k m = true ∧ r = (.inl (some (.int (jn ((m : Int) - 1)))), h)) := by
  refine mj_Ok.of (D := 1) (M := mj_m197) rfl rfl rfl ?_
  iterate 2 refine mj_T.pl rfl rfl rfl rfl ?_
  refine jq_deg_loop (ρ := ρ) h1 h2 h4 h6 hp (fun m hm hk => ?_) 13 (Nat.le_refl _) hg
  refine mj_T.pl rfl rfl rfl rfl ?_
  exact mj_T.ret rfl rfl rfl ⟨m, hm, hk, rfl⟩
/-- the value so far, the power, the part -/
def jst (ρ : Nat → Nat) (d : mq_T mq_N) (bg : Nat → Int32) (v w q : Int) : Prop := (∀ s, s < 665 → s ≠ 659 → s ≠ 660 → s ≠ 652 → jrs bg s (mq_nv ρ (mq_get d s))) ∧ jrs bg 659 v ∧ jrs bg 660 w ∧ jrs bg 652 q
section JST
variable {ρ : Nat → Nat} {d : mq_T mq_N} {bg bg' : Nat → Int32} {v w q z : Int}
theorem jst.acc (h : jst ρ d bg v w q) (h1 : jrs bg' 659 z) (h2 : jrf bg bg' 659) : jst ρ d bg' z w q := ⟨fun s s1 s2 s3 s4 => jrs_keep (h.1 s s1 s2 s3 s4) h2 s2, h1, jrs_keep h.2.2.1 h2 (by decide), jrs_keep h.2.2.2 h2 (by decide)⟩
theorem jst.pow (h : jst ρ d bg v w q) (h1 : jrs bg' 660 z) (h2 : jrf bg bg' 660) : jst ρ d bg' v z q := ⟨fun s s1 s2 s3 s4 => jrs_keep (h.1 s s1 s2 s3 s4) h2 s3, jrs_keep h.2.1 h2 (by decide), h1, jrs_keep h.2.2.2 h2 (by decide)⟩
theorem jst.part (h : jst ρ d bg v w q) (h1 : jrs bg' 652 z) (h2 : jrf bg bg' 652) : jst ρ d bg' v w z := ⟨fun s s1 s2 s3 s4 => jrs_keep (h.1 s s1 s2 s3 s4) h2 s4, jrs_keep h.2.1 h2 (by decide), jrs_keep h.2.2.1 h2 (by decide), h1⟩
end JST
section JSV
variable {D : Nat} {ρ : Nat → Nat} {hp : mj_H} {q0 q1 q2 q3 p : Nat} {fs : List Value} {db : Nat → Value} {d : mq_T mq_N}
theorem jq_val_loop (G : jG hp q0 q1 q2 q3 fs) (hpp : p ≤ 49) {k : mq_N → mq_N → mq_N → Bool} {z2 : Int} {Q : mj_R → Prop}
    (K : ∀ (v w q : mq_N) (bg : Nat → Int32) (ov : Nat → Value), k v w q = true → jst ρ d bg (mq_nv ρ v) (mq_nv ρ w) (mq_nv ρ q) → mq_nf v ∧ mq_nf w ∧ mq_nf q → mj_T (D + 4) mj_m215 109 [some (.ref q0), some (.int (jn (p : Nat))), some (.int (jn z2)), some (.int (jn (-1)))] [] (jZ hp q1 q2 q3 bg ov db) Q) :
    ∀ (m : Nat) (v w q : mq_N) (bg : Nat → Int32) (ov : Nat → Value), m ≤ 12 → mq_rva d (p * 13) (mq_get d 656) (mq_get d 657) m v w q k = true → jst ρ d bg (mq_nv ρ v) (mq_nv ρ w) (mq_nv ρ q) → mq_nf v ∧ mq_nf w ∧ mq_nf q →
      mj_T (D + 4) mj_m215 44 [some (.ref q0), some (.int (jn (p : Nat))), some (.int (jn z2)), some (.int (jn ((m : Int) - 1)))] [] (jZ hp q1 q2 q3 bg ov db) Q
  | 0, v, w, q, bg, ov, hm, hg, hs, hf => by
    refine mj_T.pl rfl rfl rfl rfl ?_
    refine mj_T.if0 rfl ⟨by omega, by omega⟩ (fun hc => ?_) (fun hc => ?_)
    · exact K v w q bg ov hg hs hf
    · simp only [jc, decide_eq_false_iff_not] at hc; omega
  | m + 1, v, w, q, bg, ov, hm, hg, hs, hf => by
    have hg : (mq_mul w (mq_get d 657) fun w => mq_mul v (mq_get d 656) fun v => mq_mul (mq_get d (p * 13 + m)) w fun p' => mq_add v p' fun u => (Bool.rec (motive := fun _ => Bool) false (mq_rva d (p * 13) (mq_get d 656) (mq_get d 657) m u w p' k) (mq_and (mq_and (mq_fit w 300) (mq_fit v 300)) (mq_and (mq_fit p' 300) (mq_fit u 300))))) = true := hg
    obtain ⟨w1, a1, a2, hg⟩ := mq_mul_of (ρ := ρ) hg
    obtain ⟨v1, b1, b2, hg⟩ := mq_mul_of (ρ := ρ) hg
    obtain ⟨p1, c1, c2, hg⟩ := mq_mul_of (ρ := ρ) hg
    obtain ⟨u1, d1, d2, hg⟩ := mq_add_of (ρ := ρ) hg
    obtain ⟨cc, hg⟩ := mq_cond_of hg
    rw [mq_and_eq, mq_and_eq, mq_and_eq] at cc
    have f1 := mq_fit_of (ρ := ρ) cc.1.1 a2
    have f2 := mq_fit_of (ρ := ρ) cc.1.2 b2
    have f3 := mq_fit_of (ρ := ρ) cc.2.1 c2
    have f4 := mq_fit_of (ρ := ρ) cc.2.2 d2
    rw [show ((m + 1 : Nat) : Int) - 1 = (m : Int) by omega]
    refine mj_T.pl rfl rfl rfl rfl ?_
    refine mj_T.if0 rfl ⟨by omega, by omega⟩ (fun hc => ?_) (fun hc => ?_)
    · simp only [jc, decide_eq_true_eq] at hc; omega
    clear hc
    iterate 4 refine mj_T.pl rfl rfl rfl rfl ?_
    refine mj_T.call (ins := .invokevirtual 117) rfl rfl (Nat.le_of_ble_eq_true rfl) (Nat.le_of_ble_eq_true rfl) (by simp [mj_recv, jX_a (jE_c (jG_e G _) _)]) rfl (jq_mul (D := D + 2) (jG_e G (.inl (0, 702, db))) (to := 660) (a := 660) (b := 657) (by decide) (by decide) (by decide) hs.2.2.1 (hs.1 657 (by decide) (by decide) (by decide) (by decide)) (by rw [← a1]; omega)) (fun v' h' hq' => ?_) (fun i h' hq' => by obtain ⟨_, _, _, _, h⟩ := hq'; cases h)
    obtain ⟨bg1, ov1, e1, e2, h⟩ := hq'
    cases h
    rw [← a1] at e1
    have hs := hs.pow e1 e2
    iterate 4 refine mj_T.pl rfl rfl rfl rfl ?_
    refine mj_T.call (ins := .invokevirtual 117) rfl rfl (Nat.le_of_ble_eq_true rfl) (Nat.le_of_ble_eq_true rfl) (by simp [mj_recv, jX_a (jE_c (jG_e G _) _)]) rfl (jq_mul (D := D + 2) (jG_e G (.inl (0, 702, db))) (to := 659) (a := 659) (b := 656) (by decide) (by decide) (by decide) hs.2.1 (hs.1 656 (by decide) (by decide) (by decide) (by decide)) (by rw [← b1]; omega)) (fun v' h' hq' => ?_) (fun i h' hq' => by obtain ⟨_, _, _, _, h⟩ := hq'; cases h)
    obtain ⟨bg2, ov2, e3, e4, h⟩ := hq'
    cases h
    rw [← b1] at e3
    have hs := hs.acc e3 e4
    iterate 4 refine mj_T.pl rfl rfl rfl rfl ?_
    refine mj_T.call (ins := .invokestatic 104) rfl rfl (Nat.le_of_ble_eq_true rfl) (Nat.le_of_ble_eq_true rfl) rfl rfl (jq_slot (D := D + 3) (p := p) (i := m)) (fun v' h' hq' => ?_) (fun i h' hq' => by cases hq')
    cases hq'
    refine mj_T.pl rfl rfl rfl rfl ?_
    refine mj_T.call (ins := .invokevirtual 117) rfl rfl (Nat.le_of_ble_eq_true rfl) (Nat.le_of_ble_eq_true rfl) (by simp [mj_recv, jX_a (jE_c (jG_e G _) _)]) rfl (jq_mul (D := D + 2) (jG_e G (.inl (0, 702, db))) (to := 652) (a := p * 13 + m) (b := 660) (by decide) (by omega) (by decide) (hs.1 (p * 13 + m) (by omega) (by omega) (by omega) (by omega)) hs.2.2.1 (by rw [← c1]; omega)) (fun v' h' hq' => ?_) (fun i h' hq' => by obtain ⟨_, _, _, _, h⟩ := hq'; cases h)
    obtain ⟨bg3, ov3, e5, e6, h⟩ := hq'
    cases h
    rw [← c1] at e5
    have hs := hs.part e5 e6
    iterate 5 refine mj_T.pl rfl rfl rfl rfl ?_
    refine mj_T.call (ins := .invokevirtual 107) rfl rfl (Nat.le_of_ble_eq_true rfl) (Nat.le_of_ble_eq_true rfl) (by simp [mj_recv, jX_a (jE_c (jG_e G _) _)]) rfl (jq_adds (D := D) (jE_c (jG_e G _) _) (to := 659) (a := 659) (b := 652) (f := 1) (by decide) (by decide) (by decide) (Or.inl rfl) hs.2.1 hs.2.2.2 (by rw [Int.one_mul, ← d1]; omega)) (fun v' h' hq' => ?_) (fun i h' hq' => by obtain ⟨_, _, _, h⟩ := hq'; cases h)
    obtain ⟨bg4, e7, e8, h⟩ := hq'
    cases h
    rw [Int.one_mul, ← d1] at e7
    have hs := hs.acc e7 e8
    refine mj_T.iinc (a := m) rfl rfl ?_
    refine mj_T.pl rfl rfl rfl rfl ?_
    exact jq_val_loop G hpp K m u1 w1 p1 bg4 ov3 (by omega) hg hs ⟨d2, a2, c2⟩
end JSV
theorem mq_w215 : mq_okO 215 2 mq_r_val := by
  intro ρ as n t env kr kx h hl g hs hr
  obtain ⟨w, s, a, e, rfl, e1, S, g1⟩ := mq_pA_of g hs
  obtain ⟨w2, s2, p, e2, rfl, e3, S2, g2⟩ := mq_pI_of g1 S
  have hs2 : s2 = [] := mq_len1 (by simpa using hl)
  subst hs2
  obtain ⟨b, d, fs', q2, q3, bg, f2, f3, G, hZ, h5, h6, h7, h8, h9, g4⟩ := mq_rO_of g2 S2 hr
  obtain ⟨q, g5⟩ := mq_cond_of g4
  have hp : p ≤ 49 := Nat.ble_eq.mp q
  have h4 := jX_b (bg := bg) (jE_c (jG_e G (.inl (0, 702, f3))) (.inl (0, 1404, f2)))
  have hz4 : h[b]? = some (.inl (0, 466830, fun j => .int (bg j))) := by
    have := h4
    rw [show jX ((h.set q3 (.inl (0, 702, f3))).set q2 (.inl (0, 1404, f2))) b bg = h from hZ] at this
    exact this
  -- the heap behind it
  have heap : ∀ (bg' : Nat → Int32) (ov' : Nat → Value) (d' : mq_T mq_N), mq_wl 10 665 d' → (∀ s, s < 665 → jrs bg' s (mq_nv ρ (mq_get d' s)) ∧ mq_nf (mq_get d' s)) → mq_Hr ρ n (mq_hset t b (mq_slots d')) (jZ h b q2 q3 bg' ov' f3) := fun bg' ov' d' hw hd => by
    obtain ⟨m1, m2⟩ := h9 ov' f3
    exact m1.set h7 m2 (by rw [h8]; trivial) trivial ⟨hw, bg', rfl, hd⟩ rfl
  rw [List.map_cons, List.map_cons, List.map_nil, e1, e3, ← hZ]
  have hs0 : jst ρ d bg (mq_nv ρ (mq_get d 659)) (mq_nv ρ (mq_get d 660)) (mq_nv ρ (mq_get d 652)) := ⟨fun s s1 _ _ _ => (h6 s s1).1, (h6 659 (by decide)).1, (h6 660 (by decide)).1, (h6 652 (by decide)).1⟩
  refine (mj_Ok.of (D := 6) (M := mj_m215) rfl rfl rfl ?_).up (by omega)
  iterate 2 refine mj_T.pl rfl rfl rfl rfl ?_
  refine mj_T.call (ins := .invokevirtual 114) rfl rfl (Nat.le_of_ble_eq_true rfl) (Nat.le_of_ble_eq_true rfl) (by simp [mj_recv, jX_a (jE_c (jG_e G _) _)]) rfl ((jq_deg (ρ := ρ) (jX_a (jE_c (jG_e G _) _)) G.1.1.2.1 h4 h6 hp g5).up (D' := 6) (by omega)) (fun v' h' hq' => ?_) (fun i h' hq' => by obtain ⟨_, _, _, h⟩ := hq'; cases h)
  obtain ⟨m, hm, g6, hq'⟩ := hq'
  cases hq'
  iterate 4 refine mj_T.pl rfl rfl rfl rfl ?_
  refine mj_T.call (ins := .invokevirtual 45) rfl rfl (Nat.le_of_ble_eq_true rfl) (Nat.le_of_ble_eq_true rfl) (by simp [mj_recv, jX_a (jE_c (jG_e G _) _)]) rfl (jq_sets (D := 5) (jE_c (jG_e G _) _) (s := 659) (v := 0) (by decide) ⟨by omega, by omega⟩) (fun v' h' hq' => ?_) (fun i h' hq' => by obtain ⟨_, _, _, h⟩ := hq'; cases h)
  obtain ⟨bg1, x1, x2, hq'⟩ := hq'
  cases hq'
  have hs1 := hs0.acc x1 x2
  iterate 3 refine mj_T.pl rfl rfl rfl rfl ?_
  refine mj_T.call (ins := .invokevirtual 45) rfl rfl (Nat.le_of_ble_eq_true rfl) (Nat.le_of_ble_eq_true rfl) (by simp [mj_recv, jX_a (jE_c (jG_e G _) _)]) rfl (jq_sets (D := 5) (jE_c (jG_e G _) _) (s := 660) (v := 1) (by decide) ⟨by omega, by omega⟩) (fun v' h' hq' => ?_) (fun i h' hq' => by obtain ⟨_, _, _, h⟩ := hq'; cases h)
  obtain ⟨bg2, x3, x4, hq'⟩ := hq'
  cases hq'
  have hs2 := hs1.pow x3 x4
  have n0 : mq_nf (Sum.inl (0, 0)) := Or.inl rfl
  have n1 : mq_nf (Sum.inl (1, 0)) := Or.inr rfl
  refine mj_T.pl rfl rfl rfl rfl ?_
  rcases mq_if_or g6 with ⟨qm, g7⟩ | ⟨qm, g7⟩
  · have qm : m = 0 := Nat.beq_eq.mp qm
    subst qm
    rw [mq_setK_eq, mq_setK_eq, mq_hk_eq] at g7
    refine mj_T.if0 rfl ⟨by omega, by omega⟩ (fun hc => ?_) (fun hc => ?_)
    · simp only [jc, decide_eq_true_eq] at hc; omega
    refine mj_T.pl rfl rfl rfl rfl ?_
    refine mj_T.ret rfl rfl rfl ⟨_, n, _, e2, rfl, heap bg2 f2 _ ((h5.set (by decide) _).set (by decide) _) (fun s hs => ?_), S2, g7⟩
    rw [mq_get_set (h5.set (by decide) _) _ (by decide) hs]
    by_cases c1 : s = 660
    · subst c1
      rw [if_pos rfl]
      exact ⟨hs2.2.2.1, n1⟩
    · rw [if_neg c1, mq_get_set h5 _ (by decide) hs]
      by_cases c2 : s = 659
      · subst c2
        rw [if_pos rfl]
        exact ⟨hs2.2.1, n0⟩
      · rw [if_neg c2]
        by_cases c3 : s = 652
        · subst c3
          exact ⟨hs2.2.2.2, (h6 652 (by decide)).2⟩
        · exact ⟨hs2.1 s hs c2 c1 c3, (h6 s hs).2⟩
  · have qm : m ≠ 0 := fun e0 => by rw [Nat.beq_eq.mpr e0] at qm; cases qm
    obtain ⟨dd, rfl⟩ : ∃ dd, m = dd + 1 := ⟨m - 1, by omega⟩
    rw [show ((dd + 1 : Nat) : Int) - 1 = (dd : Int) by omega]
    refine mj_T.if0 rfl ⟨by omega, by omega⟩ (fun hc => ?_) (fun hc => ?_)
    · iterate 4 refine mj_T.pl rfl rfl rfl rfl ?_
      refine mj_T.call (ins := .invokestatic 104) rfl rfl (Nat.le_of_ble_eq_true rfl) (Nat.le_of_ble_eq_true rfl) rfl rfl (jq_slot (D := 5) (p := p) (i := dd)) (fun v' h' hq' => ?_) (fun i h' hq' => by cases hq')
      cases hq'
      refine mj_T.call (ins := .invokevirtual 84) rfl rfl (Nat.le_of_ble_eq_true rfl) (Nat.le_of_ble_eq_true rfl) (by simp [mj_recv, jX_a (jE_c (jG_e G _) _)]) rfl (jq_copies (D := 4) (jE_c (jG_e G _) _) (to := 659) (s := p * 13 + dd) (by decide) (by omega) (hs2.1 (p * 13 + dd) (by omega) (by omega) (by omega) (by omega))) (fun v' h' hq' => ?_) (fun i h' hq' => by obtain ⟨_, _, _, h⟩ := hq'; cases h)
      obtain ⟨bg3, x5, x6, hq'⟩ := hq'
      cases hq'
      have hs3 := hs2.acc x5 x6
      iterate 2 refine mj_T.pl rfl rfl rfl rfl ?_
      refine mj_T.isub (b := 1) rfl ?_
      refine mj_T.pl rfl rfl rfl rfl ?_
      refine jq_val_loop (D := 2) (ρ := ρ) (d := d) (k := fun v w q => mq_setK 10 d 659 v fun d => mq_setK 10 d 660 w fun d => mq_setK 10 d 652 q fun d => mq_hk t b (mq_slots d) fun t => mq_sgn v e2 fun z e => kr (Sum.inl z) n t e) G hp (fun v w q bg4 ov4 gk hk hf => ?_) dd (mq_get d (p * 13 + dd)) (Sum.inl (1, 0)) (mq_get d 652) bg3 f2 (by omega) g7 hs3 ⟨(h6 _ (by omega)).2, n1, (h6 652 (by decide)).2⟩
      have gk : (mq_setK 10 d 659 v fun d => mq_setK 10 d 660 w fun d => mq_setK 10 d 652 q fun d => mq_hk t b (mq_slots d) fun t => mq_sgn v e2 fun z e => kr (Sum.inl z) n t e) = true := gk
      rw [mq_setK_eq, mq_setK_eq, mq_setK_eq, mq_hk_eq] at gk
      obtain ⟨z, e5, hz, S5, gk⟩ := mq_sgn_of (ρ := ρ) gk hf.1 S2
      iterate 2 refine mj_T.pl rfl rfl rfl rfl ?_
      refine mj_T.call (ins := .invokevirtual 68) rfl rfl (Nat.le_of_ble_eq_true rfl) (Nat.le_of_ble_eq_true rfl) (by simp [mj_recv, jX_a (jE_c (jG_e G _) _)]) rfl (jq_sign (D := 5) (i := 659) (jX_a (jE_c (jG_e G _) _)) G.1.1.2.1 (jX_b (jE_c (jG_e G _) _)) (by decide) hk.2.1) (fun v' h' hq' => ?_) (fun i h' hq' => by cases hq')
      cases hq'
      rw [← hz]
      refine mj_T.ret rfl rfl rfl ⟨_, n, _, e5, rfl, heap bg4 ov4 _ (((h5.set (by decide) _).set (by decide) _).set (by decide) _) (fun s hs => ?_), S5, gk⟩
      rw [mq_get_set ((h5.set (by decide) _).set (by decide) _) _ (by decide) hs]
      by_cases c3 : s = 652
      · subst c3
        rw [if_pos rfl]
        exact ⟨hk.2.2.2, hf.2.2⟩
      · rw [if_neg c3, mq_get_set (h5.set (by decide) _) _ (by decide) hs]
        by_cases c1 : s = 660
        · subst c1
          rw [if_pos rfl]
          exact ⟨hk.2.2.1, hf.2.1⟩
        · rw [if_neg c1, mq_get_set h5 _ (by decide) hs]
          by_cases c2 : s = 659
          · subst c2
            rw [if_pos rfl]
            exact ⟨hk.2.1, hf.1⟩
          · rw [if_neg c2]
            exact ⟨hk.1 s hs c2 c1 c3, (h6 s hs).2⟩
    · simp only [jc, decide_eq_false_iff_not] at hc; omega
