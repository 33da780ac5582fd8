/-! Calls of the reference: read. -/
theorem jvu13_st3 (S : Nat → Int) (a o e z : Int) : jvu (st3 S a o e) 13 z = st3 (jvu S 13 z) a o e := funext fun x => by
  unfold st3 jvu
  (repeat' split) <;> omega
theorem jK.rd3 {tm er : Int} {S N B T : Nat → Int} (K : jK tm er S N B T) {a o e : Int} (ha : jr a) (ho : jr o) (he : jr e) : jK tm e (st3 S a o e) N B T := by
  unfold st3
  have K2 := (K.put (k := 10) ha (by decide) (by decide) (by decide) (by decide) (by decide)).put (k := 11) ho (by decide) (by decide) (by decide) (by decide) (by decide)
  obtain ⟨k1, k2, k3, k4, k5, k6, k7, k8, k9⟩ := K2
  have e9 : ∀ x, x ≠ 12 → jvu (jvu (jvu S 10 a) 11 o) 12 e x = jvu (jvu S 10 a) 11 o x := fun x hx => jvu_ne _ _ _ hx
  refine ⟨k1, by rw [e9 2 (by decide)]; exact k2, fun j hj => k3 j (by rw [e9 2 (by decide)] at hj; exact hj), by rw [e9 9 (by decide)]; exact k4, jvu_at _ _ _, by rw [e9 15 (by decide)]; exact k6, fun x => ?_, by rw [e9 13 (by decide)]; exact k8, k9⟩
  by_cases hx : x = 12
  · subst hx
    rw [jvu_at]
    exact he
  · rw [e9 x hx]
    exact k7 x
theorem jK.put13 {tm er : Int} {S N B T : Nat → Int} (K : jK tm er S N B T) {y : Int} (hy : y = 0 ∨ y = 1) : jK tm er (jvu S 13 y) N B T := by
  obtain ⟨k1, k2, k3, k4, k5, k6, k7, k8, k9⟩ := K
  have e : ∀ x, x ≠ 13 → jvu S 13 y x = S x := fun x hx => jvu_ne _ _ _ hx
  refine ⟨k1, by rw [e 2 (by decide)]; exact k2, fun j hj => k3 j (by rw [e 2 (by decide)] at hj; exact hj), by rw [e 9 (by decide)]; exact k4, by rw [e 12 (by decide)]; exact k5, by rw [e 15 (by decide)]; exact k6, fun x => ?_, by rw [jvu_at]; exact hy, k9⟩
  by_cases hx : x = 13
  · subst hx
    rw [jvu_at]
    exact ⟨by omega, by omega⟩
  · rw [e x hx]
    exact k7 x
section RRE
variable {S N B T X V : Nat → Int} {h : mj_H} {D tm : Nat} {o e : Int}
theorem rd_end (h9 : S 9 = (tm : Int)) (ht : tm ≤ 200) (hT : ∀ j : Nat, j < tm → 1 ≤ T j ∧ T j ≤ 255) {c : Nat} (hc : c ≤ tm) (hs : rS (st3 S (c : Int) o e) N B T X V h) : mj_Ok (D + 2) 292 [.ref 0] h (fun r => (rskp T tm c = tm ∧ ∃ h2, rS (st3 S (tm : Int) o e) N B T X V h2 ∧ r = (.inl (some (.int (jn 1))), h2)) ∨ ((rskp T tm c ≠ tm ∧ rskp T tm c ≤ tm) ∧ ∃ h2, rS (st3 S (rskp T tm c : Nat) o ((rskp T tm c : Nat) : Int)) N B T X V h2 ∧ r = (.inl (some (.int (jn 0))), h2))) := by
  refine mj_Ok.of (M := mj_m292) rfl rfl rfl ?_
  have hle := rskp_le (T := T) hc
  refine mj_T.pl rfl rfl rfl rfl ?_
  refine mj_T.call (ins := .invokevirtual 348) rfl rfl (Nat.le_of_ble_eq_true rfl) (Nat.le_of_ble_eq_true rfl) (by simp [mj_recv, rS_f hs]) rfl (rd_skips (D := D) h9 ht hT hc hs) (fun v' h1 hq' => ?_) (fun i h' hq' => by obtain ⟨_, _, h⟩ := hq'; cases h)
  obtain ⟨_, hs1, hq'⟩ := hq'
  cases hq'
  obtain ⟨s, hsdef⟩ : ∃ s, rskp T tm c = s := ⟨_, rfl⟩
  rw [hsdef] at hs1 hle ⊢
  refine mj_T.pl rfl rfl rfl rfl ?_
  refine rT_get hs1 rfl st3_g10 ?_
  refine mj_T.pl rfl rfl rfl rfl ?_
  refine rT_get hs1 rfl (st3_g9 h9) ?_
  refine mj_T.icmp (a := (s : Int)) (b := (tm : Int)) rfl ⟨by omega, by omega⟩ ⟨by omega, by omega⟩ (fun hc1 => ?_) (fun hc1 => ?_)
  · simp only [jc, decide_eq_true_eq] at hc1
    have e1 : s = tm := by omega
    subst e1
    iterate 2 refine mj_T.pl rfl rfl rfl rfl ?_
    exact mj_T.ret rfl rfl rfl (Or.inl ⟨rfl, h1, hs1, rfl⟩)
  · simp only [jc, decide_eq_false_iff_not] at hc1
    iterate 2 refine mj_T.pl rfl rfl rfl rfl ?_
    refine rT_get hs1 rfl st3_g10 ?_
    refine mj_T.call (ins := .invokevirtual 351) rfl rfl (Nat.le_of_ble_eq_true rfl) (Nat.le_of_ble_eq_true rfl) (by simp [mj_recv, rS_f hs1]) rfl (mj_Ok.up (by omega) (rd_errs (D := 0) (x := (s : Int)) hs1)) (fun v' h3 hq' => ?_) (fun i h' hq' => by obtain ⟨_, _, h⟩ := hq'; cases h)
    obtain ⟨_, hs3, hq'⟩ := hq'
    cases hq'
    refine mj_T.if0 (a := 0) rfl ⟨by decide, by decide⟩ (fun hc => ?_) (fun hc => ?_)
    · refine mj_T.pl rfl rfl rfl rfl ?_
      exact mj_T.ret rfl rfl rfl (Or.inr ⟨⟨by omega, hle⟩, h3, hs3, rfl⟩)
    · simp [jc] at hc
end RRE
section RPU
variable {h : mj_H} {tm er : Int} {T : Nat → Int}
theorem rp_read {x : Int} (hx : jr x) {tm0 : Nat} (hI : jI (tm0 : Int) er T h) : mj_Ok 60 245 [.ref 0, .int (jn x)] h (fun r => ((0 ≤ x ∧ x ≤ 5) ∧ rI 0 (rdErr T tm0) T r) ∨ (¬ (0 ≤ x ∧ x ≤ 5) ∧ rI tm0 er T r)) := by
  refine mj_Ok.of (M := mj_m245) rfl rfl rfl ?_
  obtain ⟨S, N, B, X, V, hs, K⟩ := hI
  iterate 2 refine mj_T.pl rfl rfl rfl rfl ?_
  refine rT_put (v := 0) hs rfl rfl (by decide) rfl (fun g1 hs1 => ?_)
  have K1 := K.put (k := 3) (v := 0) ⟨by decide, by decide⟩ (by decide) (by decide) (by decide) (by decide) (by decide)
  generalize jvu S 3 0 = S1 at hs1 K1
  refine mj_T.pl rfl rfl rfl rfl ?_
  refine mj_T.call (ins := .invokestatic 181) rfl rfl (Nat.le_of_ble_eq_true rfl) (Nat.le_of_ble_eq_true rfl) rfl rfl (mj_Ok.up (by decide) (rp_isRegister (D := 0) hx)) (fun v' h' hq' => ?_) (fun i h' hq' => by rcases hq' with ⟨_, _, h⟩ | ⟨_, h⟩ <;> cases h)
  rcases hq' with ⟨x1, x2, hq'⟩ | ⟨xn, hq'⟩
  case' inr =>
    cases hq'
    refine mj_T.if0 (a := 0) rfl ⟨by decide, by decide⟩ (fun hc => ?_) (fun hc => ?_)
    · simp [jc] at hc
    iterate 2 refine mj_T.pl rfl rfl rfl rfl ?_
    refine mj_T.call (ins := .invokevirtual 198) rfl rfl (Nat.le_of_ble_eq_true rfl) (Nat.le_of_ble_eq_true rfl) (by simp [mj_recv, rS_f hs1]) rfl (mj_Ok.up (by decide) (rp_fails (D := 0) (c := 1) hs1)) (fun v' g2 hq' => ?_) (fun i h' hq' => by obtain ⟨_, _, h⟩ := hq'; cases h)
    obtain ⟨_, hs2, hq'⟩ := hq'
    cases hq'
    exact mj_T.ret rfl rfl rfl (Or.inr ⟨by omega, 0, g2, ⟨by decide, by decide⟩, rfl, ⟨_, N, B, X, V, hs2, K1.put ⟨by decide, by decide⟩ (by decide) (by decide) (by decide) (by decide) (by decide)⟩⟩)
  cases hq'
  refine mj_T.if0 (a := 1) rfl ⟨by decide, by decide⟩ (fun hc => ?_) (fun hc => ?_)
  rotate_left
  · simp [jc] at hc
  obtain ⟨x, rfl⟩ := Int.eq_ofNat_of_zero_le x1
  have k9 := K1.2.2.2.1
  have hT0 := K1.2.2.2.2.2.2.2.2
  have ht : tm0 ≤ 200 := by omega
  have hT : ∀ j : Nat, j < tm0 → 1 ≤ T j ∧ T j ≤ 255 := fun j hj => hT0 j (by omega)
  iterate 2 refine mj_T.pl rfl rfl rfl rfl ?_
  refine rT_put (v := 0) hs1 rfl rfl (by decide) rfl (fun ha hsa => ?_)
  iterate 2 refine mj_T.pl rfl rfl rfl rfl ?_
  refine rT_put (v := 0) hsa rfl rfl (by decide) rfl (fun hb hsb => ?_)
  iterate 2 refine mj_T.pl rfl rfl rfl rfl ?_
  refine rT_put (v := -1) hsb rfl rfl (by decide) rfl (fun hc hsc => ?_)
  have hsd : rS (st3 S1 ((0 : Nat) : Int) (8 - ((8 : Nat) : Int)) (-1)) N B T X V hc := hsc
  obtain ⟨hre, hrb⟩ := rdR_eq T tm0
  obtain ⟨res, hres⟩ : ∃ z, rdR T tm0 = z := ⟨_, rfl⟩
  rw [hres] at hre hrb
  have t51 : ∀ (a2 o2 x2 : Int) (h2 : mj_H), jr a2 → jr o2 → jr x2 → rdErr T tm0 = x2 → rS (st3 S1 a2 o2 x2) N B T X V h2 → mj_T 59 mj_m245 51 [some (.ref 0), some (.int (jn (x : Int))), none] [] h2 (fun r => ((0 ≤ (x : Int) ∧ (x : Int) ≤ 5) ∧ rI 0 (rdErr T tm0) T r) ∨ (¬ (0 ≤ (x : Int) ∧ (x : Int) ≤ 5) ∧ rI tm0 er T r)) := fun a2 o2 x2 h2 ja jo jx hx2 hs2 => by
    iterate 3 refine mj_T.pl rfl rfl rfl rfl ?_
    refine mj_T.if0 (a := 0) rfl ⟨by decide, by decide⟩ (fun hc => ?_) (fun hc => ?_)
    rotate_left
    · simp [jc] at hc
    iterate 2 refine mj_T.pl rfl rfl rfl rfl ?_
    refine rT_put (v := 0) hs2 rfl rfl (by decide) rfl (fun h3 hs3 => ?_)
    refine mj_T.pl rfl rfl rfl rfl ?_
    refine mj_T.if0 (a := 0) rfl ⟨by decide, by decide⟩ (fun hc => ?_) (fun hc => ?_)
    · simp [jc] at hc
    iterate 2 refine mj_T.pl rfl rfl rfl rfl ?_
    refine mj_T.call (ins := .invokevirtual 198) rfl rfl (Nat.le_of_ble_eq_true rfl) (Nat.le_of_ble_eq_true rfl) (by simp [mj_recv, rS_f hs3]) rfl (mj_Ok.up (by decide) (rp_fails (D := 0) (c := 2) hs3)) (fun v' g3 hq' => ?_) (fun i h' hq' => by obtain ⟨_, _, h⟩ := hq'; cases h)
    obtain ⟨_, hs3, hq'⟩ := hq'
    cases hq'
    exact mj_T.ret rfl rfl rfl (Or.inl ⟨⟨by omega, by omega⟩, 0, g3, ⟨by decide, by decide⟩, rfl, ⟨_, N, B, X, V, hs3, by rw [hx2]; exact ((K1.rd3 ja jo jx).clear).put ⟨by decide, by decide⟩ (by decide) (by decide) (by decide) (by decide) (by decide)⟩⟩)
  refine mj_T.pl rfl rfl rfl rfl ?_
  refine mj_T.call (ins := .invokevirtual 257) rfl rfl (Nat.le_of_ble_eq_true rfl) (Nat.le_of_ble_eq_true rfl) (by simp [mj_recv, rS_f hsc]) rfl (mj_Ok.up (by decide) ((rd_all (er := -1) (S := S1) (N := N) (B := B) (X := X) (V := V) k9.1 ht hT (rdF tm0) 8 (by decide)).2.2.2 0 hc res (Nat.zero_le _) hre hsd)) (fun v' h4 hq' => ?_) (fun i h' hq' => by rcases hq' with ⟨_, _, _, _, h⟩ | ⟨_, _, _, _, _, _, h⟩ <;> cases h)
  rcases hq' with ⟨c, _, ⟨c1, c2, c3⟩, hs4, hq'⟩ | ⟨x3, c, o3, _, ⟨c1, c2, c3, c4⟩, hs4, hq'⟩
  rotate_left
  · cases hq'
    refine mj_T.if0 (a := 0) rfl ⟨by decide, by decide⟩ (fun hc => ?_) (fun hc => ?_)
    rotate_left
    · simp [jc] at hc
    exact t51 _ _ _ h4 ⟨by omega, by omega⟩ c4 ⟨by omega, by omega⟩ (by unfold rdErr; rw [hres, c1]; rfl) hs4
  cases hq'
  refine mj_T.if0 (a := 1) rfl ⟨by decide, by decide⟩ (fun hc => ?_) (fun hc => ?_)
  · simp [jc] at hc
  refine mj_T.pl rfl rfl rfl rfl ?_
  refine mj_T.call (ins := .invokevirtual 261) rfl rfl (Nat.le_of_ble_eq_true rfl) (Nat.le_of_ble_eq_true rfl) (by simp [mj_recv, rS_f hs4]) rfl (mj_Ok.up (by decide) (rd_end (D := 0) (S := S1) k9.1 ht hT c2 hs4)) (fun v' h5 hq' => ?_) (fun i h' hq' => by rcases hq' with ⟨_, _, _, h⟩ | ⟨_, _, _, h⟩ <;> cases h)
  rcases hq' with ⟨e1, _, hs5, hq'⟩ | ⟨⟨e1, e2⟩, _, hs5, hq'⟩
  rotate_left
  · cases hq'
    refine mj_T.if0 (a := 0) rfl ⟨by decide, by decide⟩ (fun hc => ?_) (fun hc => ?_)
    rotate_left
    · simp [jc] at hc
    exact t51 _ _ _ h5 ⟨by omega, by omega⟩ ⟨by decide, by decide⟩ ⟨by omega, by omega⟩ (by unfold rdErr; rw [hres, c1]; exact (if_pos rfl).trans (if_neg e1)) hs5
  cases hq'
  refine mj_T.if0 (a := 1) rfl ⟨by decide, by decide⟩ (fun hc => ?_) (fun hc => ?_)
  · simp [jc] at hc
  have herr : rdErr T tm0 = -1 := by unfold rdErr; rw [hres, c1]; exact (if_pos rfl).trans (if_pos e1)
  iterate 4 refine mj_T.pl rfl rfl rfl rfl ?_
  refine mj_T.if0 (a := 1) rfl ⟨by decide, by decide⟩ (fun hc => ?_) (fun hc => ?_)
  · simp [jc] at hc
  iterate 2 refine mj_T.pl rfl rfl rfl rfl ?_
  refine rT_put (v := ((0 : Nat) : Int)) hs5 rfl rfl (by decide) rfl (fun h6 hs6 => ?_)
  rw [st3_10] at hs6
  iterate 2 refine mj_T.pl rfl rfl rfl rfl ?_
  refine rT_put (v := 0) hs6 rfl rfl (by decide) rfl (fun h7 hs7 => ?_)
  rw [jvu13_st3] at hs7
  iterate 2 refine mj_T.pl rfl rfl rfl rfl ?_
  have hre2 := hre
  rw [c1] at hre2
  refine mj_T.call (ins := .invokevirtual 268) rfl rfl (Nat.le_of_ble_eq_true rfl) (Nat.le_of_ble_eq_true rfl) (by simp [mj_recv, rS_f hs7]) rfl (mj_Ok.up (by decide) (wk_all k9.1 ht hT 8 (rdF tm0) 0 23 c V h7 (by decide) (by decide) (by decide) (Nat.zero_le _) hre2 hs7)) (fun v' h8 hq' => ?_) (fun i h' hq' => by obtain ⟨_, _, _, _, _, _, _, _, h⟩ := hq'; cases h)
  obtain ⟨V8, a8, y8, _, hs8, ha8, _, hy8, hq'⟩ := hq'
  cases hq'
  have hy : y8 = 0 ∨ y8 = 1 := by rcases hy8 with ⟨q, _⟩ | q; exact Or.inl q; exact Or.inr q
  have K9 := ((K1.put13 hy).rd3 (a := (a8 : Int)) (o := 8 - ((8 : Nat) : Int)) (e := -1) ⟨by omega, by omega⟩ ⟨by decide, by decide⟩ ⟨by decide, by decide⟩).clear
  iterate 2 refine mj_T.pl rfl rfl rfl rfl ?_
  refine rT_put (v := 0) hs8 rfl rfl (by decide) rfl (fun h9 hs9 => ?_)
  refine mj_T.pl rfl rfl rfl rfl ?_
  refine mj_T.if0 (a := 1) rfl ⟨by decide, by decide⟩ (fun hc => ?_) (fun hc => ?_)
  rotate_left
  · simp [jc] at hc
  refine mj_T.pl rfl rfl rfl rfl ?_
  refine rT_get (v := .int (jn y8)) hs9 rfl rfl ?_
  refine mj_T.if0 (a := y8) rfl ⟨by omega, by omega⟩ (fun hc9 => ?_) (fun hc9 => ?_)
  · skip
    iterate 4 refine mj_T.pl rfl rfl rfl rfl ?_
    refine mj_T.call (ins := .invokevirtual 219) rfl rfl (Nat.le_of_ble_eq_true rfl) (Nat.le_of_ble_eq_true rfl) (by simp [mj_recv, rS_f hs9]) rfl (mj_Ok.up (by decide) (rp_puts (D := 0) (r := x) (p := 23) (c := 3) (by omega) (by decide) ⟨by decide, by decide⟩ K9 hs9)) (fun v' h10 hq' => ?_) (fun i h' hq' => by obtain ⟨_, _, _, h, _⟩ := hq'; cases h)
    obtain ⟨z9, _, hz9, e9, hI9⟩ := hq'
    cases e9
    exact mj_T.ret rfl rfl rfl (Or.inl ⟨⟨by omega, by omega⟩, z9, _, hz9, rfl, by rw [herr]; exact hI9⟩)
  iterate 2 refine mj_T.pl rfl rfl rfl rfl ?_
  refine mj_T.call (ins := .invokevirtual 198) rfl rfl (Nat.le_of_ble_eq_true rfl) (Nat.le_of_ble_eq_true rfl) (by simp [mj_recv, rS_f hs9]) rfl (mj_Ok.up (by decide) (rp_fails (D := 0) (c := 3) hs9)) (fun v' g4 hq' => ?_) (fun i h' hq' => by obtain ⟨_, _, h⟩ := hq'; cases h)
  obtain ⟨_, hs4, hq'⟩ := hq'
  cases hq'
  refine mj_T.pl rfl rfl rfl rfl ?_
  exact mj_T.ret rfl rfl rfl (Or.inl ⟨⟨by omega, by omega⟩, 0, g4, ⟨by decide, by decide⟩, rfl, ⟨_, N, B, X, V8, hs4, by rw [herr]; exact K9.put ⟨by decide, by decide⟩ (by decide) (by decide) (by decide) (by decide) (by decide)⟩⟩)
end RPU
