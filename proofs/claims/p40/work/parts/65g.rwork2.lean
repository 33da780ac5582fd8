/-! The reference works a text out, whole. -/
section RWW
variable {S N B T X V : Nat → Int} {h : mj_H} {tm : Nat} {o e : Int}
theorem wk_power_step (h9 : S 9 = (tm : Int)) (ht : tm ≤ 200) (hT : ∀ j : Nat, j < tm → 1 ≤ T j ∧ T j ≤ 255) {f d a p b : Nat} (hp1 : 23 ≤ p) (hp2 : p + 3 * d ≤ 49) (ha : a ≤ tm) (hr : rpr0 T tm (f + 1) 0 d a = some (true, b)) (hs : rS (st3 (jvu S 13 0) (a : Int) o e) N B T X V h)
    (ih : ∀ (d2 a2 p2 b2 : Nat) (V : Nat → Int) (h : mj_H), d = d2 + 1 → 23 ≤ p2 → p2 + 2 + 3 * d2 ≤ 49 → a2 ≤ tm → rpr0 T tm f 3 d2 a2 = some (true, b2) → rS (st3 (jvu S 13 0) (a2 : Int) o e) N B T X V h → mj_Ok (4 * d2 + 14) 299 [.ref 0, .int (jn (p2 : Nat))] h (wkPost S N B T X V tm o e p2 b2)) : mj_Ok (4 * d + 12) 301 [.ref 0, .int (jn (p : Nat))] h (wkPost S N B T X V tm o e p b) := by
  refine mj_Ok.of (M := mj_m301) rfl rfl rfl ?_
  have hle := rskp_le (T := T) ha
  have hge := rskp_ge (T := T) (tm := tm) a
  refine mj_T.pl rfl rfl rfl rfl ?_
  refine mj_T.call (ins := .invokevirtual 348) rfl rfl (Nat.le_of_ble_eq_true rfl) (Nat.le_of_ble_eq_true rfl) (by simp [mj_recv, rS_f hs]) rfl (mj_Ok.up (by omega) (rd_skips (D := 0) (S := jvu S 13 0) (w9 h9) ht hT ha hs)) (fun v' h1 hq' => ?_) (fun i h' hq' => by obtain ⟨_, _, h⟩ := hq'; cases h)
  obtain ⟨_, hs1, hq'⟩ := hq'
  cases hq'
  have hid := rskp_idem (T := T) ha
  unfold rpr0 at hr
  obtain ⟨s, hsdef⟩ : ∃ s, rskp T tm a = s := ⟨_, rfl⟩
  rw [hsdef] at hs1 hle hge hr hid
  have hst : s < tm := by
    by_cases q : s < tm
    · exact q
    · rw [if_neg (fun z => q z.1), if_neg (fun z => q z.1)] at hr
      rcases hx : rnm T tm 9223372036854775807 s with ⟨z1, z2⟩
      rw [hx] at hr
      cases z1 with
      | false => cases hr
      | true =>
        have := rnm_bd (T := T) hle hx rfl
        have h2 : s < z2 ∧ z2 ≤ tm := this
        omega
  have hTs := hT s hst
  refine mj_T.pl rfl rfl rfl rfl ?_
  refine rT_get hs1 rfl rfl ?_
  refine mj_T.pl rfl rfl rfl rfl ?_
  refine rT_get hs1 rfl st3_g10 ?_
  refine rT_ldT hs1 rfl ⟨by omega, by omega⟩ ?_
  rw [Int.toNat_natCast]
  refine mj_T.pl rfl rfl rfl rfl ?_
  refine mj_T.icmp (a := T s) (b := 120) rfl ⟨by omega, by omega⟩ ⟨by decide, by decide⟩ (fun hc2 => ?_) (fun hc2 => ?_)
  rotate_left
  · simp only [jc, Bool.not_eq_false', decide_eq_true_eq] at hc2
    rw [if_pos ⟨hst, hc2⟩] at hr
    iterate 2 refine mj_T.pl rfl rfl rfl rfl ?_
    refine rT_get hs1 rfl st3_g10 ?_
    refine mj_T.pl rfl rfl rfl rfl ?_
    refine mj_T.iadd (a := (s : Int)) (b := 1) rfl ?_
    rw [show (s : Int) + 1 = ((s + 1 : Nat) : Int) by omega]
    refine rT_put (v := ((s + 1 : Nat) : Int)) hs1 rfl rfl (by decide) rfl (fun h2 hs2 => ?_)
    rw [st3_10] at hs2
    iterate 2 refine mj_T.pl rfl rfl rfl rfl ?_
    refine mj_T.call (ins := .invokevirtual 110) rfl rfl (Nat.le_of_ble_eq_true rfl) (Nat.le_of_ble_eq_true rfl) (by simp [mj_recv, rS_f hs2]) rfl (mj_Ok.up (by omega) (jp_empties (D := 0) (rG (st3 (jvu S 13 0) ((s + 1 : Nat) : Int) o e) N B T X) (p := p) (by omega) hs2)) (fun v' h3 hq' => ?_) (fun i h' hq' => by obtain ⟨_, _, h⟩ := hq'; cases h)
    obtain ⟨_, hs3, hq'⟩ := hq'
    cases hq'
    have q1 : ∀ x, x < 13 → jfl V p (fun _ => 0) 13 (p * 13 + x) = 0 := fun x hx => jfl_at _ p _ hx
    have q2 : ∀ s, s < p * 13 → jfl V p (fun _ => 0) 13 s = V s := fun s hx => jfl_off _ p _ (by omega)
    generalize jfl V p (fun _ => 0) 13 = W1 at hs3 q1 q2
    iterate 3 refine mj_T.pl rfl rfl rfl rfl ?_
    refine mj_T.call (ins := .invokestatic 104) rfl rfl (Nat.le_of_ble_eq_true rfl) (Nat.le_of_ble_eq_true rfl) rfl rfl (mj_Ok.up (by omega) (jq_slot (D := 0) (p := p) (i := 1))) (fun v' h' hq' => ?_) (fun i h' hq' => by cases hq')
    cases hq'
    refine mj_T.pl rfl rfl rfl rfl ?_
    refine mj_T.call (ins := .invokevirtual 45) rfl rfl (Nat.le_of_ble_eq_true rfl) (Nat.le_of_ble_eq_true rfl) (by simp [mj_recv, rS_f hs3]) rfl (mj_Ok.up (by omega) (jS_sets (D := 0) (rG (st3 (jvu S 13 0) ((s + 1 : Nat) : Int) o e) N B T X) (s := p * 13 + 1) (v := 1) (by omega) ⟨by decide, by decide⟩ hs3)) (fun v' h4 hq' => ?_) (fun i h' hq' => by obtain ⟨_, _, h⟩ := hq'; cases h)
    obtain ⟨_, hs4, hq'⟩ := hq'
    cases hq'
    refine mj_T.pl rfl rfl rfl rfl ?_
    refine wk_tail (E := 4 * d + 11) h9 ht hT (by omega) hp1 (by omega) (by omega : s + 1 ≤ tm) (Option.some.inj hr) (fun s s1 s2 => by rw [jvu_ne _ _ _ (by omega), q2 s s2]) (fun x hx => ?_) hs4
    by_cases x1 : x = 1
    · subst x1
      rw [jvu_at]
      decide
    · rw [jvu_ne _ _ _ (by omega), q1 x hx]
      exact Nat.zero_le _
  simp only [jc, Bool.not_eq_true', decide_eq_false_iff_not] at hc2
  rw [if_neg (fun z => hc2 z.2)] at hr
  refine mj_T.pl rfl rfl rfl rfl ?_
  refine rT_get hs1 rfl rfl ?_
  refine mj_T.pl rfl rfl rfl rfl ?_
  refine rT_get hs1 rfl st3_g10 ?_
  refine rT_ldT hs1 rfl ⟨by omega, by omega⟩ ?_
  rw [Int.toNat_natCast]
  refine mj_T.pl rfl rfl rfl rfl ?_
  refine mj_T.icmp (a := T s) (b := 40) rfl ⟨by omega, by omega⟩ ⟨by decide, by decide⟩ (fun hc3 => ?_) (fun hc3 => ?_)
  · simp only [jc, Bool.not_eq_true', decide_eq_false_iff_not] at hc3
    rw [if_neg (fun z => hc3 z.2)] at hr
    rcases hx : rnm T tm 9223372036854775807 s with ⟨z1, z2⟩
    rw [hx] at hr
    cases z1 with
    | false => cases hr
    | true =>
    have hzb : s < z2 ∧ z2 ≤ tm := rnm_bd (T := T) hle hx rfl
    iterate 2 refine mj_T.pl rfl rfl rfl rfl ?_
    refine mj_T.call (ins := .invokevirtual 110) rfl rfl (Nat.le_of_ble_eq_true rfl) (Nat.le_of_ble_eq_true rfl) (by simp [mj_recv, rS_f hs1]) rfl (mj_Ok.up (by omega) (jp_empties (D := 0) (rG (st3 (jvu S 13 0) (s : Int) o e) N B T X) (p := p) (by omega) hs1)) (fun v' h3 hq' => ?_) (fun i h' hq' => by obtain ⟨_, _, h⟩ := hq'; cases h)
    obtain ⟨_, hs3, hq'⟩ := hq'
    cases hq'
    have q1 : ∀ x, x < 13 → jfl V p (fun _ => 0) 13 (p * 13 + x) = 0 := fun x hx => jfl_at _ p _ hx
    have q2 : ∀ s, s < p * 13 → jfl V p (fun _ => 0) 13 s = V s := fun s hx => jfl_off _ p _ (by omega)
    generalize jfl V p (fun _ => 0) 13 = W1 at hs3 q1 q2
    iterate 3 refine mj_T.pl rfl rfl rfl rfl ?_
    refine mj_T.call (ins := .invokestatic 104) rfl rfl (Nat.le_of_ble_eq_true rfl) (Nat.le_of_ble_eq_true rfl) rfl rfl (mj_Ok.up (by omega) (jq_slot (D := 0) (p := p) (i := 0))) (fun v' h' hq' => ?_) (fun i h' hq' => by cases hq')
    cases hq'
    refine mj_T.pl rfl rfl rfl rfl ?_
    refine mj_T.call (ins := .invokevirtual 389) rfl rfl (Nat.le_of_ble_eq_true rfl) (Nat.le_of_ble_eq_true rfl) (by simp [mj_recv, rS_f hs3]) rfl (mj_Ok.up (by omega) (wk_number (D := 0) h9 ht hT hle hs3)) (fun v' h4 hq' => ?_) (fun i h' hq' => by obtain ⟨_, _, _, _, h⟩ := hq'; cases h)
    obtain ⟨k, _, ⟨k1, k2⟩, hs4, hq'⟩ := hq'
    cases hq'
    rw [hid] at k1 k2 hs4
    have hin : ∀ j, s ≤ j → j < s + k → 48 ≤ T j ∧ T j ≤ 57 := fun j j1 j2 => rdg_in (T := T) (tm - s) s j j1 (by show j < rdgp T tm s; omega)
    have hbd := rvl_bd (T := T) (s := s) k hin
    have hz2 : z2 = s + k ∧ k ≤ 18 := by
      unfold rnm at hx
      rw [hid, ← k1, Nat.add_sub_cancel_left] at hx
      split at hx
      · rename_i q
        cases hx
        exact ⟨rfl, q.1.2⟩
      · cases hx
    have hpw : 10 ^ k ≤ 10 ^ 18 := Nat.pow_le_pow_right (by decide) hz2.2
    rw [hid]
    refine mj_T.call (ins := .invokevirtual 45) rfl rfl (Nat.le_of_ble_eq_true rfl) (Nat.le_of_ble_eq_true rfl) (by simp [mj_recv, rS_f hs4]) rfl (mj_Ok.up (by omega) (jS_sets (D := 0) (rG (st3 (jvu S 13 0) ((s + k : Nat) : Int) o e) N B T X) (s := p * 13 + 0) (v := rvl T s k) (by omega) ⟨by omega, by omega⟩ hs4)) (fun v' h5 hq' => ?_) (fun i h' hq' => by obtain ⟨_, _, h⟩ := hq'; cases h)
    obtain ⟨_, hs5, hq'⟩ := hq'
    cases hq'
    have hr2 : rex T tm z2 = (true, b) := Option.some.inj hr
    rw [hz2.1] at hr2
    refine wk_tail (E := 4 * d + 11) h9 ht hT (by omega) hp1 (by omega) k2 hr2 (fun s s1 s2 => by rw [jvu_ne _ _ _ (by omega), q2 s s2]) (fun x hx => ?_) hs5
    by_cases x1 : x = 0
    · subst x1
      rw [jvu_at]
      omega
    · rw [jvu_ne _ _ _ (by omega), q1 x hx]
      exact Nat.zero_le _
  simp only [jc, Bool.not_eq_false', decide_eq_true_eq] at hc3
  rw [if_pos ⟨hst, hc3⟩] at hr
  by_cases hd0 : d = 0
  · rw [if_pos hd0] at hr
    cases hr
  rw [if_neg hd0] at hr
  obtain ⟨d2, rfl⟩ : ∃ d2, d = d2 + 1 := ⟨d - 1, by omega⟩
  rw [Nat.add_sub_cancel] at hr
  rcases hy : rpr0 T tm f 3 d2 (s + 1) with _ | ⟨z1, z2⟩
  · rw [hy] at hr
    cases hr
  rw [hy] at hr
  cases z1 with
  | false => cases hr
  | true =>
  iterate 2 refine mj_T.pl rfl rfl rfl rfl ?_
  refine rT_get hs1 rfl st3_g10 ?_
  refine mj_T.pl rfl rfl rfl rfl ?_
  refine mj_T.iadd (a := (s : Int)) (b := 1) rfl ?_
  rw [show (s : Int) + 1 = ((s + 1 : Nat) : Int) by omega]
  refine rT_put (v := ((s + 1 : Nat) : Int)) hs1 rfl rfl (by decide) rfl (fun h2 hs2 => ?_)
  rw [st3_10] at hs2
  iterate 3 refine mj_T.pl rfl rfl rfl rfl ?_
  refine mj_T.iadd (a := (p : Int)) (b := 1) rfl ?_
  rw [show (p : Int) + 1 = ((p + 1 : Nat) : Int) by omega]
  refine mj_T.call (ins := .invokevirtual 268) rfl rfl (Nat.le_of_ble_eq_true rfl) (Nat.le_of_ble_eq_true rfl) (by simp [mj_recv, rS_f hs2]) rfl (mj_Ok.up (by omega) (ih d2 (s + 1) (p + 1) z2 V h2 rfl (by omega) (by omega) (by omega) hy hs2)) (fun v' h3 hq' => ?_) (fun i h' hq' => by obtain ⟨_, _, _, _, _, _, _, _, h⟩ := hq'; cases h)
  obtain ⟨V3, c3, y3, _, hs3, hc3l, hf3, hy3, hq'⟩ := hq'
  cases hq'
  refine mj_T.pl rfl rfl rfl rfl ?_
  refine rT_get hs3 rfl st3_g13 ?_
  rcases hy3 with ⟨y0, c0, hb3⟩ | y1
  rotate_left
  · subst y1
    refine mj_T.if0 (a := 1) rfl ⟨by decide, by decide⟩ (fun hc => ?_) (fun hc => ?_)
    · simp [jc] at hc
    exact mj_T.ret rfl rfl rfl ⟨V3, c3, 1, h3, hs3, hc3l, fun s s1 s2 => hf3 s s1 (by omega), Or.inr rfl, rfl⟩
  subst y0
  subst c0
  refine mj_T.if0 (a := 0) rfl ⟨by decide, by decide⟩ (fun hc => ?_) (fun hc => ?_)
  rotate_left
  · simp [jc] at hc
  iterate 4 refine mj_T.pl rfl rfl rfl rfl ?_
  refine mj_T.iadd (a := (p : Int)) (b := 1) rfl ?_
  rw [show (p : Int) + 1 = ((p + 1 : Nat) : Int) by omega]
  refine mj_T.call (ins := .invokevirtual 124) rfl rfl (Nat.le_of_ble_eq_true rfl) (Nat.le_of_ble_eq_true rfl) (by simp [mj_recv, rS_f hs3]) rfl (mj_Ok.up (by omega) (jp_copiesPoly (D := 0) (rG (st3 (jvu S 13 0) (c3 : Int) o e) N B T X) (p := p) (q := p + 1) (by omega) (by omega) (by omega) hs3)) (fun v' h4 hq' => ?_) (fun i h' hq' => by obtain ⟨_, _, h⟩ := hq'; cases h)
  obtain ⟨_, hs4, hq'⟩ := hq'
  cases hq'
  have q1 : ∀ x, x < 13 → jfl V3 p (fun x => V3 ((p + 1) * 13 + x)) 13 (p * 13 + x) = V3 ((p + 1) * 13 + x) := fun x hx => jfl_at _ p _ hx
  have q2 : ∀ s, s < p * 13 → jfl V3 p (fun x => V3 ((p + 1) * 13 + x)) 13 s = V3 s := fun s hx => jfl_off _ p _ (by omega)
  generalize jfl V3 p (fun x => V3 ((p + 1) * 13 + x)) 13 = W4 at hs4 q1 q2
  iterate 2 refine mj_T.pl rfl rfl rfl rfl ?_
  refine mj_T.call (ins := .invokevirtual 354) rfl rfl (Nat.le_of_ble_eq_true rfl) (Nat.le_of_ble_eq_true rfl) (by simp [mj_recv, rS_f hs4]) rfl (mj_Ok.up (by omega) (rd_takes (D := 0) (S := jvu S 13 0) (c := 41) ⟨by decide, by decide⟩ (w9 h9) ht hT hc3l hs4)) (fun v' h5 hq' => ?_) (fun i h' hq' => by rcases hq' with ⟨_, _, _, _, h⟩ | ⟨_, _, _, h⟩ <;> cases h)
  rcases hq' with ⟨c5, _, ⟨b1, b2, b3⟩, hs5, hq'⟩ | ⟨_, b1, hs5, hq'⟩
  rotate_left
  · simp only [b1] at hr
    cases hr
  cases hq'
  simp only [b1] at hr
  iterate 2 refine mj_T.pl rfl rfl rfl rfl ?_
  exact wk_tail (E := 4 * (d2 + 1) + 11) h9 ht hT (by omega) hp1 (by omega) b2 (Option.some.inj hr) (fun s s1 s2 => by rw [q2 s s2, hf3 s s1 (by omega)]) (fun x hx => by rw [q1 x hx]; exact hb3 x hx) hs5
theorem wk_prod_loop (h9 : S 9 = (tm : Int)) (ht : tm ≤ 200) (hT : ∀ j : Nat, j < tm → 1 ≤ T j ∧ T j ≤ 255) {d p b : Nat} {V0 : Nat → Int} (hp1 : 23 ≤ p) (hp2 : p + 1 + 3 * d ≤ 49) :
    ∀ f, (∀ f2, f2 < f → ∀ (a b2 : Nat) (V : Nat → Int) (h : mj_H), a ≤ tm → rpr0 T tm f2 0 d a = some (true, b2) → rS (st3 (jvu S 13 0) (a : Int) o e) N B T X V h → mj_Ok (4 * d + 12) 301 [.ref 0, .int (jn ((p + 1 : Nat) : Int))] h (wkPost S N B T X V tm o e (p + 1) b2)) →
    ∀ (c : Nat) (V : Nat → Int) (h : mj_H), c ≤ tm → (match rtk T tm 42 c with
      | none => some (true, rskp T tm c)
      | some e => rpr0 T tm f 1 d e) = some (true, b) → rS (st3 (jvu S 13 0) (c : Int) o e) N B T X V h → (∀ s, 299 ≤ s → s < p * 13 → V s = V0 s) → (∀ x, x < 13 → (V (p * 13 + x)).natAbs ≤ 10 ^ 18) → mj_T (4 * d + 12) mj_m300 23 [some (.ref 0), some (.int (jn (p : Nat)))] [] h (wkPost S N B T X V0 tm o e p b) := by
  intro f
  induction f with
  | zero =>
    intro _ c V h hc hr hs hfr hb
    have hle := rskp_le (T := T) hc
    iterate 2 refine mj_T.pl rfl rfl rfl rfl ?_
    refine mj_T.call (ins := .invokevirtual 354) rfl rfl (Nat.le_of_ble_eq_true rfl) (Nat.le_of_ble_eq_true rfl) (by simp [mj_recv, rS_f hs]) rfl (mj_Ok.up (by omega) (rd_takes (D := 0) (S := jvu S 13 0) (c := 42) ⟨by decide, by decide⟩ (w9 h9) ht hT hc hs)) (fun v' h1 hq' => ?_) (fun i h' hq' => by rcases hq' with ⟨_, _, _, _, h⟩ | ⟨_, _, _, h⟩ <;> cases h)
    rcases hq' with ⟨c2, _, ⟨b1, b2, b3⟩, hs1, hq'⟩ | ⟨_, b1, hs1, hq'⟩
    · simp only [b1] at hr
      cases hr
    · cases hq'
      simp only [b1] at hr
      cases hr
      refine mj_T.if0 (a := 0) rfl ⟨by decide, by decide⟩ (fun hc => ?_) (fun hc => ?_)
      · exact mj_T.ret rfl rfl rfl ⟨V, _, 0, h1, hs1, hle, hfr, Or.inl ⟨rfl, rfl, hb⟩, rfl⟩
      · simp [jc] at hc
  | succ f ihf =>
    intro ih0 c V h hc hr hs hfr hb
    have hle := rskp_le (T := T) hc
    iterate 2 refine mj_T.pl rfl rfl rfl rfl ?_
    refine mj_T.call (ins := .invokevirtual 354) rfl rfl (Nat.le_of_ble_eq_true rfl) (Nat.le_of_ble_eq_true rfl) (by simp [mj_recv, rS_f hs]) rfl (mj_Ok.up (by omega) (rd_takes (D := 0) (S := jvu S 13 0) (c := 42) ⟨by decide, by decide⟩ (w9 h9) ht hT hc hs)) (fun v' h1 hq' => ?_) (fun i h' hq' => by rcases hq' with ⟨_, _, _, _, h⟩ | ⟨_, _, _, h⟩ <;> cases h)
    rcases hq' with ⟨c2, _, ⟨b1, b2, b3⟩, hs1, hq'⟩ | ⟨_, b1, hs1, hq'⟩
    rotate_left
    · cases hq'
      simp only [b1] at hr
      cases hr
      refine mj_T.if0 (a := 0) rfl ⟨by decide, by decide⟩ (fun hc => ?_) (fun hc => ?_)
      · exact mj_T.ret rfl rfl rfl ⟨V, _, 0, h1, hs1, hle, hfr, Or.inl ⟨rfl, rfl, hb⟩, rfl⟩
      · simp [jc] at hc
    cases hq'
    simp only [b1] at hr
    unfold rpr0 at hr
    rcases hy : rpr0 T tm f 0 d c2 with _ | ⟨z1, z2⟩
    · rw [hy] at hr
      cases hr
    rw [hy] at hr
    cases z1 with
    | false => cases hr
    | true =>
    refine mj_T.if0 (a := 1) rfl ⟨by decide, by decide⟩ (fun hc => ?_) (fun hc => ?_)
    · simp [jc] at hc
    iterate 3 refine mj_T.pl rfl rfl rfl rfl ?_
    refine mj_T.iadd (a := (p : Int)) (b := 1) rfl ?_
    rw [show (p : Int) + 1 = ((p + 1 : Nat) : Int) by omega]
    refine mj_T.call (ins := .invokevirtual 386) rfl rfl (Nat.le_of_ble_eq_true rfl) (Nat.le_of_ble_eq_true rfl) (by simp [mj_recv, rS_f hs1]) rfl (mj_Ok.up (by omega) (ih0 f (by omega) c2 z2 V h1 b2 hy hs1)) (fun v' h2 hq' => ?_) (fun i h' hq' => by obtain ⟨_, _, _, _, _, _, _, _, h⟩ := hq'; cases h)
    obtain ⟨V2, c3, y2, _, hs2, hc2l, hf2, hy2, hq'⟩ := hq'
    cases hq'
    have hfr2 : (∀ s, 299 ≤ s → s < p * 13 → V2 s = V0 s) := fun s s1 s2 => by rw [hf2 s s1 (by omega), hfr s s1 s2]
    iterate 2 refine mj_T.pl rfl rfl rfl rfl ?_
    refine rT_get hs2 rfl st3_g13 ?_
    have t58 : ∀ y, rS (st3 (jvu S 13 y) (c3 : Int) o e) N B T X V2 h2 → mj_T (4 * d + 12) mj_m300 58 [some (.ref 0), some (.int (jn (p : Nat)))] [.ref 0] h2 (wkPost S N B T X V0 tm o e p b) := fun y hsy => by
      iterate 2 refine mj_T.pl rfl rfl rfl rfl ?_
      refine rT_put (v := 1) hsy rfl rfl (by decide) rfl (fun h5 hs5 => ?_)
      rw [st3_13] at hs5
      refine mj_T.pl rfl rfl rfl rfl ?_
      refine rT_get hs5 rfl st3_g13 ?_
      refine mj_T.if0 (a := 1) rfl ⟨by decide, by decide⟩ (fun hc => ?_) (fun hc => ?_)
      · simp [jc] at hc
      exact mj_T.ret rfl rfl rfl ⟨V2, c3, 1, h5, hs5, hc2l, hfr2, Or.inr rfl, rfl⟩
    rcases hy2 with ⟨y0, c0, hb2⟩ | y1
    rotate_left
    · subst y1
      refine mj_T.if0 (a := 1) rfl ⟨by decide, by decide⟩ (fun hc => ?_) (fun hc => ?_)
      · exact t58 1 hs2
      · simp [jc] at hc
    subst y0
    subst c0
    refine mj_T.if0 (a := 0) rfl ⟨by decide, by decide⟩ (fun hc => ?_) (fun hc => ?_)
    · simp [jc] at hc
    iterate 4 refine mj_T.pl rfl rfl rfl rfl ?_
    refine mj_T.iadd (a := (p : Int)) (b := 1) rfl ?_
    rw [show (p : Int) + 1 = ((p + 1 : Nat) : Int) by omega]
    have hbp : (∀ x, x < 13 → (V2 (p * 13 + x)).natAbs ≤ 10 ^ 18) := fun x hx => by rw [hf2 _ (by omega) (by omega)]; exact hb x hx
    refine mj_T.call (ins := .invokevirtual 223) rfl rfl (Nat.le_of_ble_eq_true rfl) (Nat.le_of_ble_eq_true rfl) (by simp [mj_recv, rS_f hs2]) rfl (mj_Ok.up (by omega) (jp_isTooHigh (D := 0) (rG (st3 (jvu S 13 0) (c3 : Int) o e) N B T X) (a := p) (b := p + 1) (by omega) (by omega) hs2)) (fun v' h' hq' => ?_) (fun i h' hq' => by rcases hq' with ⟨_, _, _, h⟩ | ⟨_, h⟩ <;> cases h)
    rcases hq' with ⟨_, _, _, hq'⟩ | ⟨hdeg, hq'⟩
    · cases hq'
      refine mj_T.if0 (a := 1) rfl ⟨by decide, by decide⟩ (fun hc => ?_) (fun hc => ?_)
      · simp [jc] at hc
      exact t58 0 hs2
    cases hq'
    refine mj_T.if0 (a := 0) rfl ⟨by decide, by decide⟩ (fun hc => ?_) (fun hc => ?_)
    rotate_left
    · simp [jc] at hc
    refine mj_T.pl rfl rfl rfl rfl ?_
    refine rT_put (v := 0) hs2 rfl rfl (by decide) rfl (fun h5 hs5 => ?_)
    rw [st3_13] at hs5
    refine mj_T.pl rfl rfl rfl rfl ?_
    refine rT_get hs5 rfl st3_g13 ?_
    refine mj_T.if0 (a := 0) rfl ⟨by decide, by decide⟩ (fun hc => ?_) (fun hc => ?_)
    rotate_left
    · simp [jc] at hc
    iterate 5 refine mj_T.pl rfl rfl rfl rfl ?_
    refine mj_T.iadd (a := (p : Int)) (b := 1) rfl ?_
    rw [show (p : Int) + 1 = ((p + 1 : Nat) : Int) by omega]
    refine mj_T.call (ins := .invokevirtual 121) rfl rfl (Nat.le_of_ble_eq_true rfl) (Nat.le_of_ble_eq_true rfl) (by simp [mj_recv, rS_f hs5]) rfl (mj_Ok.up (by omega) (jp_multipliesPoly (D := 0) (V := V2) (rG (st3 (jvu S 13 0) (c3 : Int) o e) N B T X) (to := 7) (a := p) (b := p + 1) (by decide) (by omega) (by omega) (by omega) (by omega) hbp hb2 hdeg rp_small2 hs5)) (fun v' h6 hq' => ?_) (fun i h' hq' => by obtain ⟨_, _, _, _, _, _, h⟩ := hq'; cases h)
    obtain ⟨V6, _, hs6, m1, m2, _, hq'⟩ := hq'
    cases hq'
    iterate 3 refine mj_T.pl rfl rfl rfl rfl ?_
    refine mj_T.call (ins := .invokevirtual 124) rfl rfl (Nat.le_of_ble_eq_true rfl) (Nat.le_of_ble_eq_true rfl) (by simp [mj_recv, rS_f hs6]) rfl (mj_Ok.up (by omega) (jp_copiesPoly (D := 0) (rG (st3 (jvu S 13 0) (c3 : Int) o e) N B T X) (p := p) (q := 7) (by omega) (by decide) (by omega) hs6)) (fun v' h7 hq' => ?_) (fun i h' hq' => by obtain ⟨_, _, h⟩ := hq'; cases h)
    obtain ⟨_, hs7, hq'⟩ := hq'
    cases hq'
    have q2 : ∀ s, s < p * 13 → jfl V6 p (fun x => V6 (7 * 13 + x)) 13 s = V6 s := fun s hx => jfl_off _ p _ (by omega)
    generalize jfl V6 p (fun x => V6 (7 * 13 + x)) 13 = W7 at hs7 q2
    have hfr7 : (∀ s, 299 ≤ s → s < p * 13 → W7 s = V0 s) := fun s s1 s2 => by rw [q2 s s2, m1 s (by omega) (by omega), hfr2 s s1 s2]
    iterate 2 refine mj_T.pl rfl rfl rfl rfl ?_
    refine mj_T.call (ins := .invokevirtual 383) rfl rfl (Nat.le_of_ble_eq_true rfl) (Nat.le_of_ble_eq_true rfl) (by simp [mj_recv, rS_f hs7]) rfl (mj_Ok.up (by omega) (wk_bounds (D := 0) (p := p) (by omega) hs7)) (fun v' h8 hq' => ?_) (fun i h' hq' => by obtain ⟨_, _, _, _, h⟩ := hq'; cases h)
    obtain ⟨y, _, hs8, hy8, hq'⟩ := hq'
    cases hq'
    refine mj_T.pl rfl rfl rfl rfl ?_
    refine rT_get hs8 rfl st3_g13 ?_
    rcases hy8 with ⟨y1, y2⟩ | y1
    · subst y1
      refine mj_T.if0 (a := 0) rfl ⟨by decide, by decide⟩ (fun hc => ?_) (fun hc => ?_)
      rotate_left
      · simp [jc] at hc
      exact ihf (fun f2 hf2 => ih0 f2 (by omega)) c3 W7 h8 hc2l hr hs8 hfr7 y2
    · subst y1
      refine mj_T.if0 (a := 1) rfl ⟨by decide, by decide⟩ (fun hc => ?_) (fun hc => ?_)
      · simp [jc] at hc
      exact mj_T.ret rfl rfl rfl ⟨W7, c3, 1, h8, hs8, hc2l, hfr7, Or.inr rfl, rfl⟩
end RWW
