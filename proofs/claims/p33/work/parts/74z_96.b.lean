/-! The reference works a text out, with values: bounds, numbers, powers, products. -/
def wkV (S N B T X V0 : Nat → Int) (tm : Nat) (o e : Int) (p b : Nat) (val : Option pz_P) (r : mj_R) : Prop := ∃ (V2 : Nat → Int) (a2 : Nat) (y : Int) (h2 : mj_H), rS (st3 (jvu S 13 y) (a2 : Int) o e) N B T X V2 h2 ∧ a2 ≤ tm ∧ (∀ s, 299 ≤ s → s < p * 13 → V2 s = V0 s) ∧ ((y = 0 ∧ a2 = b ∧ ∃ w, val = some w ∧ fit13 w ∧ ∀ x, x < 13 → V2 (p * 13 + x) = w x) ∨ (y = 1 ∧ val = none)) ∧ r = (.inl none, h2)
theorem fit_18 {w : pz_P} {V : Nat → Int} {p : Nat} (hw : fit13 w) (hv : ∀ x, x < 13 → V (p * 13 + x) = w x) : ∀ x, x < 13 → (V (p * 13 + x)).natAbs ≤ 10 ^ 18 := fun x hx => by
  rw [hv x hx]
  have h1 : (w x).natAbs ≤ 999999999999999999 := hw.1 x hx
  exact Nat.le_trans h1 (by decide)
theorem fit_jpo {w : pz_P} {V : Nat → Int} {p : Nat} (hw : fit13 w) (hv : ∀ x, x < 13 → V (p * 13 + x) = w x) : jpo V p = w := funext fun x => by
  by_cases q : x < 13
  · rw [jpo_at q, hv x q]
  · rw [jpo_lt V p x (by omega), hw.2 x (by omega)]
theorem zv0_n1 (T : Nat → Int) (tm : Nat) : ∀ f d a s, zv0 T tm f 1 d a none s = none
  | 0, _, _, _ => rfl
  | f + 1, d, a, s => by
    show (match rpr0 T tm f 0 d a with
      | some (true, c) => (match rtk T tm 42 c with
        | none => zvm none (zv0 T tm f 0 d a none 1)
        | some e => zv0 T tm f 1 d e (zvm none (zv0 T tm f 0 d a none 1)) 1)
      | _ => none) = none
    split
    · split
      · rfl
      · exact zv0_n1 T tm f d _ _
    · rfl
theorem zv0_n2 (T : Nat → Int) (tm : Nat) : ∀ f d a s, zv0 T tm f 2 d a none s = none
  | 0, _, _, _ => rfl
  | f + 1, d, a, s => by
    show (match rpr0 T tm f 1 d a with
      | some (true, c) => (match rtk T tm 43 c with
        | some e => zv0 T tm f 2 d e (zva none s (zv0 T tm f 1 d a (some pz_one) 1)) 1
        | none => match rtk T tm 45 (rskp T tm c) with
          | some e => zv0 T tm f 2 d e (zva none s (zv0 T tm f 1 d a (some pz_one) 1)) (-1)
          | none => zva none s (zv0 T tm f 1 d a (some pz_one) 1))
      | _ => none) = none
    split
    · split
      · exact zv0_n2 T tm f d _ _
      · split
        · exact zv0_n2 T tm f d _ _
        · rfl
    · rfl
section RWV
variable {S N B T X V : Nat → Int} {h : mj_H} {D tm : Nat} {o e : Int}
theorem wv_bounds {a p : Nat} (hp : p ≤ 50) (hs : rS (st3 (jvu S 13 0) (a : Int) o e) N B T X V h) : mj_Ok (D + 3) 297 [.ref 0, .int (jn (p : Nat))] h (fun r => ∃ (y : Int) (h2 : mj_H), rS (st3 (jvu S 13 y) (a : Int) o e) N B T X V h2 ∧ ((y = 0 ∧ sml (fun x => V (p * 13 + x))) ∨ (y = 1 ∧ ¬ sml (fun x => V (p * 13 + x)))) ∧ r = (.inl none, h2)) := by
  refine mj_Ok.of (M := mj_m297) rfl rfl rfl ?_
  iterate 2 refine mj_T.pl rfl rfl rfl rfl ?_
  refine rT_get hs rfl st3_g13 ?_
  refine mj_T.if0 (a := 0) rfl ⟨by decide, by decide⟩ (fun hc => ?_) (fun hc => ?_)
  · simp [jc] at hc
  iterate 2 refine mj_T.pl rfl rfl rfl rfl ?_
  refine mj_T.call (ins := .invokevirtual 195) rfl rfl (Nat.le_of_ble_eq_true rfl) (Nat.le_of_ble_eq_true rfl) (by simp [mj_recv, rS_f hs]) rfl (mj_Ok.up (by omega) (jp_isInBounds (D := 0) (rG (st3 (jvu S 13 0) (a : Int) o e) N B T X) (p := p) hp (fun x hx => jS_700 hs (by omega)) hs)) (fun v' h' hq' => ?_) (fun i h' hq' => by cases hq')
  cases hq'
  have hb := jib_le V p 13
  refine mj_T.if0 (a := ((jib V p 13 : Nat) : Int)) rfl ⟨by omega, by omega⟩ (fun hc => ?_) (fun hc => ?_)
  · simp only [jc, Bool.not_eq_true', decide_eq_false_iff_not] at hc
    have hsh := jib_short (V := V) (p := p) (by omega)
    refine mj_T.pl rfl rfl rfl rfl ?_
    refine rT_put (v := 0) hs rfl rfl (by decide) rfl (fun h1 hs1 => ?_)
    rw [st3_13] at hs1
    exact mj_T.ret rfl rfl rfl ⟨0, h1, hs1, Or.inl ⟨rfl, fun x hx => by
      have := hsh x hx
      show (V (p * 13 + x)).natAbs ≤ _
      omega⟩, rfl⟩
  · iterate 2 refine mj_T.pl rfl rfl rfl rfl ?_
    refine rT_put (v := 1) hs rfl rfl (by decide) rfl (fun h1 hs1 => ?_)
    rw [st3_13] at hs1
    exact mj_T.ret rfl rfl rfl ⟨1, h1, hs1, Or.inr ⟨rfl, fun q => jib_no (V := V) (p := p) 13 (by simp only [jc, Bool.not_eq_true', Bool.not_eq_false', decide_eq_true_eq, decide_eq_false_iff_not] at hc; omega) (fun e he => jnl_two.mpr (q e he))⟩, rfl⟩
theorem wv_tail (h9 : S 9 = (tm : Int)) (ht : tm ≤ 200) (hT : ∀ j : Nat, j < tm → 1 ≤ T j ∧ T j ≤ 255) {E c p b : Nat} {l2 : Option Value} (hE : 8 ≤ E) (hp1 : 23 ≤ p) (hp2 : p ≤ 49) (hc : c ≤ tm) (hr : rex T tm c = (true, b)) {V0 : Nat → Int} (hfr : ∀ s, 299 ≤ s → s < p * 13 → V s = V0 s) {w : pz_P} (hw : fit13 w) (hv : ∀ x, x < 13 → V (p * 13 + x) = w x) (hs : rS (st3 (jvu S 13 0) (c : Int) o e) N B T X V h) : mj_T E mj_m301 121 [some (.ref 0), some (.int (jn (p : Nat))), l2] [] h (wkV S N B T X V0 tm o e p b (zvx T tm (some w) c)) := by
  have hb := fit_18 hw hv
  have hle := rskp_le (T := T) hc
  iterate 2 refine mj_T.pl rfl rfl rfl rfl ?_
  refine mj_T.call (ins := .invokevirtual 354) rfl rfl (Nat.le_of_ble_eq_true rfl) (Nat.le_of_ble_eq_true rfl) (by simp [mj_recv, rS_f hs]) rfl (mj_Ok.up (by omega) (rd_takes (D := 0) (S := jvu S 13 0) (c := 94) ⟨by decide, by decide⟩ (w9 h9) ht hT hc hs)) (fun v' h1 hq' => ?_) (fun i h' hq' => by rcases hq' with ⟨_, _, _, _, h⟩ | ⟨_, _, _, h⟩ <;> cases h)
  rcases hq' with ⟨c2, _, ⟨b1, b2, b3⟩, hs1, hq'⟩ | ⟨_, b1, hs1, hq'⟩
  rotate_left
  · cases hq'
    have ee : b = rskp T tm c := by
      unfold rex at hr
      simp only [b1] at hr
      cases hr
      rfl
    refine mj_T.if0 (a := 0) rfl ⟨by decide, by decide⟩ (fun hc => ?_) (fun hc => ?_)
    · simp [jc] at hc
    exact mj_T.ret rfl rfl rfl ⟨V, _, 0, h1, hs1, hle, hfr, Or.inl ⟨rfl, ee.symm, w, by unfold zvx; rw [b1], hw, hv⟩, rfl⟩
  cases hq'
  have eZ : zvx T tm (some w) c = zvp (some w) (rnv T tm c2).toNat := by unfold zvx; rw [b1]
  rw [eZ]
  have hnm : rnm T tm 12 c2 = (true, b) := by
    unfold rex at hr
    simp only [b1] at hr
    exact hr
  refine mj_T.if0 (a := 1) rfl ⟨by decide, by decide⟩ (fun hc => ?_) (fun hc => ?_)
  rotate_left
  · simp [jc] at hc
  iterate 3 refine mj_T.pl rfl rfl rfl rfl ?_
  refine mj_T.call (ins := .invokevirtual 124) rfl rfl (Nat.le_of_ble_eq_true rfl) (Nat.le_of_ble_eq_true rfl) (by simp [mj_recv, rS_f hs1]) rfl (mj_Ok.up (by omega) (jp_copiesPoly (D := 0) (rG (st3 (jvu S 13 0) (c2 : Int) o e) N B T X) (p := 0) (q := p) (by decide) (by omega) (by omega) hs1)) (fun v' h2 hq' => ?_) (fun i h' hq' => by obtain ⟨_, _, h⟩ := hq'; cases h)
  obtain ⟨_, hs2, hq'⟩ := hq'
  cases hq'
  have q1 : ∀ x, x < 13 → jfl V 0 (fun x => V (p * 13 + x)) 13 (0 * 13 + x) = V (p * 13 + x) := fun x hx => jfl_at _ 0 _ hx
  have q2 : ∀ s, 13 ≤ s → jfl V 0 (fun x => V (p * 13 + x)) 13 s = V s := fun s hx => jfl_off _ 0 _ (by omega)
  generalize jfl V 0 (fun x => V (p * 13 + x)) 13 = W2 at hs2 q1 q2
  iterate 5 refine mj_T.pl rfl rfl rfl rfl ?_
  refine mj_T.call (ins := .invokevirtual 389) rfl rfl (Nat.le_of_ble_eq_true rfl) (Nat.le_of_ble_eq_true rfl) (by simp [mj_recv, rS_f hs2]) rfl (mj_Ok.up (by omega) (wk_number (D := 0) h9 ht hT b2 hs2)) (fun v' h3 hq' => ?_) (fun i h' hq' => by obtain ⟨_, _, _, _, h⟩ := hq'; cases h)
  obtain ⟨k, _, ⟨k1, k2⟩, hs3, hq'⟩ := hq'
  cases hq'
  have hin : ∀ j, rskp T tm c2 ≤ j → j < rskp T tm c2 + k → 48 ≤ T j ∧ T j ≤ 57 := fun j j1 j2 => rdg_in (T := T) (tm - rskp T tm c2) (rskp T tm c2) j j1 (by show j < rdgp T tm (rskp T tm c2); omega)
  have hbd := rvl_bd (T := T) (s := rskp T tm c2) k hin
  unfold rnm at hnm
  rw [← k1, Nat.add_sub_cancel_left] at hnm
  split at hnm
  rotate_left
  · cases hnm
  rename_i hq
  cases hnm
  obtain ⟨n, hn⟩ := Int.eq_ofNat_of_zero_le hbd.1
  have eN : (rnv T tm c2).toNat = n := by
    unfold rnv
    rw [← k1, Nat.add_sub_cancel_left, hn, Int.toNat_natCast]
  rw [eN]
  have eJ : jpo W2 0 = w := fit_jpo hw (fun x hx => (q1 x hx).trans (hv x hx))
  have hn12 : n ≤ 12 := by have := hq.2; omega
  refine mj_T.l2i rfl ?_
  rw [hn]
  refine mj_T.call (ins := .invokevirtual 229) rfl rfl (Nat.le_of_ble_eq_true rfl) (Nat.le_of_ble_eq_true rfl) (by simp [mj_recv, rS_f hs3]) rfl (mj_Ok.up (by omega) (jx_raises (D := 0) (rG (st3 (jvu S 13 0) ((rskp T tm c2 + k : Nat) : Int) o e) N B T X) (p := p) (a := 0) (al := 10 ^ 18) (n := n) (by omega) (by omega) (by decide) (by decide) (by omega) (by decide) (fun x hx => by rw [q1 x hx]; exact hb x hx) hn12 rp_small3 hs3)) (fun v' h4 hq' => ?_) (fun i h' hq' => by obtain ⟨_, _, _, _, ⟨h, _⟩ | ⟨h, _⟩⟩ := hq' <;> cases h)
  obtain ⟨W4, _, hs4, f4, ⟨hq', _, hbig⟩ | ⟨hq', hdg, hP⟩⟩ := hq'
  · cases hq'
    refine mj_T.if0 (a := 0) rfl ⟨by decide, by decide⟩ (fun hc => ?_) (fun hc => ?_)
    · simp [jc] at hc
    iterate 2 refine mj_T.pl rfl rfl rfl rfl ?_
    refine rT_put (v := 1) hs4 rfl rfl (by decide) rfl (fun h5 hs5 => ?_)
    rw [st3_13] at hs5
    refine mj_T.pl rfl rfl rfl rfl ?_
    refine rT_get hs5 rfl st3_g13 ?_
    refine mj_T.if0 (a := 1) rfl ⟨by decide, by decide⟩ (fun hc => ?_) (fun hc => ?_)
    · exact mj_T.ret rfl rfl rfl ⟨W4, _, 1, h5, hs5, k2, fun s s1 s2 => by rw [f4 s (by omega) (by omega) (by omega), q2 s (by omega), hfr s s1 s2], Or.inr ⟨rfl, zvf_n (by rw [← eJ]; exact pw_nofit hbig)⟩, rfl⟩
    · simp [jc] at hc
  · cases hq'
    refine mj_T.if0 (a := 1) rfl ⟨by decide, by decide⟩ (fun hc => ?_) (fun hc => ?_)
    rotate_left
    · simp [jc] at hc
    refine mj_T.pl rfl rfl rfl rfl ?_
    refine rT_put (v := 0) hs4 rfl rfl (by decide) rfl (fun h5 hs5 => ?_)
    rw [st3_13] at hs5
    refine mj_T.pl rfl rfl rfl rfl ?_
    refine rT_get hs5 rfl st3_g13 ?_
    refine mj_T.if0 (a := 0) rfl ⟨by decide, by decide⟩ (fun hc => ?_) (fun hc => ?_)
    · simp [jc] at hc
    iterate 2 refine mj_T.pl rfl rfl rfl rfl ?_
    refine mj_T.call (ins := .invokevirtual 383) rfl rfl (Nat.le_of_ble_eq_true rfl) (Nat.le_of_ble_eq_true rfl) (by simp [mj_recv, rS_f hs5]) rfl (mj_Ok.up (by omega) (wv_bounds (D := 0) (p := p) (by omega) hs5)) (fun v' h6 hq' => ?_) (fun i h' hq' => by obtain ⟨_, _, _, _, h⟩ := hq'; cases h)
    obtain ⟨y, _, hs6, hy, hq'⟩ := hq'
    cases hq'
    exact mj_T.ret rfl rfl rfl ⟨W4, _, y, h6, hs6, k2, fun s s1 s2 => by rw [f4 s (by omega) (by omega) (by omega), q2 s (by omega), hfr s s1 s2], by
      rw [eJ] at hP
      have hz : ∀ i, 13 ≤ i → pw w n i = 0 := by
        rw [← eJ]
        exact pw_z (d := jdg W2 0 13 - 1) (fun i hi => jpo_zb (by omega)) hdg
      rcases hy with ⟨y1, y2⟩ | ⟨y1, y2⟩
      · have hf : fit13 (pw w n) := ⟨sml_cg hP y2, hz⟩
        exact Or.inl ⟨y1, rfl, _, zvf_y hf, hf, hP⟩
      · exact Or.inr ⟨y1, zvf_n (fun q => y2 (sml_cg (fun x hx => (hP x hx).symm) q.1))⟩, rfl⟩
end RWV
section RWU
variable {S N B T X V : Nat → Int} {h : mj_H} {tm : Nat} {o e : Int}
theorem wv_power_step (h9 : S 9 = (tm : Int)) (ht : tm ≤ 200) (hT : ∀ j : Nat, j < tm → 1 ≤ T j ∧ T j ≤ 255) {f d a p b : Nat} (hp1 : 23 ≤ p) (hp2 : p + 3 * d ≤ 49) (ha : a ≤ tm) (hr : rpr0 T tm (f + 1) 0 d a = some (true, b)) (hs : rS (st3 (jvu S 13 0) (a : Int) o e) N B T X V h)
    (ih : ∀ (d2 a2 p2 b2 : Nat) (V : Nat → Int) (h : mj_H), d = d2 + 1 → 23 ≤ p2 → p2 + 2 + 3 * d2 ≤ 49 → a2 ≤ tm → rpr0 T tm f 3 d2 a2 = some (true, b2) → rS (st3 (jvu S 13 0) (a2 : Int) o e) N B T X V h → mj_Ok (4 * d2 + 14) 299 [.ref 0, .int (jn (p2 : Nat))] h (wkV S N B T X V tm o e p2 b2 (zv0 T tm f 3 d2 a2 none 1))) : mj_Ok (4 * d + 12) 301 [.ref 0, .int (jn (p : Nat))] h (wkV S N B T X V tm o e p b (zv0 T tm (f + 1) 0 d a none 1)) := by
  refine mj_Ok.of (M := mj_m301) rfl rfl rfl ?_
  have hle := rskp_le (T := T) ha
  have hge := rskp_ge (T := T) (tm := tm) a
  refine mj_T.pl rfl rfl rfl rfl ?_
  refine mj_T.call (ins := .invokevirtual 348) rfl rfl (Nat.le_of_ble_eq_true rfl) (Nat.le_of_ble_eq_true rfl) (by simp [mj_recv, rS_f hs]) rfl (mj_Ok.up (by omega) (rd_skips (D := 0) (S := jvu S 13 0) (w9 h9) ht hT ha hs)) (fun v' h1 hq' => ?_) (fun i h' hq' => by obtain ⟨_, _, h⟩ := hq'; cases h)
  obtain ⟨_, hs1, hq'⟩ := hq'
  cases hq'
  have hid := rskp_idem (T := T) ha
  have eVal : zv0 T tm (f + 1) 0 d a none 1 = if rskp T tm a < tm ∧ T (rskp T tm a) = 120 then zvx T tm (some pz_x) (rskp T tm a + 1) else if rskp T tm a < tm ∧ T (rskp T tm a) = 40 then (match rpr0 T tm f 3 (d - 1) (rskp T tm a + 1) with | some (true, c) => (match rtk T tm 41 c with | some e => zvx T tm (zv0 T tm f 3 (d - 1) (rskp T tm a + 1) none 1) e | none => none) | _ => none) else zvx T tm (some (pz_k (rnv T tm a))) (rdgp T tm (rskp T tm a)) := rfl
  have eNv : rnv T tm a = rvl T (rskp T tm a) (rdgp T tm (rskp T tm a) - rskp T tm a) := rfl
  unfold rpr0 at hr
  obtain ⟨s, hsdef⟩ : ∃ s, rskp T tm a = s := ⟨_, rfl⟩
  rw [hsdef] at hs1 hle hge hr hid eVal eNv
  have hst : s < tm := by
    by_cases q : s < tm
    · exact q
    · rw [if_neg (fun z => q z.1), if_neg (fun z => q z.1)] at hr
      rcases hx : rnm T tm 9223372036854775807 s with ⟨z1, z2⟩
      rw [hx] at hr
      cases z1 with
      | false => cases hr
      | true =>
        have := rnm_bd (T := T) hle hx rfl
        have h2 : s < z2 ∧ z2 ≤ tm := this
        omega
  have hTs := hT s hst
  refine mj_T.pl rfl rfl rfl rfl ?_
  refine rT_get hs1 rfl rfl ?_
  refine mj_T.pl rfl rfl rfl rfl ?_
  refine rT_get hs1 rfl st3_g10 ?_
  refine rT_ldT hs1 rfl ⟨by omega, by omega⟩ ?_
  rw [Int.toNat_natCast]
  refine mj_T.pl rfl rfl rfl rfl ?_
  refine mj_T.icmp (a := T s) (b := 120) rfl ⟨by omega, by omega⟩ ⟨by decide, by decide⟩ (fun hc2 => ?_) (fun hc2 => ?_)
  rotate_left
  · simp only [jc, Bool.not_eq_false', decide_eq_true_eq] at hc2
    rw [if_pos ⟨hst, hc2⟩] at hr eVal
    rw [eVal]
    iterate 2 refine mj_T.pl rfl rfl rfl rfl ?_
    refine rT_get hs1 rfl st3_g10 ?_
    refine mj_T.pl rfl rfl rfl rfl ?_
    refine mj_T.iadd (a := (s : Int)) (b := 1) rfl ?_
    rw [show (s : Int) + 1 = ((s + 1 : Nat) : Int) by omega]
    refine rT_put (v := ((s + 1 : Nat) : Int)) hs1 rfl rfl (by decide) rfl (fun h2 hs2 => ?_)
    rw [st3_10] at hs2
    iterate 2 refine mj_T.pl rfl rfl rfl rfl ?_
    refine mj_T.call (ins := .invokevirtual 110) rfl rfl (Nat.le_of_ble_eq_true rfl) (Nat.le_of_ble_eq_true rfl) (by simp [mj_recv, rS_f hs2]) rfl (mj_Ok.up (by omega) (jp_empties (D := 0) (rG (st3 (jvu S 13 0) ((s + 1 : Nat) : Int) o e) N B T X) (p := p) (by omega) hs2)) (fun v' h3 hq' => ?_) (fun i h' hq' => by obtain ⟨_, _, h⟩ := hq'; cases h)
    obtain ⟨_, hs3, hq'⟩ := hq'
    cases hq'
    have q1 : ∀ x, x < 13 → jfl V p (fun _ => 0) 13 (p * 13 + x) = 0 := fun x hx => jfl_at _ p _ hx
    have q2 : ∀ s, s < p * 13 → jfl V p (fun _ => 0) 13 s = V s := fun s hx => jfl_off _ p _ (by omega)
    generalize jfl V p (fun _ => 0) 13 = W1 at hs3 q1 q2
    iterate 3 refine mj_T.pl rfl rfl rfl rfl ?_
    refine mj_T.call (ins := .invokestatic 104) rfl rfl (Nat.le_of_ble_eq_true rfl) (Nat.le_of_ble_eq_true rfl) rfl rfl (mj_Ok.up (by omega) (jq_slot (D := 0) (p := p) (i := 1))) (fun v' h' hq' => ?_) (fun i h' hq' => by cases hq')
    cases hq'
    refine mj_T.pl rfl rfl rfl rfl ?_
    refine mj_T.call (ins := .invokevirtual 45) rfl rfl (Nat.le_of_ble_eq_true rfl) (Nat.le_of_ble_eq_true rfl) (by simp [mj_recv, rS_f hs3]) rfl (mj_Ok.up (by omega) (jS_sets (D := 0) (rG (st3 (jvu S 13 0) ((s + 1 : Nat) : Int) o e) N B T X) (s := p * 13 + 1) (v := 1) (by omega) ⟨by decide, by decide⟩ hs3)) (fun v' h4 hq' => ?_) (fun i h' hq' => by obtain ⟨_, _, h⟩ := hq'; cases h)
    obtain ⟨_, hs4, hq'⟩ := hq'
    cases hq'
    refine mj_T.pl rfl rfl rfl rfl ?_
    refine wv_tail (E := 4 * d + 11) h9 ht hT (by omega) hp1 (by omega) (by omega : s + 1 ≤ tm) (Option.some.inj hr) (fun s s1 s2 => by rw [jvu_ne _ _ _ (by omega), q2 s s2]) fit_x (fun x hx => ?_) hs4
    by_cases x1 : x = 1
    · subst x1
      rw [jvu_at]
      rfl
    · rw [jvu_ne _ _ _ (by omega), q1 x hx]
      exact (if_neg x1).symm
  simp only [jc, Bool.not_eq_true', decide_eq_false_iff_not] at hc2
  rw [if_neg (fun z => hc2 z.2)] at hr eVal
  refine mj_T.pl rfl rfl rfl rfl ?_
  refine rT_get hs1 rfl rfl ?_
  refine mj_T.pl rfl rfl rfl rfl ?_
  refine rT_get hs1 rfl st3_g10 ?_
  refine rT_ldT hs1 rfl ⟨by omega, by omega⟩ ?_
  rw [Int.toNat_natCast]
  refine mj_T.pl rfl rfl rfl rfl ?_
  refine mj_T.icmp (a := T s) (b := 40) rfl ⟨by omega, by omega⟩ ⟨by decide, by decide⟩ (fun hc3 => ?_) (fun hc3 => ?_)
  · simp only [jc, Bool.not_eq_true', decide_eq_false_iff_not] at hc3
    rw [if_neg (fun z => hc3 z.2)] at hr eVal
    rcases hx : rnm T tm 9223372036854775807 s with ⟨z1, z2⟩
    rw [hx] at hr
    cases z1 with
    | false => cases hr
    | true =>
    have hzb : s < z2 ∧ z2 ≤ tm := rnm_bd (T := T) hle hx rfl
    iterate 2 refine mj_T.pl rfl rfl rfl rfl ?_
    refine mj_T.call (ins := .invokevirtual 110) rfl rfl (Nat.le_of_ble_eq_true rfl) (Nat.le_of_ble_eq_true rfl) (by simp [mj_recv, rS_f hs1]) rfl (mj_Ok.up (by omega) (jp_empties (D := 0) (rG (st3 (jvu S 13 0) (s : Int) o e) N B T X) (p := p) (by omega) hs1)) (fun v' h3 hq' => ?_) (fun i h' hq' => by obtain ⟨_, _, h⟩ := hq'; cases h)
    obtain ⟨_, hs3, hq'⟩ := hq'
    cases hq'
    have q1 : ∀ x, x < 13 → jfl V p (fun _ => 0) 13 (p * 13 + x) = 0 := fun x hx => jfl_at _ p _ hx
    have q2 : ∀ s, s < p * 13 → jfl V p (fun _ => 0) 13 s = V s := fun s hx => jfl_off _ p _ (by omega)
    generalize jfl V p (fun _ => 0) 13 = W1 at hs3 q1 q2
    iterate 3 refine mj_T.pl rfl rfl rfl rfl ?_
    refine mj_T.call (ins := .invokestatic 104) rfl rfl (Nat.le_of_ble_eq_true rfl) (Nat.le_of_ble_eq_true rfl) rfl rfl (mj_Ok.up (by omega) (jq_slot (D := 0) (p := p) (i := 0))) (fun v' h' hq' => ?_) (fun i h' hq' => by cases hq')
    cases hq'
    refine mj_T.pl rfl rfl rfl rfl ?_
    refine mj_T.call (ins := .invokevirtual 389) rfl rfl (Nat.le_of_ble_eq_true rfl) (Nat.le_of_ble_eq_true rfl) (by simp [mj_recv, rS_f hs3]) rfl (mj_Ok.up (by omega) (wk_number (D := 0) h9 ht hT hle hs3)) (fun v' h4 hq' => ?_) (fun i h' hq' => by obtain ⟨_, _, _, _, h⟩ := hq'; cases h)
    obtain ⟨k, _, ⟨k1, k2⟩, hs4, hq'⟩ := hq'
    cases hq'
    rw [hid] at k1 k2 hs4
    have hin : ∀ j, s ≤ j → j < s + k → 48 ≤ T j ∧ T j ≤ 57 := fun j j1 j2 => rdg_in (T := T) (tm - s) s j j1 (by show j < rdgp T tm s; omega)
    have hbd := rvl_bd (T := T) (s := s) k hin
    have hz2 : z2 = s + k ∧ k ≤ 18 := by
      unfold rnm at hx
      rw [hid, ← k1, Nat.add_sub_cancel_left] at hx
      split at hx
      · rename_i q
        cases hx
        exact ⟨rfl, q.1.2⟩
      · cases hx
    have hpw : 10 ^ k ≤ 10 ^ 18 := Nat.pow_le_pow_right (by decide) hz2.2
    rw [hid]
    refine mj_T.call (ins := .invokevirtual 45) rfl rfl (Nat.le_of_ble_eq_true rfl) (Nat.le_of_ble_eq_true rfl) (by simp [mj_recv, rS_f hs4]) rfl (mj_Ok.up (by omega) (jS_sets (D := 0) (rG (st3 (jvu S 13 0) ((s + k : Nat) : Int) o e) N B T X) (s := p * 13 + 0) (v := rvl T s k) (by omega) ⟨by omega, by omega⟩ hs4)) (fun v' h5 hq' => ?_) (fun i h' hq' => by obtain ⟨_, _, h⟩ := hq'; cases h)
    obtain ⟨_, hs5, hq'⟩ := hq'
    cases hq'
    have hr2 : rex T tm z2 = (true, b) := Option.some.inj hr
    rw [hz2.1] at hr2
    rw [← k1, Nat.add_sub_cancel_left] at eNv
    rw [eVal, eNv, ← k1]
    refine wv_tail (E := 4 * d + 11) h9 ht hT (by omega) hp1 (by omega) k2 hr2 (fun s s1 s2 => by rw [jvu_ne _ _ _ (by omega), q2 s s2]) (fit_k (by omega)) (fun x hx => ?_) hs5
    by_cases x1 : x = 0
    · subst x1
      rw [jvu_at]
      rfl
    · rw [jvu_ne _ _ _ (by omega), q1 x hx]
      exact (if_neg x1).symm
  simp only [jc, Bool.not_eq_false', decide_eq_true_eq] at hc3
  rw [if_pos ⟨hst, hc3⟩] at hr eVal
  by_cases hd0 : d = 0
  · rw [if_pos hd0] at hr
    cases hr
  rw [if_neg hd0] at hr
  obtain ⟨d2, rfl⟩ : ∃ d2, d = d2 + 1 := ⟨d - 1, by omega⟩
  rw [Nat.add_sub_cancel] at hr eVal
  rcases hy : rpr0 T tm f 3 d2 (s + 1) with _ | ⟨z1, z2⟩
  · rw [hy] at hr
    cases hr
  rw [hy] at hr eVal
  cases z1 with
  | false => cases hr
  | true =>
  iterate 2 refine mj_T.pl rfl rfl rfl rfl ?_
  refine rT_get hs1 rfl st3_g10 ?_
  refine mj_T.pl rfl rfl rfl rfl ?_
  refine mj_T.iadd (a := (s : Int)) (b := 1) rfl ?_
  rw [show (s : Int) + 1 = ((s + 1 : Nat) : Int) by omega]
  refine rT_put (v := ((s + 1 : Nat) : Int)) hs1 rfl rfl (by decide) rfl (fun h2 hs2 => ?_)
  rw [st3_10] at hs2
  iterate 3 refine mj_T.pl rfl rfl rfl rfl ?_
  refine mj_T.iadd (a := (p : Int)) (b := 1) rfl ?_
  rw [show (p : Int) + 1 = ((p + 1 : Nat) : Int) by omega]
  refine mj_T.call (ins := .invokevirtual 268) rfl rfl (Nat.le_of_ble_eq_true rfl) (Nat.le_of_ble_eq_true rfl) (by simp [mj_recv, rS_f hs2]) rfl (mj_Ok.up (by omega) (ih d2 (s + 1) (p + 1) z2 V h2 rfl (by omega) (by omega) (by omega) hy hs2)) (fun v' h3 hq' => ?_) (fun i h' hq' => by obtain ⟨_, _, _, _, _, _, _, _, h⟩ := hq'; cases h)
  obtain ⟨V3, c3, y3, _, hs3, hc3l, hf3, hy3, hq'⟩ := hq'
  cases hq'
  refine mj_T.pl rfl rfl rfl rfl ?_
  refine rT_get hs3 rfl st3_g13 ?_
  rcases hy3 with ⟨y0, c0, w3, hv3, hw3, hb3⟩ | ⟨y1, hv3⟩
  rotate_left
  · subst y1
    refine mj_T.if0 (a := 1) rfl ⟨by decide, by decide⟩ (fun hc => ?_) (fun hc => ?_)
    · simp [jc] at hc
    refine mj_T.ret rfl rfl rfl ⟨V3, c3, 1, h3, hs3, hc3l, fun s s1 s2 => hf3 s s1 (by omega), Or.inr ⟨rfl, ?_⟩, rfl⟩
    rcases hk : rtk T tm 41 z2 with _ | c5
    · simp only [hk] at hr
      cases hr
    · simp only [hk] at eVal
      rw [eVal, hv3]
      unfold zvx
      split <;> rfl
  subst y0
  subst c0
  refine mj_T.if0 (a := 0) rfl ⟨by decide, by decide⟩ (fun hc => ?_) (fun hc => ?_)
  rotate_left
  · simp [jc] at hc
  iterate 4 refine mj_T.pl rfl rfl rfl rfl ?_
  refine mj_T.iadd (a := (p : Int)) (b := 1) rfl ?_
  rw [show (p : Int) + 1 = ((p + 1 : Nat) : Int) by omega]
  refine mj_T.call (ins := .invokevirtual 124) rfl rfl (Nat.le_of_ble_eq_true rfl) (Nat.le_of_ble_eq_true rfl) (by simp [mj_recv, rS_f hs3]) rfl (mj_Ok.up (by omega) (jp_copiesPoly (D := 0) (rG (st3 (jvu S 13 0) (c3 : Int) o e) N B T X) (p := p) (q := p + 1) (by omega) (by omega) (by omega) hs3)) (fun v' h4 hq' => ?_) (fun i h' hq' => by obtain ⟨_, _, h⟩ := hq'; cases h)
  obtain ⟨_, hs4, hq'⟩ := hq'
  cases hq'
  have q1 : ∀ x, x < 13 → jfl V3 p (fun x => V3 ((p + 1) * 13 + x)) 13 (p * 13 + x) = V3 ((p + 1) * 13 + x) := fun x hx => jfl_at _ p _ hx
  have q2 : ∀ s, s < p * 13 → jfl V3 p (fun x => V3 ((p + 1) * 13 + x)) 13 s = V3 s := fun s hx => jfl_off _ p _ (by omega)
  generalize jfl V3 p (fun x => V3 ((p + 1) * 13 + x)) 13 = W4 at hs4 q1 q2
  iterate 2 refine mj_T.pl rfl rfl rfl rfl ?_
  refine mj_T.call (ins := .invokevirtual 354) rfl rfl (Nat.le_of_ble_eq_true rfl) (Nat.le_of_ble_eq_true rfl) (by simp [mj_recv, rS_f hs4]) rfl (mj_Ok.up (by omega) (rd_takes (D := 0) (S := jvu S 13 0) (c := 41) ⟨by decide, by decide⟩ (w9 h9) ht hT hc3l hs4)) (fun v' h5 hq' => ?_) (fun i h' hq' => by rcases hq' with ⟨_, _, _, _, h⟩ | ⟨_, _, _, h⟩ <;> cases h)
  rcases hq' with ⟨c5, _, ⟨b1, b2, b3⟩, hs5, hq'⟩ | ⟨_, b1, hs5, hq'⟩
  rotate_left
  · simp only [b1] at hr
    cases hr
  cases hq'
  simp only [b1] at hr eVal
  rw [eVal, hv3]
  iterate 2 refine mj_T.pl rfl rfl rfl rfl ?_
  exact wv_tail (E := 4 * (d2 + 1) + 11) h9 ht hT (by omega) hp1 (by omega) b2 (Option.some.inj hr) (fun s s1 s2 => by rw [q2 s s2, hf3 s s1 (by omega)]) hw3 (fun x hx => by rw [q1 x hx]; exact hb3 x hx) hs5
theorem wv_prod_loop (h9 : S 9 = (tm : Int)) (ht : tm ≤ 200) (hT : ∀ j : Nat, j < tm → 1 ≤ T j ∧ T j ≤ 255) {d p b : Nat} {V0 : Nat → Int} (hp1 : 23 ≤ p) (hp2 : p + 1 + 3 * d ≤ 49) :
    ∀ f, (∀ f2, f2 < f → ∀ (a b2 : Nat) (V : Nat → Int) (h : mj_H), a ≤ tm → rpr0 T tm f2 0 d a = some (true, b2) → rS (st3 (jvu S 13 0) (a : Int) o e) N B T X V h → mj_Ok (4 * d + 12) 301 [.ref 0, .int (jn ((p + 1 : Nat) : Int))] h (wkV S N B T X V tm o e (p + 1) b2 (zv0 T tm f2 0 d a none 1))) →
    ∀ (c : Nat) (V : Nat → Int) (h : mj_H) (w : pz_P), fit13 w → (∀ x, x < 13 → V (p * 13 + x) = w x) → c ≤ tm → (match rtk T tm 42 c with
      | none => some (true, rskp T tm c)
      | some e => rpr0 T tm f 1 d e) = some (true, b) → rS (st3 (jvu S 13 0) (c : Int) o e) N B T X V h → (∀ s, 299 ≤ s → s < p * 13 → V s = V0 s) → mj_T (4 * d + 12) mj_m300 23 [some (.ref 0), some (.int (jn (p : Nat)))] [] h (wkV S N B T X V0 tm o e p b (match rtk T tm 42 c with | none => some w | some e => zv0 T tm f 1 d e (some w) 1)) := by
  intro f
  induction f with
  | zero =>
    intro _ c V h w hw hv hc hr hs hfr
    have hle := rskp_le (T := T) hc
    iterate 2 refine mj_T.pl rfl rfl rfl rfl ?_
    refine mj_T.call (ins := .invokevirtual 354) rfl rfl (Nat.le_of_ble_eq_true rfl) (Nat.le_of_ble_eq_true rfl) (by simp [mj_recv, rS_f hs]) rfl (mj_Ok.up (by omega) (rd_takes (D := 0) (S := jvu S 13 0) (c := 42) ⟨by decide, by decide⟩ (w9 h9) ht hT hc hs)) (fun v' h1 hq' => ?_) (fun i h' hq' => by rcases hq' with ⟨_, _, _, _, h⟩ | ⟨_, _, _, h⟩ <;> cases h)
    rcases hq' with ⟨c2, _, ⟨b1, b2, b3⟩, hs1, hq'⟩ | ⟨_, b1, hs1, hq'⟩
    · simp only [b1] at hr
      cases hr
    · cases hq'
      simp only [b1] at hr
      cases hr
      refine mj_T.if0 (a := 0) rfl ⟨by decide, by decide⟩ (fun hc => ?_) (fun hc => ?_)
      · exact mj_T.ret rfl rfl rfl ⟨V, _, 0, h1, hs1, hle, hfr, Or.inl ⟨rfl, rfl, w, by rw [b1], hw, hv⟩, rfl⟩
      · simp [jc] at hc
  | succ f ihf =>
    intro ih0 c V h w hw hv hc hr hs hfr
    have hb := fit_18 hw hv
    have hle := rskp_le (T := T) hc
    iterate 2 refine mj_T.pl rfl rfl rfl rfl ?_
    refine mj_T.call (ins := .invokevirtual 354) rfl rfl (Nat.le_of_ble_eq_true rfl) (Nat.le_of_ble_eq_true rfl) (by simp [mj_recv, rS_f hs]) rfl (mj_Ok.up (by omega) (rd_takes (D := 0) (S := jvu S 13 0) (c := 42) ⟨by decide, by decide⟩ (w9 h9) ht hT hc hs)) (fun v' h1 hq' => ?_) (fun i h' hq' => by rcases hq' with ⟨_, _, _, _, h⟩ | ⟨_, _, _, h⟩ <;> cases h)
    rcases hq' with ⟨c2, _, ⟨b1, b2, b3⟩, hs1, hq'⟩ | ⟨_, b1, hs1, hq'⟩
    rotate_left
    · cases hq'
      simp only [b1] at hr
      cases hr
      refine mj_T.if0 (a := 0) rfl ⟨by decide, by decide⟩ (fun hc => ?_) (fun hc => ?_)
      · exact mj_T.ret rfl rfl rfl ⟨V, _, 0, h1, hs1, hle, hfr, Or.inl ⟨rfl, rfl, w, by rw [b1], hw, hv⟩, rfl⟩
      · simp [jc] at hc
    cases hq'
    simp only [b1] at hr ⊢
    have eVal : zv0 T tm (f + 1) 1 d c2 (some w) 1 = match rpr0 T tm f 0 d c2 with | some (true, c) => (match rtk T tm 42 c with | none => zvm (some w) (zv0 T tm f 0 d c2 none 1) | some e => zv0 T tm f 1 d e (zvm (some w) (zv0 T tm f 0 d c2 none 1)) 1) | _ => none := rfl
    unfold rpr0 at hr
    rcases hy : rpr0 T tm f 0 d c2 with _ | ⟨z1, z2⟩
    · rw [hy] at hr
      cases hr
    rw [hy] at hr eVal
    cases z1 with
    | false => cases hr
    | true =>
    refine mj_T.if0 (a := 1) rfl ⟨by decide, by decide⟩ (fun hc => ?_) (fun hc => ?_)
    · simp [jc] at hc
    iterate 3 refine mj_T.pl rfl rfl rfl rfl ?_
    refine mj_T.iadd (a := (p : Int)) (b := 1) rfl ?_
    rw [show (p : Int) + 1 = ((p + 1 : Nat) : Int) by omega]
    refine mj_T.call (ins := .invokevirtual 386) rfl rfl (Nat.le_of_ble_eq_true rfl) (Nat.le_of_ble_eq_true rfl) (by simp [mj_recv, rS_f hs1]) rfl (mj_Ok.up (by omega) (ih0 f (by omega) c2 z2 V h1 b2 hy hs1)) (fun v' h2 hq' => ?_) (fun i h' hq' => by obtain ⟨_, _, _, _, _, _, _, _, h⟩ := hq'; cases h)
    obtain ⟨V2, c3, y2, _, hs2, hc2l, hf2, hy2, hq'⟩ := hq'
    cases hq'
    have hfr2 : (∀ s, 299 ≤ s → s < p * 13 → V2 s = V0 s) := fun s s1 s2 => by rw [hf2 s s1 (by omega), hfr s s1 s2]
    iterate 2 refine mj_T.pl rfl rfl rfl rfl ?_
    refine rT_get hs2 rfl st3_g13 ?_
    have hnone : zvm (some w) (zv0 T tm f 0 d c2 none 1) = none → zv0 T tm (f + 1) 1 d c2 (some w) 1 = none := fun q => by
      rw [eVal]
      simp only [q, zv0_n1]
      split <;> rfl
    have t58 : zvm (some w) (zv0 T tm f 0 d c2 none 1) = none → ∀ y, rS (st3 (jvu S 13 y) (c3 : Int) o e) N B T X V2 h2 → mj_T (4 * d + 12) mj_m300 58 [some (.ref 0), some (.int (jn (p : Nat)))] [.ref 0] h2 (wkV S N B T X V0 tm o e p b (zv0 T tm (f + 1) 1 d c2 (some w) 1)) := fun hz0 y hsy => by
      iterate 2 refine mj_T.pl rfl rfl rfl rfl ?_
      refine rT_put (v := 1) hsy rfl rfl (by decide) rfl (fun h5 hs5 => ?_)
      rw [st3_13] at hs5
      refine mj_T.pl rfl rfl rfl rfl ?_
      refine rT_get hs5 rfl st3_g13 ?_
      refine mj_T.if0 (a := 1) rfl ⟨by decide, by decide⟩ (fun hc => ?_) (fun hc => ?_)
      · simp [jc] at hc
      exact mj_T.ret rfl rfl rfl ⟨V2, c3, 1, h5, hs5, hc2l, hfr2, Or.inr ⟨rfl, hnone hz0⟩, rfl⟩
    rcases hy2 with ⟨y0, c0, w2, hv2, hw2, hb2'⟩ | ⟨y1, hv2⟩
    rotate_left
    · subst y1
      refine mj_T.if0 (a := 1) rfl ⟨by decide, by decide⟩ (fun hc => ?_) (fun hc => ?_)
      · exact t58 (by rw [hv2]; rfl) 1 hs2
      · simp [jc] at hc
    subst y0
    subst c0
    have hb2 := fit_18 hw2 hb2'
    have eA : jpo V2 p = w := fit_jpo hw (fun x hx => (hf2 _ (by omega) (by omega)).trans (hv x hx))
    have eB : jpo V2 (p + 1) = w2 := fit_jpo hw2 hb2'
    refine mj_T.if0 (a := 0) rfl ⟨by decide, by decide⟩ (fun hc => ?_) (fun hc => ?_)
    · simp [jc] at hc
    iterate 4 refine mj_T.pl rfl rfl rfl rfl ?_
    refine mj_T.iadd (a := (p : Int)) (b := 1) rfl ?_
    rw [show (p : Int) + 1 = ((p + 1 : Nat) : Int) by omega]
    have hbp : (∀ x, x < 13 → (V2 (p * 13 + x)).natAbs ≤ 10 ^ 18) := fun x hx => by rw [hf2 _ (by omega) (by omega)]; exact hb x hx
    refine mj_T.call (ins := .invokevirtual 223) rfl rfl (Nat.le_of_ble_eq_true rfl) (Nat.le_of_ble_eq_true rfl) (by simp [mj_recv, rS_f hs2]) rfl (mj_Ok.up (by omega) (jp_isTooHigh (D := 0) (rG (st3 (jvu S 13 0) (c3 : Int) o e) N B T X) (a := p) (b := p + 1) (by omega) (by omega) hs2)) (fun v' h' hq' => ?_) (fun i h' hq' => by rcases hq' with ⟨_, _, _, h⟩ | ⟨_, h⟩ <;> cases h)
    rcases hq' with ⟨th1, th2, th3, hq'⟩ | ⟨hdeg, hq'⟩
    · cases hq'
      refine mj_T.if0 (a := 1) rfl ⟨by decide, by decide⟩ (fun hc => ?_) (fun hc => ?_)
      · simp [jc] at hc
      exact t58 (by rw [hv2]; exact zvf_n (by rw [← eA, ← eB]; exact jpo_big th1 th2 th3)) 0 hs2
    cases hq'
    refine mj_T.if0 (a := 0) rfl ⟨by decide, by decide⟩ (fun hc => ?_) (fun hc => ?_)
    rotate_left
    · simp [jc] at hc
    refine mj_T.pl rfl rfl rfl rfl ?_
    refine rT_put (v := 0) hs2 rfl rfl (by decide) rfl (fun h5 hs5 => ?_)
    rw [st3_13] at hs5
    refine mj_T.pl rfl rfl rfl rfl ?_
    refine rT_get hs5 rfl st3_g13 ?_
    refine mj_T.if0 (a := 0) rfl ⟨by decide, by decide⟩ (fun hc => ?_) (fun hc => ?_)
    rotate_left
    · simp [jc] at hc
    iterate 5 refine mj_T.pl rfl rfl rfl rfl ?_
    refine mj_T.iadd (a := (p : Int)) (b := 1) rfl ?_
    rw [show (p : Int) + 1 = ((p + 1 : Nat) : Int) by omega]
    refine mj_T.call (ins := .invokevirtual 121) rfl rfl (Nat.le_of_ble_eq_true rfl) (Nat.le_of_ble_eq_true rfl) (by simp [mj_recv, rS_f hs5]) rfl (mj_Ok.up (by omega) (jx_multipliesPoly (D := 0) (V := V2) (rG (st3 (jvu S 13 0) (c3 : Int) o e) N B T X) (to := 7) (a := p) (b := p + 1) (by decide) (by omega) (by omega) (by omega) (by omega) hbp hb2 hdeg rp_small2 hs5)) (fun v' h6 hq' => ?_) (fun i h' hq' => by obtain ⟨_, _, _, _, _, _, _, h⟩ := hq'; cases h)
    obtain ⟨V6, _, hs6, m1, m2, _, hM, hq'⟩ := hq'
    cases hq'
    iterate 3 refine mj_T.pl rfl rfl rfl rfl ?_
    refine mj_T.call (ins := .invokevirtual 124) rfl rfl (Nat.le_of_ble_eq_true rfl) (Nat.le_of_ble_eq_true rfl) (by simp [mj_recv, rS_f hs6]) rfl (mj_Ok.up (by omega) (jp_copiesPoly (D := 0) (rG (st3 (jvu S 13 0) (c3 : Int) o e) N B T X) (p := p) (q := 7) (by omega) (by decide) (by omega) hs6)) (fun v' h7 hq' => ?_) (fun i h' hq' => by obtain ⟨_, _, h⟩ := hq'; cases h)
    obtain ⟨_, hs7, hq'⟩ := hq'
    cases hq'
    have q1 : ∀ x, x < 13 → jfl V6 p (fun x => V6 (7 * 13 + x)) 13 (p * 13 + x) = V6 (7 * 13 + x) := fun x hx => jfl_at _ p _ hx
    have q2 : ∀ s, s < p * 13 → jfl V6 p (fun x => V6 (7 * 13 + x)) 13 s = V6 s := fun s hx => jfl_off _ p _ (by omega)
    generalize jfl V6 p (fun x => V6 (7 * 13 + x)) 13 = W7 at hs7 q1 q2
    have hP7 : ∀ x, x < 13 → W7 (p * 13 + x) = pz_mul w w2 x := fun x hx => by
      rw [q1 x hx, hM x hx, prs_mul, eA, eB]
    have hz7 : ∀ i, 13 ≤ i → pz_mul w w2 i = 0 := fun i hi => by
      rw [← eA, ← eB]
      have ha1 := jdg_le V2 p 13
      have hb1 := jdg_le V2 (p + 1) 13
      exact pz_lt.mul (c := 13) (jpo_ltd V2 p) (jpo_ltd V2 (p + 1)) (by omega) i hi
    have hfr7 : (∀ s, 299 ≤ s → s < p * 13 → W7 s = V0 s) := fun s s1 s2 => by rw [q2 s s2, m1 s (by omega) (by omega), hfr2 s s1 s2]
    iterate 2 refine mj_T.pl rfl rfl rfl rfl ?_
    refine mj_T.call (ins := .invokevirtual 383) rfl rfl (Nat.le_of_ble_eq_true rfl) (Nat.le_of_ble_eq_true rfl) (by simp [mj_recv, rS_f hs7]) rfl (mj_Ok.up (by omega) (wv_bounds (D := 0) (p := p) (by omega) hs7)) (fun v' h8 hq' => ?_) (fun i h' hq' => by obtain ⟨_, _, _, _, h⟩ := hq'; cases h)
    obtain ⟨y, _, hs8, hy8, hq'⟩ := hq'
    cases hq'
    refine mj_T.pl rfl rfl rfl rfl ?_
    refine rT_get hs8 rfl st3_g13 ?_
    rcases hy8 with ⟨y1, y2⟩ | ⟨y1, y2⟩
    · subst y1
      refine mj_T.if0 (a := 0) rfl ⟨by decide, by decide⟩ (fun hc => ?_) (fun hc => ?_)
      rotate_left
      · simp [jc] at hc
      have hf7 : fit13 (pz_mul w w2) := ⟨sml_cg hP7 y2, hz7⟩
      have e7 : zvm (some w) (zv0 T tm f 0 d c2 none 1) = some (pz_mul w w2) := by
        rw [hv2]
        exact zvf_y hf7
      rw [e7] at eVal
      rw [eVal]
      exact ihf (fun f2 hf2 => ih0 f2 (by omega)) c3 W7 h8 _ hf7 hP7 hc2l hr hs8 hfr7
    · subst y1
      refine mj_T.if0 (a := 1) rfl ⟨by decide, by decide⟩ (fun hc => ?_) (fun hc => ?_)
      · simp [jc] at hc
      exact mj_T.ret rfl rfl rfl ⟨W7, c3, 1, h8, hs8, hc2l, hfr7, Or.inr ⟨rfl, hnone (by rw [hv2]; exact zvf_n (fun q => y2 (sml_cg (fun x hx => (hP7 x hx).symm) q.1)))⟩, rfl⟩
end RWU
/-! The reference works a text out, with values: sums, all depths; and reads. -/
theorem zvm_one {w : pz_P} (h : fit13 w) : zvm (some pz_one) (some w) = some w := by
  show zvf (pz_mul pz_one w) = _
  rw [pz_one_mul]
  exact zvf_y h
section RWY
variable {S N B T X V : Nat → Int} {h : mj_H} {tm : Nat} {o e : Int}
theorem wv_product (h9 : S 9 = (tm : Int)) (ht : tm ≤ 200) (hT : ∀ j : Nat, j < tm → 1 ≤ T j ∧ T j ≤ 255) {f d a p b : Nat} (hp1 : 23 ≤ p) (hp2 : p + 1 + 3 * d ≤ 49) (ha : a ≤ tm) (hr : rpr0 T tm (f + 1) 1 d a = some (true, b)) (hs : rS (st3 (jvu S 13 0) (a : Int) o e) N B T X V h)
    (ih0 : ∀ f2, f2 ≤ f → ∀ (a b2 : Nat) (V : Nat → Int) (h : mj_H), a ≤ tm → rpr0 T tm f2 0 d a = some (true, b2) → rS (st3 (jvu S 13 0) (a : Int) o e) N B T X V h → mj_Ok (4 * d + 12) 301 [.ref 0, .int (jn ((p + 1 : Nat) : Int))] h (wkV S N B T X V tm o e (p + 1) b2 (zv0 T tm f2 0 d a none 1))) : mj_Ok (4 * d + 13) 300 [.ref 0, .int (jn (p : Nat))] h (wkV S N B T X V tm o e p b (zv0 T tm (f + 1) 1 d a (some pz_one) 1)) := by
  refine mj_Ok.of (M := mj_m300) rfl rfl rfl ?_
  have eVal : zv0 T tm (f + 1) 1 d a (some pz_one) 1 = match rpr0 T tm f 0 d a with | some (true, c) => (match rtk T tm 42 c with | none => zvm (some pz_one) (zv0 T tm f 0 d a none 1) | some e => zv0 T tm f 1 d e (zvm (some pz_one) (zv0 T tm f 0 d a none 1)) 1) | _ => none := rfl
  unfold rpr0 at hr
  rcases hy : rpr0 T tm f 0 d a with _ | ⟨z1, z2⟩
  · rw [hy] at hr
    cases hr
  rw [hy] at hr eVal
  cases z1 with
  | false => cases hr
  | true =>
  iterate 3 refine mj_T.pl rfl rfl rfl rfl ?_
  refine mj_T.iadd (a := (p : Int)) (b := 1) rfl ?_
  rw [show (p : Int) + 1 = ((p + 1 : Nat) : Int) by omega]
  refine mj_T.call (ins := .invokevirtual 386) rfl rfl (Nat.le_of_ble_eq_true rfl) (Nat.le_of_ble_eq_true rfl) (by simp [mj_recv, rS_f hs]) rfl (mj_Ok.up (by omega) (ih0 f (Nat.le_refl _) a z2 V h ha hy hs)) (fun v' h2 hq' => ?_) (fun i h' hq' => by obtain ⟨_, _, _, _, _, _, _, _, h⟩ := hq'; cases h)
  obtain ⟨V2, c3, y2, _, hs2, hc2l, hf2, hy2, hq'⟩ := hq'
  cases hq'
  refine mj_T.pl rfl rfl rfl rfl ?_
  refine rT_get hs2 rfl st3_g13 ?_
  rcases hy2 with ⟨y0, c0, w2, hv2, hw2, hb2⟩ | ⟨y1, hv2⟩
  rotate_left
  · subst y1
    refine mj_T.if0 (a := 1) rfl ⟨by decide, by decide⟩ (fun hc => ?_) (fun hc => ?_)
    · simp [jc] at hc
    exact mj_T.ret rfl rfl rfl ⟨V2, c3, 1, h2, hs2, hc2l, fun s s1 s2 => hf2 s s1 (by omega), Or.inr ⟨rfl, by
      have hn : zvm (some pz_one) (zv0 T tm f 0 d a none 1) = none := by rw [hv2]; rfl
      rw [eVal]
      simp only [hn, zv0_n1]
      split <;> rfl⟩, rfl⟩
  subst y0
  subst c0
  refine mj_T.if0 (a := 0) rfl ⟨by decide, by decide⟩ (fun hc => ?_) (fun hc => ?_)
  rotate_left
  · simp [jc] at hc
  iterate 4 refine mj_T.pl rfl rfl rfl rfl ?_
  refine mj_T.iadd (a := (p : Int)) (b := 1) rfl ?_
  rw [show (p : Int) + 1 = ((p + 1 : Nat) : Int) by omega]
  refine mj_T.call (ins := .invokevirtual 124) rfl rfl (Nat.le_of_ble_eq_true rfl) (Nat.le_of_ble_eq_true rfl) (by simp [mj_recv, rS_f hs2]) rfl (mj_Ok.up (by omega) (jp_copiesPoly (D := 0) (rG (st3 (jvu S 13 0) (c3 : Int) o e) N B T X) (p := p) (q := p + 1) (by omega) (by omega) (by omega) hs2)) (fun v' h4 hq' => ?_) (fun i h' hq' => by obtain ⟨_, _, h⟩ := hq'; cases h)
  obtain ⟨_, hs4, hq'⟩ := hq'
  cases hq'
  have q1 : ∀ x, x < 13 → jfl V2 p (fun x => V2 ((p + 1) * 13 + x)) 13 (p * 13 + x) = V2 ((p + 1) * 13 + x) := fun x hx => jfl_at _ p _ hx
  have q2 : ∀ s, s < p * 13 → jfl V2 p (fun x => V2 ((p + 1) * 13 + x)) 13 s = V2 s := fun s hx => jfl_off _ p _ (by omega)
  generalize jfl V2 p (fun x => V2 ((p + 1) * 13 + x)) 13 = W4 at hs4 q1 q2
  rw [hv2, zvm_one hw2] at eVal
  rw [eVal]
  exact wv_prod_loop h9 ht hT hp1 hp2 f (fun f2 hf2 => ih0 f2 (by omega)) c3 W4 h4 w2 hw2 (fun x hx => by rw [q1 x hx]; exact hb2 x hx) hc2l hr hs4 (fun s s1 s2 => by rw [q2 s s2, hf2 s s1 (by omega)])
theorem wv_sum_loop (h9 : S 9 = (tm : Int)) (ht : tm ≤ 200) (hT : ∀ j : Nat, j < tm → 1 ≤ T j ∧ T j ≤ 255) {d p b : Nat} {V0 : Nat → Int} (hp1 : 23 ≤ p) (hp2 : p + 2 + 3 * d ≤ 49) :
    ∀ f, (∀ f2, f2 < f → ∀ (a b2 : Nat) (V : Nat → Int) (h : mj_H), a ≤ tm → rpr0 T tm f2 1 d a = some (true, b2) → rS (st3 (jvu S 13 0) (a : Int) o e) N B T X V h → mj_Ok (4 * d + 13) 300 [.ref 0, .int (jn ((p + 1 : Nat) : Int))] h (wkV S N B T X V tm o e (p + 1) b2 (zv0 T tm f2 1 d a (some pz_one) 1))) →
    ∀ (a : Nat) (V : Nat → Int) (h : mj_H) (w : Int) (A : pz_P), fit13 A → (∀ x, x < 13 → V (p * 13 + x) = A x) → (w = 1 ∨ w = -1) → a ≤ tm → rpr0 T tm f 2 d a = some (true, b) → rS (st3 (jvu S 13 0) (a : Int) o e) N B T X V h → (∀ s, 299 ≤ s → s < p * 13 → V s = V0 s) → mj_T (4 * d + 13) mj_m299 20 [some (.ref 0), some (.int (jn (p : Nat))), some (.int (jn w))] [] h (wkV S N B T X V0 tm o e p b (zv0 T tm f 2 d a (some A) w)) := by
  intro f
  induction f with
  | zero =>
    intro _ a V h w A _ _ _ _ hr
    cases hr
  | succ f ihf =>
    intro ih0 a V h w A hA hAv hw ha hr hs hfr
    have hb := fit_18 hA hAv
    have eVal : zv0 T tm (f + 1) 2 d a (some A) w = match rpr0 T tm f 1 d a with | some (true, c) => (match rtk T tm 43 c with | some e => zv0 T tm f 2 d e (zva (some A) w (zv0 T tm f 1 d a (some pz_one) 1)) 1 | none => match rtk T tm 45 (rskp T tm c) with | some e => zv0 T tm f 2 d e (zva (some A) w (zv0 T tm f 1 d a (some pz_one) 1)) (-1) | none => zva (some A) w (zv0 T tm f 1 d a (some pz_one) 1)) | _ => none := rfl
    unfold rpr0 at hr
    rcases hy : rpr0 T tm f 1 d a with _ | ⟨z1, z2⟩
    · rw [hy] at hr
      cases hr
    rw [hy] at hr eVal
    cases z1 with
    | false => cases hr
    | true =>
    iterate 3 refine mj_T.pl rfl rfl rfl rfl ?_
    refine mj_T.iadd (a := (p : Int)) (b := 1) rfl ?_
    rw [show (p : Int) + 1 = ((p + 1 : Nat) : Int) by omega]
    refine mj_T.call (ins := .invokevirtual 380) rfl rfl (Nat.le_of_ble_eq_true rfl) (Nat.le_of_ble_eq_true rfl) (by simp [mj_recv, rS_f hs]) rfl (mj_Ok.up (by omega) (ih0 f (by omega) a z2 V h ha hy hs)) (fun v' h2 hq' => ?_) (fun i h' hq' => by obtain ⟨_, _, _, _, _, _, _, _, h⟩ := hq'; cases h)
    obtain ⟨V2, c3, y2, _, hs2, hc2l, hf2, hy2, hq'⟩ := hq'
    cases hq'
    have hnone : zva (some A) w (zv0 T tm f 1 d a (some pz_one) 1) = none → zv0 T tm (f + 1) 2 d a (some A) w = none := fun q => by
      rw [eVal]
      simp only [q, zv0_n2]
      split
      · rfl
      · split <;> rfl
    have hfr2 : (∀ s, 299 ≤ s → s < p * 13 → V2 s = V0 s) := fun s s1 s2 => by rw [hf2 s s1 (by omega), hfr s s1 s2]
    refine mj_T.pl rfl rfl rfl rfl ?_
    refine rT_get hs2 rfl st3_g13 ?_
    rcases hy2 with ⟨y0, c0, w2, hv2, hw2, hb2'⟩ | ⟨y1, hv2⟩
    rotate_left
    · subst y1
      refine mj_T.if0 (a := 1) rfl ⟨by decide, by decide⟩ (fun hc => ?_) (fun hc => ?_)
      · simp [jc] at hc
      exact mj_T.ret rfl rfl rfl ⟨V2, c3, 1, h2, hs2, hc2l, hfr2, Or.inr ⟨rfl, hnone (by rw [hv2]; rfl)⟩, rfl⟩
    subst y0
    subst c0
    have hb2 := fit_18 hw2 hb2'
    refine mj_T.if0 (a := 0) rfl ⟨by decide, by decide⟩ (fun hc => ?_) (fun hc => ?_)
    rotate_left
    · simp [jc] at hc
    iterate 5 refine mj_T.pl rfl rfl rfl rfl ?_
    refine mj_T.iadd (a := (p : Int)) (b := 1) rfl ?_
    rw [show (p : Int) + 1 = ((p + 1 : Nat) : Int) by omega]
    refine mj_T.pl rfl rfl rfl rfl ?_
    have hsz : ∀ x, x < 13 → (V2 (p * 13 + x) + w * V2 ((p + 1) * 13 + x)).natAbs ≤ 10 ^ 18 + 10 ^ 18 := fun x hx => by
      rw [hf2 _ (by omega) (by omega)]
      have k1 := hb x hx
      have k2 := hb2 x hx
      rcases hw with q | q <;> subst q <;> omega
    refine mj_T.call (ins := .invokevirtual 216) rfl rfl (Nat.le_of_ble_eq_true rfl) (Nat.le_of_ble_eq_true rfl) (by simp [mj_recv, rS_f hs2]) rfl (mj_Ok.up (by omega) (jp_addsPoly (D := 0) (rG (st3 (jvu S 13 0) (c3 : Int) o e) N B T X) (p := p) (a := p) (b := p + 1) (f := w) (by omega) (by omega) (by omega) hw (fun x hx => jnl_of_lt (hsz x hx) rp_small7) hs2)) (fun v' h6 hq' => ?_) (fun i h' hq' => by obtain ⟨_, _, h⟩ := hq'; cases h)
    obtain ⟨_, hs6, hq'⟩ := hq'
    cases hq'
    have q1 : ∀ x, x < 13 → jfl V2 p (fun x => V2 (p * 13 + x) + w * V2 ((p + 1) * 13 + x)) 13 (p * 13 + x) = A x + w * w2 x := fun x hx => by rw [jfl_at _ p _ hx, hf2 _ (by omega) (by omega), hAv x hx, hb2' x hx]
    have q2 : ∀ s, s < p * 13 → jfl V2 p (fun x => V2 (p * 13 + x) + w * V2 ((p + 1) * 13 + x)) 13 s = V2 s := fun s hx => jfl_off _ p _ (by omega)
    generalize jfl V2 p (fun x => V2 (p * 13 + x) + w * V2 ((p + 1) * 13 + x)) 13 = W6 at hs6 q1 q2
    have hfr6 : (∀ s, 299 ≤ s → s < p * 13 → W6 s = V0 s) := fun s s1 s2 => by rw [q2 s s2, hfr2 s s1 s2]
    iterate 2 refine mj_T.pl rfl rfl rfl rfl ?_
    refine mj_T.call (ins := .invokevirtual 383) rfl rfl (Nat.le_of_ble_eq_true rfl) (Nat.le_of_ble_eq_true rfl) (by simp [mj_recv, rS_f hs6]) rfl (mj_Ok.up (by omega) (wv_bounds (D := 0) (p := p) (by omega) hs6)) (fun v' h8 hq' => ?_) (fun i h' hq' => by obtain ⟨_, _, _, _, h⟩ := hq'; cases h)
    obtain ⟨y, _, hs8, hy8, hq'⟩ := hq'
    cases hq'
    obtain ⟨y8v, hyv⟩ : ∃ v : Option pz_P, v = zva (some A) w (zv0 T tm f 1 d a (some pz_one) 1) := ⟨_, rfl⟩
    have hy9 : (y = 0 ∧ ∃ P, y8v = some P ∧ fit13 P ∧ ∀ x, x < 13 → W6 (p * 13 + x) = P x) ∨ (y = 1 ∧ y8v = none) := by
      rw [hv2] at hyv
      rcases hy8 with ⟨y1, y2⟩ | ⟨y1, y2⟩
      · have hf := (fit_sum (s := w) hA hw2).mpr (sml_cg q1 y2)
        exact Or.inl ⟨y1, _, hyv.trans (zvf_y hf), hf, q1⟩
      · exact Or.inr ⟨y1, hyv.trans (zvf_n (fun q => y2 (sml_cg (fun x hx => (q1 x hx).symm) q.1)))⟩
    rw [← hyv] at eVal hnone
    clear hy8
    have t77 : ∀ (w2 : Int) (a2 : Nat) (h9' : mj_H), (w2 = 0 ∨ w2 = 1 ∨ w2 = -1) → a2 ≤ tm → rS (st3 (jvu S 13 y) (a2 : Int) o e) N B T X W6 h9' → (w2 = 0 → a2 = b ∧ zv0 T tm (f + 1) 2 d a (some A) w = y8v) → (w2 ≠ 0 → rpr0 T tm f 2 d a2 = some (true, b) ∧ zv0 T tm (f + 1) 2 d a (some A) w = zv0 T tm f 2 d a2 y8v w2) → mj_T (4 * d + 13) mj_m299 77 [some (.ref 0), some (.int (jn (p : Nat))), some (.int (jn w))] [.int (jn w2)] h9' (wkV S N B T X V0 tm o e p b (zv0 T tm (f + 1) 2 d a (some A) w)) := fun w2 a2 h9' hw2 ha2 hsa hz hnz => by
      iterate 2 refine mj_T.pl rfl rfl rfl rfl ?_
      have fin : (y = 1 ∨ w2 = 0) → wkV S N B T X V0 tm o e p b (zv0 T tm (f + 1) 2 d a (some A) w) (.inl none, h9') := fun hyw => by
        refine ⟨W6, a2, y, h9', hsa, ha2, hfr6, ?_, rfl⟩
        rcases hy9 with ⟨y1, P, p1, p2, p3⟩ | ⟨y1, y2⟩
        · rcases hyw with q | q
          · omega
          · exact Or.inl ⟨y1, (hz q).1, P, (hz q).2.trans p1, p2, p3⟩
        · exact Or.inr ⟨y1, hnone y2⟩
      refine mj_T.if0 (a := w2) rfl ⟨by omega, by omega⟩ (fun hc => ?_) (fun hc => ?_)
      · simp only [jc, decide_eq_true_eq] at hc
        exact mj_T.ret rfl rfl rfl (fin (Or.inr hc))
      simp only [jc, decide_eq_false_iff_not] at hc
      refine mj_T.pl rfl rfl rfl rfl ?_
      refine rT_get hsa rfl st3_g13 ?_
      rcases hy9 with ⟨y1, P, p1, p2, p3⟩ | ⟨y1, y2⟩
      · subst y1
        refine mj_T.if0 (a := 0) rfl ⟨by decide, by decide⟩ (fun hc => ?_) (fun hc => ?_)
        rotate_left
        · simp [jc] at hc
        have hz9 := hnz (by assumption)
        rw [hz9.2, p1]
        exact ihf (fun f2 hf2 => ih0 f2 (by omega)) a2 W6 h9' w2 P p2 p3 (by omega) ha2 hz9.1 hsa hfr6
      · subst y1
        refine mj_T.if0 (a := 1) rfl ⟨by decide, by decide⟩ (fun hc => ?_) (fun hc => ?_)
        · simp [jc] at hc
        exact mj_T.ret rfl rfl rfl (fin (Or.inl rfl))
    have hid := rskp_idem (T := T) hc2l
    have hle := rskp_le (T := T) hc2l
    iterate 2 refine mj_T.pl rfl rfl rfl rfl ?_
    refine mj_T.call (ins := .invokevirtual 354) rfl rfl (Nat.le_of_ble_eq_true rfl) (Nat.le_of_ble_eq_true rfl) (by simp [mj_recv, rS_f hs8]) rfl (mj_Ok.up (by omega) (rd_takes (D := 0) (S := jvu S 13 y) (c := 43) ⟨by decide, by decide⟩ (w9 h9) ht hT hc2l hs8)) (fun v' h10 hq' => ?_) (fun i h' hq' => by rcases hq' with ⟨_, _, _, _, h⟩ | ⟨_, _, _, h⟩ <;> cases h)
    rcases hq' with ⟨c2, _, ⟨b1, b2, b3⟩, hs10, hq'⟩ | ⟨_, b1, hs10, hq'⟩
    · cases hq'
      simp only [b1] at hr eVal
      refine mj_T.if0 (a := 1) rfl ⟨by decide, by decide⟩ (fun hc => ?_) (fun hc => ?_)
      · simp [jc] at hc
      iterate 2 refine mj_T.pl rfl rfl rfl rfl ?_
      exact t77 1 c2 h10 (Or.inr (Or.inl rfl)) b2 hs10 (fun q => absurd q (by decide)) (fun _ => ⟨hr, eVal⟩)
    cases hq'
    simp only [b1] at hr eVal
    refine mj_T.if0 (a := 0) rfl ⟨by decide, by decide⟩ (fun hc => ?_) (fun hc => ?_)
    rotate_left
    · simp [jc] at hc
    iterate 2 refine mj_T.pl rfl rfl rfl rfl ?_
    refine mj_T.call (ins := .invokevirtual 354) rfl rfl (Nat.le_of_ble_eq_true rfl) (Nat.le_of_ble_eq_true rfl) (by simp [mj_recv, rS_f hs10]) rfl (mj_Ok.up (by omega) (rd_takes (D := 0) (S := jvu S 13 y) (c := 45) ⟨by decide, by decide⟩ (w9 h9) ht hT hle hs10)) (fun v' h11 hq' => ?_) (fun i h' hq' => by rcases hq' with ⟨_, _, _, _, h⟩ | ⟨_, _, _, h⟩ <;> cases h)
    rcases hq' with ⟨c2, _, ⟨d1, d2, d3⟩, hs11, hq'⟩ | ⟨_, d1, hs11, hq'⟩
    · cases hq'
      simp only [d1] at hr eVal
      refine mj_T.if0 (a := 1) rfl ⟨by decide, by decide⟩ (fun hc => ?_) (fun hc => ?_)
      · simp [jc] at hc
      iterate 2 refine mj_T.pl rfl rfl rfl rfl ?_
      exact t77 (-1) c2 h11 (Or.inr (Or.inr rfl)) d2 hs11 (fun q => absurd q (by decide)) (fun _ => ⟨hr, eVal⟩)
    · cases hq'
      simp only [d1] at hr eVal
      rw [hid] at hs11
      refine mj_T.if0 (a := 0) rfl ⟨by decide, by decide⟩ (fun hc => ?_) (fun hc => ?_)
      rotate_left
      · simp [jc] at hc
      refine mj_T.pl rfl rfl rfl rfl ?_
      exact t77 0 _ h11 (Or.inl rfl) hle hs11 (fun _ => ⟨by cases hr; rfl, eVal⟩) (fun q => absurd rfl q)
theorem wv_sum (h9 : S 9 = (tm : Int)) (ht : tm ≤ 200) (hT : ∀ j : Nat, j < tm → 1 ≤ T j ∧ T j ≤ 255) {f d a p b : Nat} (hp1 : 23 ≤ p) (hp2 : p + 2 + 3 * d ≤ 49) (ha : a ≤ tm) (hr : rpr0 T tm (f + 1) 3 d a = some (true, b)) (hs : rS (st3 (jvu S 13 0) (a : Int) o e) N B T X V h)
    (ih0 : ∀ f2, f2 ≤ f → ∀ (a b2 : Nat) (V : Nat → Int) (h : mj_H), a ≤ tm → rpr0 T tm f2 1 d a = some (true, b2) → rS (st3 (jvu S 13 0) (a : Int) o e) N B T X V h → mj_Ok (4 * d + 13) 300 [.ref 0, .int (jn ((p + 1 : Nat) : Int))] h (wkV S N B T X V tm o e (p + 1) b2 (zv0 T tm f2 1 d a (some pz_one) 1))) : mj_Ok (4 * d + 14) 299 [.ref 0, .int (jn (p : Nat))] h (wkV S N B T X V tm o e p b (zv0 T tm (f + 1) 3 d a none 1)) := by
  refine mj_Ok.of (M := mj_m299) rfl rfl rfl ?_
  have eVal : zv0 T tm (f + 1) 3 d a none 1 = match rtk T tm 45 a with | some e => zv0 T tm f 2 d e (some pz_0) (-1) | none => zv0 T tm f 2 d (rskp T tm a) (some pz_0) 1 := rfl
  unfold rpr0 at hr
  have hle := rskp_le (T := T) ha
  have t14 : ∀ (w : Int) (a2 : Nat) (h2 : mj_H), (w = 1 ∨ w = -1) → a2 ≤ tm → rS (st3 (jvu S 13 0) (a2 : Int) o e) N B T X V h2 → rpr0 T tm f 2 d a2 = some (true, b) → zv0 T tm (f + 1) 3 d a none 1 = zv0 T tm f 2 d a2 (some pz_0) w → mj_T (4 * d + 13) mj_m299 14 [some (.ref 0), some (.int (jn (p : Nat))), none] [.int (jn w)] h2 (wkV S N B T X V tm o e p b (zv0 T tm (f + 1) 3 d a none 1)) := fun w a2 h2 hw ha2 hs2 hr2 ev2 => by
    rw [ev2]
    iterate 3 refine mj_T.pl rfl rfl rfl rfl ?_
    refine mj_T.call (ins := .invokevirtual 110) rfl rfl (Nat.le_of_ble_eq_true rfl) (Nat.le_of_ble_eq_true rfl) (by simp [mj_recv, rS_f hs2]) rfl (mj_Ok.up (by omega) (jp_empties (D := 0) (rG (st3 (jvu S 13 0) (a2 : Int) o e) N B T X) (p := p) (by omega) hs2)) (fun v' h3 hq' => ?_) (fun i h' hq' => by obtain ⟨_, _, h⟩ := hq'; cases h)
    obtain ⟨_, hs3, hq'⟩ := hq'
    cases hq'
    have q1 : ∀ x, x < 13 → jfl V p (fun _ => 0) 13 (p * 13 + x) = 0 := fun x hx => jfl_at _ p _ hx
    have q2 : ∀ s, s < p * 13 → jfl V p (fun _ => 0) 13 s = V s := fun s hx => jfl_off _ p _ (by omega)
    generalize jfl V p (fun _ => 0) 13 = W1 at hs3 q1 q2
    exact wv_sum_loop h9 ht hT hp1 hp2 f (fun f2 hf2 => ih0 f2 (by omega)) a2 W1 h3 w pz_0 fit_0 (fun x hx => q1 x hx) hw ha2 hr2 hs3 (fun s s1 s2 => q2 s s2)
  iterate 2 refine mj_T.pl rfl rfl rfl rfl ?_
  refine mj_T.call (ins := .invokevirtual 354) rfl rfl (Nat.le_of_ble_eq_true rfl) (Nat.le_of_ble_eq_true rfl) (by simp [mj_recv, rS_f hs]) rfl (mj_Ok.up (by omega) (rd_takes (D := 0) (S := jvu S 13 0) (c := 45) ⟨by decide, by decide⟩ (w9 h9) ht hT ha hs)) (fun v' h1 hq' => ?_) (fun i h' hq' => by rcases hq' with ⟨_, _, _, _, h⟩ | ⟨_, _, _, h⟩ <;> cases h)
  rcases hq' with ⟨c2, _, ⟨b1, b2, b3⟩, hs1, hq'⟩ | ⟨_, b1, hs1, hq'⟩
  · cases hq'
    simp only [b1] at hr eVal
    refine mj_T.if0 (a := 1) rfl ⟨by decide, by decide⟩ (fun hc => ?_) (fun hc => ?_)
    · simp [jc] at hc
    iterate 2 refine mj_T.pl rfl rfl rfl rfl ?_
    exact t14 (-1) c2 h1 (Or.inr rfl) b2 hs1 hr eVal
  · cases hq'
    simp only [b1] at hr eVal
    refine mj_T.if0 (a := 0) rfl ⟨by decide, by decide⟩ (fun hc => ?_) (fun hc => ?_)
    rotate_left
    · simp [jc] at hc
    refine mj_T.pl rfl rfl rfl rfl ?_
    exact t14 1 _ h1 (Or.inl rfl) hle hs1 hr eVal
theorem wv_all (h9 : S 9 = (tm : Int)) (ht : tm ≤ 200) (hT : ∀ j : Nat, j < tm → 1 ≤ T j ∧ T j ≤ 255) : ∀ (d f a p b : Nat) (V : Nat → Int) (h : mj_H), d ≤ 8 → 23 ≤ p → p + 2 + 3 * d ≤ 49 → a ≤ tm → rpr0 T tm f 3 d a = some (true, b) → rS (st3 (jvu S 13 0) (a : Int) o e) N B T X V h → mj_Ok (4 * d + 14) 299 [.ref 0, .int (jn (p : Nat))] h (wkV S N B T X V tm o e p b (zv0 T tm f 3 d a none 1)) := by
  intro d
  induction d with
  | zero =>
    intro f a p b V h _ hp1 hp2 ha hr hs
    cases f with
    | zero => cases hr
    | succ f =>
    refine wv_sum h9 ht hT hp1 hp2 ha hr hs (fun f2 hf2 a2 b2 V2 h2 ha2 hr2 hs2 => ?_)
    cases f2 with
    | zero => cases hr2
    | succ f2 =>
    refine wv_product h9 ht hT (by omega) (by omega) ha2 hr2 hs2 (fun f3 hf3 a3 b3 V3 h3 ha3 hr3 hs3 => ?_)
    cases f3 with
    | zero => cases hr3
    | succ f3 => exact wv_power_step h9 ht hT (by omega) (by omega) ha3 hr3 hs3 (fun d2 a4 p4 b4 V4 h4 hd => absurd hd (by omega))
  | succ d ihd =>
    intro f a p b V h hd8 hp1 hp2 ha hr hs
    cases f with
    | zero => cases hr
    | succ f =>
    refine wv_sum h9 ht hT hp1 hp2 ha hr hs (fun f2 hf2 a2 b2 V2 h2 ha2 hr2 hs2 => ?_)
    cases f2 with
    | zero => cases hr2
    | succ f2 =>
    refine wv_product h9 ht hT (by omega) (by omega) ha2 hr2 hs2 (fun f3 hf3 a3 b3 V3 h3 ha3 hr3 hs3 => ?_)
    cases f3 with
    | zero => cases hr3
    | succ f3 =>
      refine wv_power_step h9 ht hT (by omega) (by omega) ha3 hr3 hs3 (fun d2 a4 p4 b4 V4 h4 hd hp41 hp42 ha4 hr4 hs4 => ?_)
      have ed : d2 = d := by omega
      subst ed
      exact ihd f3 a4 p4 b4 V4 h4 (by omega) hp41 hp42 ha4 hr4 hs4
end RWY
/-! The reference, exactly: read. -/
section RXR
variable {h : mj_H} {er : Int} {T : Nat → Int} {N0 : Nat → Int} {u0 : Nat} {H : Nat → Nat → Int}
theorem jKx.rd3 {tm er : Int} {S N B T : Nat → Int} (K : jKx N0 u0 H tm er S N B T) {a o e : Int} (ha : jr a) (ho : jr o) (he : jr e) : jKx N0 u0 H tm e (st3 S a o e) N B T := ⟨K.1.rd3 ha ho he, K.2.1, by
  show st3 S a o e 2 = _
  unfold st3
  rw [jvu_ne _ _ _ (by decide), jvu_ne _ _ _ (by decide), jvu_ne _ _ _ (by decide)]
  exact K.2.2.1, K.2.2.2⟩
theorem jKx.put13 {tm er : Int} {S N B T : Nat → Int} (K : jKx N0 u0 H tm er S N B T) {y : Int} (hy : y = 0 ∨ y = 1) : jKx N0 u0 H tm er (jvu S 13 y) N B T := ⟨K.1.put13 hy, K.2.1, (jvu_ne _ _ _ (by decide)).trans K.2.2.1, K.2.2.2⟩
/-- what read does -/
def RRd (N0 : Nat → Int) (u0 : Nat) (H : Nat → Nat → Int) (tm : Nat) (er : Int) (T : Nat → Int) (x : Int) (r : mj_R) : Prop := ((0 ≤ x ∧ x ≤ 5) ∧ ((rdErr T tm = -1 ∧ ∃ P, rdV T tm = some P ∧ fit13 P ∧ ∃ w : Nat → Int, (∀ j, j < 13 → w j = P j) ∧ rIx (jfl N0 x.toNat w 13) (upu u0) (pushH N0 H) 0 (-1) T r) ∨ ((rdErr T tm ≠ -1 ∨ rdV T tm = none) ∧ rIx N0 u0 H 0 (rdErr T tm) T r))) ∨ (¬ (0 ≤ x ∧ x ≤ 5) ∧ rIx N0 u0 H tm er T r)
theorem rx_read {x : Int} (hx : jr x) {tm0 : Nat} (hI : jIx N0 u0 H (tm0 : Int) er T h) : mj_Ok 60 245 [.ref 0, .int (jn x)] h (RRd N0 u0 H tm0 er T x) := by
  refine mj_Ok.of (M := mj_m245) rfl rfl rfl ?_
  obtain ⟨S, N, B, X, V, hs, K⟩ := hI
  iterate 2 refine mj_T.pl rfl rfl rfl rfl ?_
  refine rT_put (v := 0) hs rfl rfl (by decide) rfl (fun g1 hs1 => ?_)
  have K1 := K.put (k := 3) (v := 0) ⟨by decide, by decide⟩ (by decide) (by decide) (by decide) (by decide) (by decide)
  generalize jvu S 3 0 = S1 at hs1 K1
  refine mj_T.pl rfl rfl rfl rfl ?_
  refine mj_T.call (ins := .invokestatic 181) rfl rfl (Nat.le_of_ble_eq_true rfl) (Nat.le_of_ble_eq_true rfl) rfl rfl (mj_Ok.up (by decide) (rp_isRegister (D := 0) hx)) (fun v' h' hq' => ?_) (fun i h' hq' => by rcases hq' with ⟨_, _, h⟩ | ⟨_, h⟩ <;> cases h)
  rcases hq' with ⟨x1, x2, hq'⟩ | ⟨xn, hq'⟩
  case' inr =>
    cases hq'
    refine mj_T.if0 (a := 0) rfl ⟨by decide, by decide⟩ (fun hc => ?_) (fun hc => ?_)
    · simp [jc] at hc
    iterate 2 refine mj_T.pl rfl rfl rfl rfl ?_
    refine mj_T.call (ins := .invokevirtual 198) rfl rfl (Nat.le_of_ble_eq_true rfl) (Nat.le_of_ble_eq_true rfl) (by simp [mj_recv, rS_f hs1]) rfl (mj_Ok.up (by decide) (rp_fails (D := 0) (c := 1) hs1)) (fun v' g2 hq' => ?_) (fun i h' hq' => by obtain ⟨_, _, h⟩ := hq'; cases h)
    obtain ⟨_, hs2, hq'⟩ := hq'
    cases hq'
    exact mj_T.ret rfl rfl rfl (Or.inr ⟨by omega, 0, g2, ⟨by decide, by decide⟩, rfl, ⟨_, N, B, X, V, hs2, K1.put ⟨by decide, by decide⟩ (by decide) (by decide) (by decide) (by decide) (by decide)⟩⟩)
  cases hq'
  refine mj_T.if0 (a := 1) rfl ⟨by decide, by decide⟩ (fun hc => ?_) (fun hc => ?_)
  rotate_left
  · simp [jc] at hc
  obtain ⟨x, rfl⟩ := Int.eq_ofNat_of_zero_le x1
  have k9 := K1.1.2.2.2.1
  have hT0 := K1.1.2.2.2.2.2.2.2.2
  have ht : tm0 ≤ 200 := by omega
  have hT : ∀ j : Nat, j < tm0 → 1 ≤ T j ∧ T j ≤ 255 := fun j hj => hT0 j (by omega)
  iterate 2 refine mj_T.pl rfl rfl rfl rfl ?_
  refine rT_put (v := 0) hs1 rfl rfl (by decide) rfl (fun ha hsa => ?_)
  iterate 2 refine mj_T.pl rfl rfl rfl rfl ?_
  refine rT_put (v := 0) hsa rfl rfl (by decide) rfl (fun hb hsb => ?_)
  iterate 2 refine mj_T.pl rfl rfl rfl rfl ?_
  refine rT_put (v := -1) hsb rfl rfl (by decide) rfl (fun hc hsc => ?_)
  have hsd : rS (st3 S1 ((0 : Nat) : Int) (8 - ((8 : Nat) : Int)) (-1)) N B T X V hc := hsc
  obtain ⟨hre, hrb⟩ := rdR_eq T tm0
  obtain ⟨res, hres⟩ : ∃ z, rdR T tm0 = z := ⟨_, rfl⟩
  rw [hres] at hre hrb
  have t51 : ∀ (a2 o2 x2 : Int) (h2 : mj_H), jr a2 → jr o2 → jr x2 → rdErr T tm0 = x2 → x2 ≠ -1 → rS (st3 S1 a2 o2 x2) N B T X V h2 → mj_T 59 mj_m245 51 [some (.ref 0), some (.int (jn (x : Int))), none] [] h2 (RRd N0 u0 H tm0 er T (x : Int)) := fun a2 o2 x2 h2 ja jo jx hx2 hxn hs2 => by
    iterate 3 refine mj_T.pl rfl rfl rfl rfl ?_
    refine mj_T.if0 (a := 0) rfl ⟨by decide, by decide⟩ (fun hc => ?_) (fun hc => ?_)
    rotate_left
    · simp [jc] at hc
    iterate 2 refine mj_T.pl rfl rfl rfl rfl ?_
    refine rT_put (v := 0) hs2 rfl rfl (by decide) rfl (fun h3 hs3 => ?_)
    refine mj_T.pl rfl rfl rfl rfl ?_
    refine mj_T.if0 (a := 0) rfl ⟨by decide, by decide⟩ (fun hc => ?_) (fun hc => ?_)
    · simp [jc] at hc
    iterate 2 refine mj_T.pl rfl rfl rfl rfl ?_
    refine mj_T.call (ins := .invokevirtual 198) rfl rfl (Nat.le_of_ble_eq_true rfl) (Nat.le_of_ble_eq_true rfl) (by simp [mj_recv, rS_f hs3]) rfl (mj_Ok.up (by decide) (rp_fails (D := 0) (c := 2) hs3)) (fun v' g3 hq' => ?_) (fun i h' hq' => by obtain ⟨_, _, h⟩ := hq'; cases h)
    obtain ⟨_, hs3, hq'⟩ := hq'
    cases hq'
    exact mj_T.ret rfl rfl rfl (Or.inl ⟨⟨by omega, by omega⟩, Or.inr ⟨Or.inl (by rw [hx2]; exact hxn), 0, g3, ⟨by decide, by decide⟩, rfl, ⟨_, N, B, X, V, hs3, by rw [hx2]; exact ((K1.rd3 ja jo jx).clear).put ⟨by decide, by decide⟩ (by decide) (by decide) (by decide) (by decide) (by decide)⟩⟩⟩)
  refine mj_T.pl rfl rfl rfl rfl ?_
  refine mj_T.call (ins := .invokevirtual 257) rfl rfl (Nat.le_of_ble_eq_true rfl) (Nat.le_of_ble_eq_true rfl) (by simp [mj_recv, rS_f hsc]) rfl (mj_Ok.up (by decide) ((rd_all (er := -1) (S := S1) (N := N) (B := B) (X := X) (V := V) k9.1 ht hT (rdF tm0) 8 (by decide)).2.2.2 0 hc res (Nat.zero_le _) hre hsd)) (fun v' h4 hq' => ?_) (fun i h' hq' => by rcases hq' with ⟨_, _, _, _, h⟩ | ⟨_, _, _, _, _, _, h⟩ <;> cases h)
  rcases hq' with ⟨c, _, ⟨c1, c2, c3⟩, hs4, hq'⟩ | ⟨x3, c, o3, _, ⟨c1, c2, c3, c4⟩, hs4, hq'⟩
  rotate_left
  · cases hq'
    refine mj_T.if0 (a := 0) rfl ⟨by decide, by decide⟩ (fun hc => ?_) (fun hc => ?_)
    rotate_left
    · simp [jc] at hc
    exact t51 _ _ _ h4 ⟨by omega, by omega⟩ c4 ⟨by omega, by omega⟩ (by unfold rdErr; rw [hres, c1]; rfl) (by omega) hs4
  cases hq'
  refine mj_T.if0 (a := 1) rfl ⟨by decide, by decide⟩ (fun hc => ?_) (fun hc => ?_)
  · simp [jc] at hc
  refine mj_T.pl rfl rfl rfl rfl ?_
  refine mj_T.call (ins := .invokevirtual 261) rfl rfl (Nat.le_of_ble_eq_true rfl) (Nat.le_of_ble_eq_true rfl) (by simp [mj_recv, rS_f hs4]) rfl (mj_Ok.up (by decide) (rd_end (D := 0) (S := S1) k9.1 ht hT c2 hs4)) (fun v' h5 hq' => ?_) (fun i h' hq' => by rcases hq' with ⟨_, _, _, h⟩ | ⟨_, _, _, h⟩ <;> cases h)
  rcases hq' with ⟨e1, _, hs5, hq'⟩ | ⟨⟨e1, e2⟩, _, hs5, hq'⟩
  rotate_left
  · cases hq'
    refine mj_T.if0 (a := 0) rfl ⟨by decide, by decide⟩ (fun hc => ?_) (fun hc => ?_)
    rotate_left
    · simp [jc] at hc
    exact t51 _ _ _ h5 ⟨by omega, by omega⟩ ⟨by decide, by decide⟩ ⟨by omega, by omega⟩ (by unfold rdErr; rw [hres, c1]; exact (if_pos rfl).trans (if_neg e1)) (by omega) hs5
  cases hq'
  refine mj_T.if0 (a := 1) rfl ⟨by decide, by decide⟩ (fun hc => ?_) (fun hc => ?_)
  · simp [jc] at hc
  have herr : rdErr T tm0 = -1 := by unfold rdErr; rw [hres, c1]; exact (if_pos rfl).trans (if_pos e1)
  iterate 4 refine mj_T.pl rfl rfl rfl rfl ?_
  refine mj_T.if0 (a := 1) rfl ⟨by decide, by decide⟩ (fun hc => ?_) (fun hc => ?_)
  · simp [jc] at hc
  iterate 2 refine mj_T.pl rfl rfl rfl rfl ?_
  refine rT_put (v := ((0 : Nat) : Int)) hs5 rfl rfl (by decide) rfl (fun h6 hs6 => ?_)
  rw [st3_10] at hs6
  iterate 2 refine mj_T.pl rfl rfl rfl rfl ?_
  refine rT_put (v := 0) hs6 rfl rfl (by decide) rfl (fun h7 hs7 => ?_)
  rw [jvu13_st3] at hs7
  iterate 2 refine mj_T.pl rfl rfl rfl rfl ?_
  have hre2 := hre
  rw [c1] at hre2
  refine mj_T.call (ins := .invokevirtual 268) rfl rfl (Nat.le_of_ble_eq_true rfl) (Nat.le_of_ble_eq_true rfl) (by simp [mj_recv, rS_f hs7]) rfl (mj_Ok.up (by decide) (wv_all k9.1 ht hT 8 (rdF tm0) 0 23 c V h7 (by decide) (by decide) (by decide) (Nat.zero_le _) hre2 hs7)) (fun v' h8 hq' => ?_) (fun i h' hq' => by obtain ⟨_, _, _, _, _, _, _, _, h⟩ := hq'; cases h)
  obtain ⟨V8, a8, y8, _, hs8, ha8, _, hy8, hq'⟩ := hq'
  cases hq'
  have hy : y8 = 0 ∨ y8 = 1 := by
    rcases hy8 with ⟨q, _⟩ | ⟨q, _⟩
    · exact Or.inl q
    · exact Or.inr q
  have eV : zv0 T tm0 (rdF tm0) 3 8 0 none 1 = rdV T tm0 := rfl
  rw [eV] at hy8
  have K9 := ((K1.put13 hy).rd3 (a := (a8 : Int)) (o := 8 - ((8 : Nat) : Int)) (e := -1) ⟨by omega, by omega⟩ ⟨by decide, by decide⟩ ⟨by decide, by decide⟩).clear
  iterate 2 refine mj_T.pl rfl rfl rfl rfl ?_
  refine rT_put (v := 0) hs8 rfl rfl (by decide) rfl (fun h9 hs9 => ?_)
  refine mj_T.pl rfl rfl rfl rfl ?_
  refine mj_T.if0 (a := 1) rfl ⟨by decide, by decide⟩ (fun hc => ?_) (fun hc => ?_)
  rotate_left
  · simp [jc] at hc
  refine mj_T.pl rfl rfl rfl rfl ?_
  refine rT_get (v := .int (jn y8)) hs9 rfl rfl ?_
  refine mj_T.if0 (a := y8) rfl ⟨by omega, by omega⟩ (fun hc9 => ?_) (fun hc9 => ?_)
  · simp only [jc, Bool.not_eq_true', Bool.not_eq_false', decide_eq_true_eq, decide_eq_false_iff_not] at hc9
    obtain ⟨P, p1, p2, p3⟩ : ∃ P, rdV T tm0 = some P ∧ fit13 P ∧ ∀ j, j < 13 → V8 (23 * 13 + j) = P j := by
      rcases hy8 with ⟨_, _, P, p1, p2, p3⟩ | ⟨q, _⟩
      · exact ⟨P, p1, p2, p3⟩
      · omega
    iterate 4 refine mj_T.pl rfl rfl rfl rfl ?_
    refine mj_T.call (ins := .invokevirtual 219) rfl rfl (Nat.le_of_ble_eq_true rfl) (Nat.le_of_ble_eq_true rfl) (by simp [mj_recv, rS_f hs9]) rfl (mj_Ok.up (by decide) (rx_puts (D := 0) (r := x) (p := 23) (c := 3) (by omega) (by decide) ⟨by decide, by decide⟩ K9 hs9)) (fun v' h10 hq' => ?_) (fun i h' hq' => by rcases hq' with ⟨_, _, _, _, h, _⟩ | ⟨_, _, _, _, h, _⟩ <;> cases h)
    rcases hq' with ⟨hs9', z9, _, hz9, e9, hI9⟩ | ⟨hs9', z9, _, hz9, e9, hI9⟩
    · cases e9
      exact mj_T.ret rfl rfl rfl (Or.inl ⟨⟨by omega, by omega⟩, Or.inl ⟨herr, P, p1, p2, _, p3, z9, _, hz9, rfl, hI9⟩⟩)
    · exact absurd (sml_cg (fun j hj => (p3 j hj).symm) p2.1) hs9'
  simp only [jc, Bool.not_eq_true', Bool.not_eq_false', decide_eq_true_eq, decide_eq_false_iff_not] at hc9
  have hnone : rdV T tm0 = none := by
    rcases hy8 with ⟨q, _⟩ | ⟨_, q⟩
    · omega
    · exact q
  iterate 2 refine mj_T.pl rfl rfl rfl rfl ?_
  refine mj_T.call (ins := .invokevirtual 198) rfl rfl (Nat.le_of_ble_eq_true rfl) (Nat.le_of_ble_eq_true rfl) (by simp [mj_recv, rS_f hs9]) rfl (mj_Ok.up (by decide) (rp_fails (D := 0) (c := 3) hs9)) (fun v' g4 hq' => ?_) (fun i h' hq' => by obtain ⟨_, _, h⟩ := hq'; cases h)
  obtain ⟨_, hs4, hq'⟩ := hq'
  cases hq'
  refine mj_T.pl rfl rfl rfl rfl ?_
  exact mj_T.ret rfl rfl rfl (Or.inl ⟨⟨by omega, by omega⟩, Or.inr ⟨Or.inr hnone, 0, g4, ⟨by decide, by decide⟩, rfl, ⟨_, N, B, X, V8, hs4, by rw [herr]; exact K9.put ⟨by decide, by decide⟩ (by decide) (by decide) (by decide) (by decide) (by decide)⟩⟩⟩)
end RXR
/-! Both sides: what a call does to what is kept, and that two such descriptions agree. -/
abbrev SP : Type := (Nat → Int) → Nat → (Nat → Nat → Int) → Prop
def eqS (N1 : Nat → Int) (u1 : Nat) (H1 : Nat → Nat → Int) (N2 : Nat → Int) (u2 : Nat) (H2 : Nat → Nat → Int) : Prop := eqB N1 N2 ∧ u1 = u2 ∧ ∀ k, k < u2 → eqB (H1 k) (H2 k)
theorem eqS.rf (N : Nat → Int) (u : Nat) (H : Nat → Nat → Int) : eqS N u H N u H := ⟨eqB.rf N, rfl, fun k _ => eqB.rf (H k)⟩
def AgP (P1 P2 : SP) : Prop := ∀ N1 u1 H1 N2 u2 H2, P1 N1 u1 H1 → P2 N2 u2 H2 → eqS N1 u1 H1 N2 u2 H2
/-- a row is laid, or nothing changes -/
def clQ (C : Prop) (R : Nat → Int) (to : Nat) (N : Nat → Int) (u : Nat) (H : Nat → Nat → Int) : SP := fun N' u' H' => (C ∧ ∃ w : Nat → Int, (∀ j, j < 13 → w j = R j) ∧ N' = jfl N to w 13 ∧ u' = upu u ∧ H' = pushH N H) ∨ (¬ C ∧ N' = N ∧ u' = u ∧ H' = H)
def sameQ (N : Nat → Int) (u : Nat) (H : Nat → Nat → Int) : SP := fun N' u' H' => N' = N ∧ u' = u ∧ H' = H
theorem clQ.ag {C : Prop} {R : Nat → Int} {to : Nat} {N : Nat → Int} {u : Nat} {H : Nat → Nat → Int} (ht : C → to ≤ 5) : AgP (clQ C R to N u H) (clQ C R to N u H) := fun N1 u1 H1 N2 u2 H2 a b => by
  rcases a with ⟨c1, w1, a1, rfl, rfl, rfl⟩ | ⟨c1, rfl, rfl, rfl⟩
  · rcases b with ⟨c2, w2, b1, rfl, rfl, rfl⟩ | ⟨c2, _, _, _⟩
    · exact ⟨eqB.row (ht c1) (fun j hj => (a1 j hj).trans (b1 j hj).symm), rfl, fun k _ => eqB.rf _⟩
    · exact absurd c1 c2
  · rcases b with ⟨c2, _⟩ | ⟨c2, rfl, rfl, rfl⟩
    · exact absurd c2 c1
    · exact eqS.rf _ _ _
theorem sameQ.ag (N : Nat → Int) (u : Nat) (H : Nat → Nat → Int) : AgP (sameQ N u H) (sameQ N u H) := fun N1 u1 H1 N2 u2 H2 a b => by
  obtain ⟨rfl, rfl, rfl⟩ := a
  obtain ⟨rfl, rfl, rfl⟩ := b
  exact eqS.rf _ _ _
/-- the class behind a call -/
def cZ (g : mj_H) (P : SP) (r : mj_R) : Prop := ∃ n' N' u' H', P N' u' H' ∧ cS g n' N' u' H' r.2
/-- the class's cells hold this -/
def cC (N : Nat → Int) (u : Nat) (H : Nat → Nat → Int) (h : mj_H) : Prop := cS h h.length N u H h
def yZ (P : SP) (h : mj_H) : Prop := ∃ N' u' H', P N' u' H' ∧ cC N' u' H' h
/-- the reference behind a call -/
def rZ (P : SP) (tm er : Int) (T : Nat → Int) (r : mj_R) : Prop := ∃ N' u' H', P N' u' H' ∧ jIx N' u' H' tm er T r.2
section AG3
variable {g h h' : mj_H} {n u : Nat} {N : Nat → Int} {H : Nat → Nat → Int}
theorem jMk_fr {V : Nat → Int} {X : Nat → Nat → Int} (hf : ∀ a, cK a ≠ 0 → h'[a]? = h[a]?) (a : Nat) (m : jMk V X h (cK a) a) : jMk V X h' (cK a) a := by
  unfold jMk at m ⊢
  by_cases k0 : cK a = 0
  · rw [if_pos k0]
    trivial
  have e1 := hf a k0
  rw [if_neg k0] at m ⊢
  by_cases k18 : cK a = 18
  · rw [if_pos k18] at m ⊢
    have e2 := hf (a + 1) (by rw [(mK_w (Or.inl k18)).1]; decide)
    unfold wX wT wW at m ⊢
    rw [e1, e2]
    exact m
  rw [if_neg k18] at m ⊢
  by_cases k12 : cK a = 12
  · rw [if_pos k12] at m ⊢
    have e2 := hf (a + 1) (by rw [(mK_w (Or.inr k12)).1]; decide)
    unfold dX dT wD at m ⊢
    rw [e1, e2]
    exact m
  rw [if_neg k12] at m ⊢
  rw [e1]
  exact m
theorem cS.fr (s : cS g n N u H h) (hf : ∀ a, cK a ≠ 0 → h'[a]? = h[a]?) : cC N u H h' := by
  obtain ⟨V, X, m, b, d, c⟩ := s
  exact ⟨V, X, ⟨rfl, fun a ha => ⟨fun _ => rfl, fun h1 h2 => absurd h1 (by omega)⟩, fun a => jMk_fr hf a (m.2.2 a)⟩, b, d, c⟩
theorem cS.cC (s : cS g n N u H h) : cC N u H h := s.fr (fun _ _ => rfl)
theorem cC.fr (s : cC N u H h) (hf : ∀ a, cK a ≠ 0 → h'[a]? = h[a]?) : cC N u H h' := cS.fr s hf
theorem cZ.yz {P : SP} {r : mj_R} (y : cZ g P r) : yZ P r.2 := by
  obtain ⟨n', N', u', H', p, s⟩ := y
  exact ⟨N', u', H', p, s.cC⟩
theorem cZ.set {P : SP} {x : Option Value ⊕ Nat} {h1 : mj_H} {e : mj_E} (y : cZ g P (x, h1)) : yZ P (h1.set 571 e) := by
  obtain ⟨n', N', u', H', p, s⟩ := y
  exact ⟨N', u', H', p, cS.fr s (fun a ha => List.getElem?_set_ne (fun q => ha (by rw [← q]; exact cK_out (by decide))))⟩
theorem yZ.fr {P : SP} (y : yZ P h) (hf : ∀ a, cK a ≠ 0 → h'[a]? = h[a]?) : yZ P h' := by
  obtain ⟨N', u', H', p, s⟩ := y
  exact ⟨N', u', H', p, s.fr hf⟩
theorem cC.cg {N' : Nat → Int} {u' : Nat} {H' : Nat → Nat → Int} (s : cC N u H h) (e : eqS N u H N' u' H') : cC N' u' H' h := by
  obtain ⟨e1, e2, e3⟩ := e
  subst e2
  exact cS.cgN e1 e3 s
theorem RO.cz {reg : Prop} {fail : Nat → Prop} {res : (Nat → Int) → Prop} {to : Int} {z : mj_R} (r : RO g n N u H reg fail res to z) (C : Prop) (R : Nat → Int) (h1 : C → reg) (h2 : ∀ k, fail k → ¬ C) (h3 : ∀ w, reg → res w → sml w → C ∧ ∀ j, j < 13 → w j = R j) : cZ g (clQ C R to.toNat N u H) z := by
  rcases r with ⟨a, w, h9, b, c, d, rfl⟩ | ⟨k, h9, a, b, rfl⟩
  · obtain ⟨e1, e2⟩ := h3 w a c b
    exact ⟨_, _, _, _, Or.inl ⟨e1, w, e2, rfl, rfl, rfl⟩, d⟩
  · refine ⟨_, _, _, _, Or.inr ⟨fun q => ?_, rfl, rfl, rfl⟩, b⟩
    rcases a with ⟨a, _⟩ | ⟨_, a⟩
    · exact a (h1 q)
    · exact h2 k a q
theorem rIx.z {tm er : Int} {T : Nat → Int} {r : mj_R} {N' : Nat → Int} {u' : Nat} {H' : Nat → Nat → Int} {P : SP} (k : rIx N' u' H' tm er T r) (p : P N' u' H') : rZ P tm er T r := by
  obtain ⟨z, h9, _, rfl, a⟩ := k
  exact ⟨N', u', H', p, a⟩
theorem rJx.z {tm er : Int} {T : Nat → Int} {r : mj_R} {N' : Nat → Int} {u' : Nat} {H' : Nat → Nat → Int} {P : SP} (k : rJx N' u' H' tm er T r) (p : P N' u' H') : rZ P tm er T r := by
  obtain ⟨z, h9, rfl, a⟩ := k
  exact ⟨N', u', H', p, a⟩
theorem rDx.z {tm er : Int} {T : Nat → Int} {r : mj_R} {N' : Nat → Int} {u' : Nat} {H' : Nat → Nat → Int} {P : SP} (k : rDx N' u' H' tm er T r) (p : P N' u' H') : rZ P tm er T r := by
  obtain ⟨z, h9, rfl, a⟩ := k
  exact ⟨N', u', H', p, a⟩
theorem rEx.z {tm er : Int} {T : Nat → Int} {r : mj_R} {N' : Nat → Int} {u' : Nat} {H' : Nat → Nat → Int} {P : SP} (k : rEx N' u' H' tm er T r) (p : P N' u' H') : rZ P tm er T r := by
  obtain ⟨z, h9, rfl, a⟩ := k
  exact ⟨N', u', H', p, a⟩
theorem RR.rz {tm er : Int} {T : Nat → Int} {reg : Prop} {res : (Nat → Int) → Prop} {to : Int} {z : mj_R} (r : RR tm er T N u H reg res to z) (R : Nat → Int) (h3 : ∀ w, res w → ∀ j, j < 13 → w j = R j) : rZ (clQ (reg ∧ sml R) R to.toNat N u H) tm er T z := by
  rcases r with ⟨a, w, b, ⟨c, d⟩ | ⟨c, d⟩⟩ | ⟨a, d⟩
  · exact d.z (Or.inl ⟨⟨a, sml_cg (h3 w b) c⟩, w, h3 w b, rfl, rfl, rfl⟩)
  · exact d.z (Or.inr ⟨fun q => c (sml_cg (fun j hj => (h3 w b j hj).symm) q.2), rfl, rfl, rfl⟩)
  · exact d.z (Or.inr ⟨fun q => a q.1, rfl, rfl, rfl⟩)
theorem RP.rz {tm er : Int} {T : Nat → Int} {reg : Prop} {P : pz_P} {to : Int} {z : mj_R} (r : RP tm er T N u H reg P to z) : rZ (clQ (reg ∧ fit13 P) P to.toNat N u H) tm er T z := by
  rcases r with ⟨a, ⟨b, w, c, d⟩ | ⟨b, d⟩⟩ | ⟨a, d⟩
  · exact d.z (Or.inl ⟨⟨a, b⟩, w, c, rfl, rfl, rfl⟩)
  · exact d.z (Or.inr ⟨fun q => b q.2, rfl, rfl, rfl⟩)
  · exact d.z (Or.inr ⟨fun q => a q.1, rfl, rfl, rfl⟩)
theorem jIx.AS {tm er : Int} {T : Nat → Int} (I : jIx N u H tm er T h) : AS N u H := by
  obtain ⟨S, N1, B, X, V, hs, ⟨k1, k2, k3, _⟩, kn, ku, kh⟩ := I
  have hu : u ≤ 8 := by omega
  refine ⟨gN_congr (fun j hj => (kn j hj).symm) k1, hu, fun k hk => ?_⟩
  exact gN_congr (fun j hj => (kh k hk j hj).symm) (k3 (u - 1 - k) (by omega))
end AG3
/-! The class's calls that change what is kept, in one form. -/
/-- a row that is one of those that fit the words -/
def exQ (reg : Prop) (U F : (Nat → Int) → Prop) (to : Nat) (N : Nat → Int) (u : Nat) (H : Nat → Nat → Int) : SP := fun N' u' H' => ∃ R : Nat → Int, (reg → U R) ∧ clQ (reg ∧ F R) R to N u H N' u' H'
theorem exQ.ag {reg : Prop} {U F : (Nat → Int) → Prop} {to : Nat} {N : Nat → Int} {u : Nat} {H : Nat → Nat → Int} (ht : reg → to ≤ 5) (hU : ∀ R1 R2, U R1 → U R2 → (∀ j, j < 13 → R1 j = R2 j) ∧ (F R1 ↔ F R2)) : AgP (exQ reg U F to N u H) (exQ reg U F to N u H) := fun N1 u1 H1 N2 u2 H2 a b => by
  obtain ⟨R1, a1, a2⟩ := a
  obtain ⟨R2, b1, b2⟩ := b
  rcases a2 with ⟨⟨c1, c2⟩, w1, a2, rfl, rfl, rfl⟩ | ⟨c1, rfl, rfl, rfl⟩
  · obtain ⟨q1, q2⟩ := hU R1 R2 (a1 c1) (b1 c1)
    rcases b2 with ⟨_, w2, b2, rfl, rfl, rfl⟩ | ⟨d1, _, _, _⟩
    · exact ⟨eqB.row (ht c1) (fun j hj => (a2 j hj).trans ((q1 j hj).trans (b2 j hj).symm)), rfl, fun k _ => eqB.rf _⟩
    · exact absurd ⟨c1, q2.mp c2⟩ d1
  · rcases b2 with ⟨⟨d1, d2⟩, _⟩ | ⟨_, rfl, rfl, rfl⟩
    · obtain ⟨q1, q2⟩ := hU R1 R2 (a1 d1) (b1 d1)
      exact absurd ⟨d1, q2.mpr d2⟩ c1
    · exact eqS.rf _ _ _
theorem eqB.tr {N N' N'' : Nat → Int} (h : eqB N N') (k : eqB N' N'') : eqB N N'' := ⟨fun j hj => (h.1 j hj).trans (k.1 j hj), h.2.1.trans k.2.1, fun i hi => ⟨(h.2.2 i hi).1.trans (k.2.2 i (by rw [← h.2.1]; exact hi)).1, (h.2.2 i hi).2.trans (k.2.2 i (by rw [← h.2.1]; exact hi)).2⟩⟩
/-- what is kept becomes that, or nothing changes -/
def eqQ (C : Prop) (M : Nat → Int) (N : Nat → Int) (u : Nat) (H : Nat → Nat → Int) : SP := fun N' u' H' => (C ∧ eqB N' M ∧ u' = upu u ∧ H' = pushH N H) ∨ (¬ C ∧ N' = N ∧ u' = u ∧ H' = H)
theorem eqQ.ag (C : Prop) (M N : Nat → Int) (u : Nat) (H : Nat → Nat → Int) : AgP (eqQ C M N u H) (eqQ C M N u H) := fun N1 u1 H1 N2 u2 H2 a b => by
  rcases a with ⟨c1, a1, rfl, rfl⟩ | ⟨c1, rfl, rfl, rfl⟩
  · rcases b with ⟨c2, b1, rfl, rfl⟩ | ⟨c2, _, _, _⟩
    · exact ⟨a1.tr b1.sy, rfl, fun k _ => eqB.rf _⟩
    · exact absurd c1 c2
  · rcases b with ⟨c2, _⟩ | ⟨c2, rfl, rfl, rfl⟩
    · exact absurd c2 c1
    · exact eqS.rf _ _ _
/-- two rows -/
def dvP (C : Prop) (R S : Nat → Int) (to tr : Nat) (N : Nat → Int) (u : Nat) (H : Nat → Nat → Int) : SP := fun N' u' H' => (C ∧ ∃ w v : Nat → Int, (∀ j, j < 13 → w j = R j) ∧ (∀ j, j < 13 → v j = S j) ∧ N' = jfl (jfl N to w 13) tr v 13 ∧ u' = upu u ∧ H' = pushH N H) ∨ (¬ C ∧ N' = N ∧ u' = u ∧ H' = H)
theorem eqB.row2 {N N' : Nat → Int} {r : Nat} (hr : r ≤ 5) {w w' : Nat → Int} (e : eqB N N') (h : ∀ j, j < 13 → w j = w' j) : eqB (jfl N r w 13) (jfl N' r w' 13) := by
  refine eqB.tr (eqB.row hr h) ⟨fun j hj => ?_, ?_, fun k hk => ?_⟩
  · unfold jfl
    split
    · rfl
    · exact e.1 j hj
  · rw [jfl_off _ _ _ (by omega), jfl_off _ _ _ (by omega)]
    exact e.2.1
  · rw [jfl_off _ _ _ (by omega)] at hk
    rw [jfl_off _ _ _ (by omega), jfl_off _ _ _ (by omega), jfl_off _ _ _ (by omega), jfl_off _ _ _ (by omega)]
    exact e.2.2 k hk
theorem dvP.ag {C : Prop} {R S : Nat → Int} {to tr : Nat} {N : Nat → Int} {u : Nat} {H : Nat → Nat → Int} (ht : C → to ≤ 5 ∧ tr ≤ 5) : AgP (dvP C R S to tr N u H) (dvP C R S to tr N u H) := fun N1 u1 H1 N2 u2 H2 a b => by
  rcases a with ⟨c1, w1, v1, a1, a2, rfl, rfl, rfl⟩ | ⟨c1, rfl, rfl, rfl⟩
  · rcases b with ⟨c2, w2, v2, b1, b2, rfl, rfl, rfl⟩ | ⟨c2, _, _, _⟩
    · exact ⟨eqB.row2 (ht c1).2 (eqB.row (ht c1).1 (fun j hj => (a1 j hj).trans (b1 j hj).symm)) (fun j hj => (a2 j hj).trans (b2 j hj).symm), rfl, fun k _ => eqB.rf _⟩
    · exact absurd c1 c2
  · rcases b with ⟨c2, _⟩ | ⟨c2, rfl, rfl, rfl⟩
    · exact absurd c2 c1
    · exact eqS.rf _ _ _
def undQ (N : Nat → Int) (u : Nat) (H : Nat → Nat → Int) : SP := fun N' u' H' => (u = 0 ∧ N' = N ∧ u' = u ∧ H' = H) ∨ ∃ v, u = v + 1 ∧ N' = H 0 ∧ u' = v ∧ H' = fun k => H (k + 1)
theorem undQ.ag (N : Nat → Int) (u : Nat) (H : Nat → Nat → Int) : AgP (undQ N u H) (undQ N u H) := fun N1 u1 H1 N2 u2 H2 a b => by
  rcases a with ⟨c1, a1, a2, a3⟩ | ⟨v, c1, a1, a2, a3⟩
  · rcases b with ⟨_, b1, b2, b3⟩ | ⟨v2, c2, _⟩
    · rw [a1, a2, a3, b1, b2, b3]
      exact eqS.rf _ _ _
    · omega
  · rcases b with ⟨c2, _⟩ | ⟨v2, c2, b1, b2, b3⟩
    · omega
    · rw [a1, a2, a3, b1, b2, b3, show v = v2 by omega]
      exact eqS.rf _ _ _
/-- what each call does -/
def rg1 (a : Int) : Prop := 0 ≤ a ∧ a ≤ 5
def Q_sum (N : Nat → Int) (u : Nat) (H : Nat → Nat → Int) (f to a b : Int) : SP := clQ (((0 ≤ to ∧ to ≤ 5) ∧ (0 ≤ a ∧ a ≤ 5) ∧ (0 ≤ b ∧ b ≤ 5)) ∧ sml (sumN N f a b)) (sumN N f a b) to.toNat N u H
def Q_multiply (N : Nat → Int) (u : Nat) (H : Nat → Nat → Int) (to a b : Int) : SP := clQ (((0 ≤ to ∧ to ≤ 5) ∧ (0 ≤ a ∧ a ≤ 5) ∧ (0 ≤ b ∧ b ≤ 5)) ∧ fit13 (pz_mul (rwN N a) (rwN N b))) (pz_mul (rwN N a) (rwN N b)) to.toNat N u H
def Q_power (N : Nat → Int) (u : Nat) (H : Nat → Nat → Int) (to a e : Int) : SP := clQ ((((0 ≤ to ∧ to ≤ 5) ∧ (0 ≤ a ∧ a ≤ 5)) ∧ (0 ≤ e ∧ e ≤ 12)) ∧ fit13 (pw (rwN N a) e.toNat)) (pw (rwN N a) e.toNat) to.toNat N u H
def Q_derive (N : Nat → Int) (u : Nat) (H : Nat → Nat → Int) (to a : Int) : SP := clQ (((0 ≤ to ∧ to ≤ 5) ∧ (0 ≤ a ∧ a ≤ 5)) ∧ sml (drN N a)) (drN N a) to.toNat N u H
def Q_substitute (N : Nat → Int) (u : Nat) (H : Nat → Nat → Int) (to a b : Int) : SP := clQ (((0 ≤ to ∧ to ≤ 5) ∧ (0 ≤ a ∧ a ≤ 5) ∧ (0 ≤ b ∧ b ≤ 5)) ∧ fit13 (hw (rwN N a) (rwN N b) 13)) (hw (rwN N a) (rwN N b) 13) to.toNat N u H
def Q_divide (N : Nat → Int) (u : Nat) (H : Nat → Nat → Int) (to tr a b : Int) : SP := dvP (okDv N to tr a b) (dvQ (rwN N a) (rwN N b)) (dvT (rwN N a) (rwN N b)) to.toNat tr.toNat N u H
def Q_gcd (N : Nat → Int) (u : Nat) (H : Nat → Nat → Int) (to a b : Int) : SP := exQ ((0 ≤ to ∧ to ≤ 5) ∧ (0 ≤ a ∧ a ≤ 5) ∧ (0 ≤ b ∧ b ≤ 5)) (gcR (rwN N a) (rwN N b)) fit13 to.toNat N u H
def Q_primitive (N : Nat → Int) (u : Nat) (H : Nat → Nat → Int) (to a : Int) : SP := clQ (((0 ≤ to ∧ to ≤ 5) ∧ (0 ≤ a ∧ a ≤ 5)) ∧ fit13 (ppr (rwN N a))) (ppr (rwN N a)) to.toNat N u H
def Q_simple (N : Nat → Int) (u : Nat) (H : Nat → Nat → Int) (to a : Int) : SP := exQ (((0 ≤ to ∧ to ≤ 5) ∧ (0 ≤ a ∧ a ≤ 5)) ∧ 0 < fdg (rwN N a) 13) (smR (rwN N a)) fit13 to.toNat N u H
def Q_residue (N : Nat → Int) (u : Nat) (H : Nat → Nat → Int) (to a p : Int) : SP := clQ (((0 ≤ to ∧ to ≤ 5) ∧ (0 ≤ a ∧ a ≤ 5)) ∧ prm p) (fun j => rwN N a j % p) to.toNat N u H
def Q_setTerm (N : Nat → Int) (u : Nat) (H : Nat → Nat → Int) (to e x : Int) : SP := eqQ ((0 ≤ to ∧ to ≤ 5) ∧ (0 ≤ e ∧ e ≤ 12) ∧ (-999999999999999999 ≤ x ∧ x ≤ 999999999999999999)) (jvu N (to.toNat * 13 + e.toNat) x) N u H
def Q_addPoint (N : Nat → Int) (u : Nat) (H : Nat → Nat → Int) (x y : Int) : SP := eqQ (okPt N x y) (adN N x y) N u H
def Q_clearPoints (N : Nat → Int) (u : Nat) (H : Nat → Nat → Int) : SP := eqQ True (jvu N 78 0) N u H
def Q_interpolate (N : Nat → Int) (u : Nat) (H : Nat → Nat → Int) (to : Int) : SP := exQ (0 ≤ to ∧ to ≤ 5) (fun w => ∃ D, itR N w D) sml to.toNat N u H
def Q_read (N : Nat → Int) (u : Nat) (H : Nat → Nat → Int) (T : Nat → Int) (tm : Nat) (to : Int) : SP := clQ ((0 ≤ to ∧ to ≤ 5) ∧ rdErr T tm = -1 ∧ ∃ P, rdV T tm = some P ∧ fit13 P) ((rdV T tm).getD pz_0) to.toNat N u H
section CZP
variable {g h : mj_H} {n D u : Nat} {N : Nat → Int} {H : Nat → Nat → Int}
theorem pY_power (hg : g.length ≤ n) (A : AS N u H) (s : cS g n N u H h) {to : Int} (rto : -2147483648 ≤ to ∧ to ≤ 2147483647) {a : Int} (ra : -2147483648 ≤ a ∧ a ≤ 2147483647) {e : Int} (re : -2147483648 ≤ e ∧ e ≤ 2147483647) : mj_Ok (D + 6) 105 [.ref 1, .int (jn to), .int (jn a), .int (jn e)] h (RO g n N u H ((0 ≤ to ∧ to ≤ 5) ∧ (0 ≤ a ∧ a ≤ 5)) (fun k => (¬ (0 ≤ e ∧ e ≤ 12) ∧ k = 2) ∨ ((0 ≤ e ∧ e ≤ 12) ∧ ¬ fit13 (pw (rwN N a) e.toNat) ∧ k = 1)) (fun w => (0 ≤ e ∧ e ≤ 12) ∧ isP (pw (rwN N a) e.toNat) w) to) := by
  obtain ⟨V, X, m, b0, d, c⟩ := s
  refine mj_Ok.of (M := mj_m105) rfl rfl rfl ?_
  iterate 2 refine mj_T.pl rfl rfl rfl rfl ?_
  refine mj_T.call rfl rfl (Nat.le_of_ble_eq_true rfl) (Nat.le_of_ble_eq_true rfl) (mV_of m 19 cq_d1 (by decide) rfl (by decide) rfl _) rfl (mj_Ok.up (by omega) (mC_rowOf (D := 0) m (i := to) (by omega))) (fun v g1 hq => ?_) (fun i g1 hq => ?_)
  rotate_left
  · rcases hq with ⟨_, hq⟩ | ⟨hn, hq⟩
    · cases hq
    · cases hq
      exact Or.inl ⟨rfl, Or.inr ⟨_, _, Or.inl ⟨by omega, rfl⟩, cS.thr hg m b0 d c, rfl⟩⟩
  rcases hq with ⟨kto, hq⟩ | ⟨_, hq⟩
  rotate_left
  · cases hq
  cases hq
  refine mj_T.eq (pc2 := 5) (st2 := [.ref (4 + to.toNat)]) ?_ rfl rfl rfl rfl
  iterate 3 refine mj_T.pl rfl rfl rfl rfl ?_
  refine mj_T.call rfl rfl (Nat.le_of_ble_eq_true rfl) (Nat.le_of_ble_eq_true rfl) (mV_of m 19 cq_d1 (by decide) rfl (by decide) rfl _) rfl (mj_Ok.up (by omega) (mC_rowOf (D := 0) m (i := a) (by omega))) (fun v g2 hq => ?_) (fun i g2 hq => ?_)
  rotate_left
  · rcases hq with ⟨_, hq⟩ | ⟨hn, hq⟩
    · cases hq
    · cases hq
      exact Or.inl ⟨rfl, Or.inr ⟨_, _, Or.inl ⟨by omega, rfl⟩, cS.thr hg m b0 d c, rfl⟩⟩
  rcases hq with ⟨ka, hq⟩ | ⟨_, hq⟩
  rotate_left
  · cases hq
  cases hq
  refine mj_T.eq (pc2 := 11) (st2 := [.ref (4 + a.toNat)]) ?_ rfl rfl rfl rfl
  refine mj_T.pl (loc' := [some (.ref 1), some (.int (jn to)), some (.int (jn a)), some (.int (jn e)), some (.ref (4 + a.toNat))]) rfl rfl rfl rfl ?_
  refine mj_T.pl rfl rfl rfl rfl ?_
  refine mj_T.call rfl rfl (Nat.le_of_ble_eq_true rfl) (Nat.le_of_ble_eq_true rfl) rfl rfl (mj_Ok.up (by omega) (mC_exponent (D := 0) (i := e) (by omega))) (fun v g3 hq => ?_) (fun i g3 hq => ?_)
  rotate_left
  · rcases hq with ⟨_, hq⟩ | ⟨hn, hq⟩
    · cases hq
    · cases hq
      exact Or.inl ⟨rfl, Or.inr ⟨_, _, Or.inr ⟨⟨kto, ka⟩, Or.inl ⟨hn, rfl⟩⟩, cS.thr hg m b0 d c, rfl⟩⟩
  rcases hq with ⟨ke, hq⟩ | ⟨_, hq⟩
  rotate_left
  · cases hq
  cases hq
  refine mj_T.eq (pc2 := 17) (st2 := []) ?_ rfl rfl rfl rfl
  refine mj_T.pl rfl rfl rfl rfl ?_
  refine mT_get m 19 cq_d1 (by decide) rfl rfl ?_
  iterate 3 refine mj_T.pl rfl rfl rfl rfl ?_
  refine mT_get m 19 cq_d1 (by decide) rfl rfl ?_
  refine mj_T.call rfl rfl (Nat.le_of_ble_eq_true rfl) (Nat.le_of_ble_eq_true rfl) (mV_of m 11 cq_d19 (by decide) rfl (by decide) rfl _) rfl (mj_Ok.up (by omega) (oX_pow (D := 0) A m b0 d c ka ke)) (fun v g4 hq => ?_) (fun i g4 hq => ?_)
  rotate_left
  · obtain ⟨_, _, _, _, _, _, _, _, _, hq⟩ := hq; cases hq
  obtain ⟨V5, X5, _, y, m5, b5, d5, s5, hy, hq⟩ := hq
  cases hq
  have hy2 : y = 0 ∨ y = 1 := by
    rcases hy with ⟨e, _⟩ | ⟨e, _⟩
    · exact Or.inr e
    · exact Or.inl e
  refine mj_T.eq (pc2 := 31) (st2 := [.int (jn y)]) ?_ rfl rfl rfl rfl
  refine mj_T.if0 (a := y) rfl ⟨by omega, by omega⟩ (fun c5 => ?_) (fun c5 => ?_)
  · simp only [jc, Bool.not_eq_true', Bool.not_eq_false', decide_eq_true_eq, decide_eq_false_iff_not] at c5
    have hok := hy.resolve_right (fun q => absurd q.1 (by omega))
    iterate 2 refine mj_T.pl rfl rfl rfl rfl ?_
    refine mj_T.call rfl rfl (Nat.le_of_ble_eq_true rfl) (Nat.le_of_ble_eq_true rfl) (mV_of m5 19 cq_d1 (by decide) rfl (by decide) rfl _) rfl (mj_Ok.up (by omega) (mX_keep (D := 0) A m5 b5 d5 (c.sb s5) kto hok.2.1)) (fun v g6 hq => ?_) (fun i g6 hq => ?_)
    rotate_left
    · obtain ⟨_, _, hq⟩ := hq; cases hq
    obtain ⟨_, cs, hq⟩ := hq
    cases hq
    refine mj_T.eq (pc2 := 47) (st2 := [.int (jn ((fdg (X5 481) 13 : Int) - 1))]) ?_ rfl rfl rfl rfl
    exact mj_T.ret rfl rfl rfl (Or.inl ⟨⟨kto, ka⟩, _, _, hok.2.1, ⟨ke, hok.2.2⟩, cs, rfl⟩)
  · simp only [jc, Bool.not_eq_true', Bool.not_eq_false', decide_eq_true_eq, decide_eq_false_iff_not] at c5
    have hbad := hy.resolve_left (fun q => absurd q.1 (by omega))
    exact mj_T.throws rfl rfl rfl (Nat.le_of_ble_eq_true rfl) (Or.inr ⟨_, _, Or.inr ⟨⟨kto, ka⟩, Or.inr ⟨ke, hbad.2, rfl⟩⟩, cS.thr hg m5 b5 d5 (c.sb s5), rfl⟩)
end CZP
section CZC
variable {n u : Nat} {h : mj_H} {N : Nat → Int} {H : Nat → Nat → Int}
theorem rdL.cz {g : mj_H} {z : mj_R} (r : rdL g n N u H z) : cZ g (sameQ N u H) z := by
  rcases r with ⟨v, h2, s, rfl⟩ | ⟨k, h2, s, rfl⟩
  · exact ⟨_, _, _, _, ⟨rfl, rfl, rfl⟩, s⟩
  · exact ⟨_, _, _, _, ⟨rfl, rfl, rfl⟩, s⟩
theorem cz_102 (A : AS N u H) (s : cC N u H h) {to a b : Int} (r1 : -2147483648 ≤ to ∧ to ≤ 2147483647) (r2 : -2147483648 ≤ a ∧ a ≤ 2147483647) (r3 : -2147483648 ≤ b ∧ b ≤ 2147483647) : mj_Ok 59 102 [.ref 1, .int (jn to), .int (jn a), .int (jn b)] h (cZ h (Q_sum N u H 1 to a b)) := (mj_Ok.up (by decide) (pX_add (D := 0) (Nat.le_refl _) A s r1 r2 r3)).to (fun z hz => RO.cz hz _ _ (fun q => q.1) (fun k hk q => hk.1 q.2) (fun w r hw _ => ⟨⟨r, hw.1⟩, hw.2⟩))
theorem cz_103 (A : AS N u H) (s : cC N u H h) {to a b : Int} (r1 : -2147483648 ≤ to ∧ to ≤ 2147483647) (r2 : -2147483648 ≤ a ∧ a ≤ 2147483647) (r3 : -2147483648 ≤ b ∧ b ≤ 2147483647) : mj_Ok 59 103 [.ref 1, .int (jn to), .int (jn a), .int (jn b)] h (cZ h (Q_sum N u H (-1) to a b)) := (mj_Ok.up (by decide) (pX_subtract (D := 0) (Nat.le_refl _) A s r1 r2 r3)).to (fun z hz => RO.cz hz _ _ (fun q => q.1) (fun k hk q => hk.1 q.2) (fun w r hw _ => ⟨⟨r, hw.1⟩, hw.2⟩))
theorem cz_104 (A : AS N u H) (s : cC N u H h) {to a b : Int} (r1 : -2147483648 ≤ to ∧ to ≤ 2147483647) (r2 : -2147483648 ≤ a ∧ a ≤ 2147483647) (r3 : -2147483648 ≤ b ∧ b ≤ 2147483647) : mj_Ok 59 104 [.ref 1, .int (jn to), .int (jn a), .int (jn b)] h (cZ h (Q_multiply N u H to a b)) := (mj_Ok.up (by decide) (pX_multiply (D := 0) (Nat.le_refl _) A s r1 r2 r3)).to (fun z hz => RO.cz hz _ _ (fun q => q.1) (fun k hk q => hk.1 q.2) (fun w r hw _ => ⟨⟨r, hw.1⟩, hw.2⟩))
theorem cz_105 (A : AS N u H) (s : cC N u H h) {to a b : Int} (r1 : -2147483648 ≤ to ∧ to ≤ 2147483647) (r2 : -2147483648 ≤ a ∧ a ≤ 2147483647) (r3 : -2147483648 ≤ b ∧ b ≤ 2147483647) : mj_Ok 59 105 [.ref 1, .int (jn to), .int (jn a), .int (jn b)] h (cZ h (Q_power N u H to a b)) := (mj_Ok.up (by decide) (pY_power (D := 0) (Nat.le_refl _) A s r1 r2 r3)).to (fun z hz => RO.cz hz _ _ (fun q => q.1.1) (fun k hk q => by
  rcases hk with hk | hk
  · exact hk.1 q.1.2
  · exact hk.2.1 q.2) (fun w r hw _ => ⟨⟨⟨r, hw.1⟩, hw.2.1⟩, hw.2.2⟩))
theorem cz_106 (A : AS N u H) (s : cC N u H h) {to a : Int} (r1 : -2147483648 ≤ to ∧ to ≤ 2147483647) (r2 : -2147483648 ≤ a ∧ a ≤ 2147483647) : mj_Ok 59 106 [.ref 1, .int (jn to), .int (jn a)] h (cZ h (Q_derive N u H to a)) := (mj_Ok.up (by decide) (pX_derive (D := 0) (Nat.le_refl _) A s r1 r2)).to (fun z hz => RO.cz hz _ _ (fun q => q.1) (fun k hk q => hk.1 q.2) (fun w r hw _ => ⟨⟨r, hw.1⟩, hw.2⟩))
theorem cz_107 (A : AS N u H) (s : cC N u H h) {to a b : Int} (r1 : -2147483648 ≤ to ∧ to ≤ 2147483647) (r2 : -2147483648 ≤ a ∧ a ≤ 2147483647) (r3 : -2147483648 ≤ b ∧ b ≤ 2147483647) : mj_Ok 59 107 [.ref 1, .int (jn to), .int (jn a), .int (jn b)] h (cZ h (Q_substitute N u H to a b)) := (mj_Ok.up (by decide) (pX_substitute (D := 0) (Nat.le_refl _) A s r1 r2 r3)).to (fun z hz => RO.cz hz _ _ (fun q => q.1) (fun k hk q => hk.1 q.2) (fun w r hw _ => ⟨⟨r, hw.1⟩, hw.2⟩))
theorem cz_108 (A : AS N u H) (s : cC N u H h) {to a b d : Int} (r1 : -2147483648 ≤ to ∧ to ≤ 2147483647) (r2 : -2147483648 ≤ a ∧ a ≤ 2147483647) (r3 : -2147483648 ≤ b ∧ b ≤ 2147483647) (r4 : -2147483648 ≤ d ∧ d ≤ 2147483647) : mj_Ok 59 108 [.ref 1, .int (jn to), .int (jn a), .int (jn b), .int (jn d)] h (cZ h (Q_divide N u H to a b d)) := (mj_Ok.up (by decide) (pX_divide (D := 0) (Nat.le_refl _) A s r1 r2 r3 r4)).to (fun z hz => by
  rcases hz with ⟨a1, a2, a3, a4, a5, q, r, h2, a6, a7, a8, rfl⟩ | ⟨k, h2, a1, a2, rfl⟩
  · exact ⟨_, _, _, _, Or.inl ⟨⟨a1, a2, a3, a4, a5⟩, q, r, a6, a7, rfl, rfl, rfl⟩, a8⟩
  · refine ⟨_, _, _, _, Or.inr ⟨fun q => ?_, rfl, rfl, rfl⟩, a2⟩
    obtain ⟨q1, q2, q3, q4, q5⟩ := q
    rcases a1 with ⟨a1, _⟩ | ⟨_, ⟨a1, _⟩ | ⟨_, a1, _⟩ | ⟨_, _, a1, _⟩⟩
    · exact a1 q1
    · exact q2 a1
    · omega
    · exact a1 ⟨q4, q5⟩)
theorem RO.ez {g : mj_H} {reg reg2 : Prop} {fail : Nat → Prop} {res : (Nat → Int) → Prop} {to : Int} {z : mj_R} (r : RO g n N u H reg fail res to z) (U F : (Nat → Int) → Prop) (h1 : reg2 → reg) (h2 : ∀ k, reg → fail k → (¬ reg2) ∨ ∃ R, U R ∧ ¬ F R) (h3 : ∀ w, reg → res w → sml w → reg2 ∧ ∃ R, U R ∧ F R ∧ ∀ j, j < 13 → w j = R j) : cZ g (exQ reg2 U F to.toNat N u H) z := by
  rcases r with ⟨a, w, h9, b, c, d, rfl⟩ | ⟨k, h9, a, b, rfl⟩
  · obtain ⟨e0, R, e1, e2, e3⟩ := h3 w a c b
    exact ⟨_, _, _, _, ⟨R, fun _ => e1, Or.inl ⟨⟨e0, e2⟩, w, e3, rfl, rfl, rfl⟩⟩, d⟩
  · by_cases q : reg2
    · rcases a with ⟨a, _⟩ | ⟨ar, a⟩
      · exact absurd (h1 q) a
      · rcases h2 k ar a with w | ⟨R, e1, e2⟩
        · exact absurd q w
        · exact ⟨_, _, _, _, ⟨R, fun _ => e1, Or.inr ⟨fun w => e2 w.2, rfl, rfl, rfl⟩⟩, b⟩
    · exact ⟨_, _, _, _, ⟨pz_0, fun w => absurd w q, Or.inr ⟨fun w => q w.1, rfl, rfl, rfl⟩⟩, b⟩
theorem cz_109 (A : AS N u H) (s : cC N u H h) {to a b : Int} (r1 : -2147483648 ≤ to ∧ to ≤ 2147483647) (r2 : -2147483648 ≤ a ∧ a ≤ 2147483647) (r3 : -2147483648 ≤ b ∧ b ≤ 2147483647) : mj_Ok 59 109 [.ref 1, .int (jn to), .int (jn a), .int (jn b)] h (cZ h (Q_gcd N u H to a b)) := (mj_Ok.up (by decide) (pX_gcd (D := 0) (Nat.le_refl _) A s r1 r2 r3)).to (fun z hz => RO.ez hz _ _ (fun q => q) (fun k _ hk => Or.inr hk.1) (fun w r hw _ => by
  obtain ⟨R, e1, e2⟩ := hw
  exact ⟨r, R, e1, e2.1, e2.2⟩))
theorem cz_110 (A : AS N u H) (s : cC N u H h) {to a : Int} (r1 : -2147483648 ≤ to ∧ to ≤ 2147483647) (r2 : -2147483648 ≤ a ∧ a ≤ 2147483647) : mj_Ok 59 110 [.ref 1, .int (jn to), .int (jn a)] h (cZ h (Q_primitive N u H to a)) := (mj_Ok.up (by decide) (pX_primitive (D := 0) (Nat.le_refl _) A s r1 r2)).to (fun z hz => RO.cz hz _ _ (fun q => q.1) (fun k hk q => hk.1) (fun w r hw sw => ⟨⟨r, sml_cg hw sw, fun i hi => if_neg (by omega)⟩, hw⟩))
theorem cz_111 (A : AS N u H) (s : cC N u H h) {to a : Int} (r1 : -2147483648 ≤ to ∧ to ≤ 2147483647) (r2 : -2147483648 ≤ a ∧ a ≤ 2147483647) : mj_Ok 59 111 [.ref 1, .int (jn to), .int (jn a)] h (cZ h (Q_simple N u H to a)) := (mj_Ok.up (by decide) (pX_simple (D := 0) (Nat.le_refl _) A s r1 r2)).to (fun z hz => RO.ez hz _ _ (fun q => q.1) (fun k _ hk => by
  rcases hk with hk | hk
  · exact Or.inl (fun q => by have := q.2; omega)
  · exact Or.inr hk.2.1) (fun w r hw _ => by
  obtain ⟨e0, R, e1, e2⟩ := hw
  exact ⟨⟨r, e0⟩, R, e1, e2.1, e2.2⟩))
theorem cz_112 (A : AS N u H) (s : cC N u H h) {to a b : Int} (r1 : -2147483648 ≤ to ∧ to ≤ 2147483647) (r2 : -2147483648 ≤ a ∧ a ≤ 2147483647) (r3 : -2147483648 ≤ b ∧ b ≤ 2147483647) : mj_Ok 59 112 [.ref 1, .int (jn to), .int (jn a), .int (jn b)] h (cZ h (Q_residue N u H to a b)) := (mj_Ok.up (by decide) (pX_residue (D := 0) (Nat.le_refl _) A s r1 r2 r3)).to (fun z hz => RO.cz hz _ _ (fun q => q.1) (fun k hk q => hk.1 q.2) (fun w r hw _ => ⟨⟨r, hw.1⟩, hw.2⟩))
theorem eqB.term {to e : Int} {x : Int} {w : Nat → Int} (h1 : 0 ≤ to ∧ to ≤ 5) (h2 : 0 ≤ e ∧ e ≤ 12) (hw : ∀ j, j < 13 → w j = if j = e.toNat then x else rwN N to j) : eqB (jfl N to.toNat w 13) (jvu N (to.toNat * 13 + e.toNat) x) := by
  refine ⟨fun j hj => ?_, ?_, fun k hk => ?_⟩
  · by_cases q : j < to.toNat * 13 ∨ to.toNat * 13 + 13 ≤ j
    · rw [jfl_off _ _ _ q, jvu_ne _ _ _ (by omega)]
    · obtain ⟨i, hi, rfl⟩ : ∃ i, i < 13 ∧ j = to.toNat * 13 + i := ⟨j - to.toNat * 13, by omega, by omega⟩
      rw [jfl_at _ _ _ hi, hw i hi]
      by_cases c : i = e.toNat
      · rw [if_pos c, c, jvu_at]
      · rw [if_neg c, jvu_ne _ _ _ (by omega)]
        exact if_pos hi
  · rw [jfl_off _ _ _ (by omega), jvu_ne _ _ _ (by omega)]
  · rw [jfl_off _ _ _ (by omega), jvu_ne _ _ _ (by omega), jfl_off _ _ _ (by omega), jvu_ne _ _ _ (by omega)]
    exact ⟨rfl, rfl⟩
theorem cz_113 (A : AS N u H) (s : cC N u H h) {to e x : Int} (r1 : -2147483648 ≤ to ∧ to ≤ 2147483647) (r2 : -2147483648 ≤ e ∧ e ≤ 2147483647) (r3 : jR x) : mj_Ok 59 113 [.ref 1, .int (jn to), .int (jn e), .long (jl x)] h (cZ h (Q_setTerm N u H to e x)) := (mj_Ok.up (by decide) (pX_setTerm (D := 0) (Nat.le_refl _) A s r1 r2 r3)).to (fun z hz => by
  rcases hz with ⟨a, w, h9, b, c, d, rfl⟩ | ⟨k, h9, a, b, rfl⟩
  · exact ⟨_, _, _, _, Or.inl ⟨⟨a, c.1.1, by have := c.1.2; omega⟩, eqB.term a c.1.1 c.2, rfl, rfl⟩, d⟩
  · refine ⟨_, _, _, _, Or.inr ⟨fun q => ?_, rfl, rfl, rfl⟩, b⟩
    rcases a with ⟨a, _⟩ | ⟨_, ⟨a, _⟩ | ⟨_, a, _⟩⟩
    · exact a q.1
    · exact a q.2.1
    · exact a (by have := q.2.2; omega))
theorem cz_115 (A : AS N u H) (s : cC N u H h) {x y : Int} (r1 : -2147483648 ≤ x ∧ x ≤ 2147483647) (r2 : -2147483648 ≤ y ∧ y ≤ 2147483647) : mj_Ok 59 115 [.ref 1, .int (jn x), .int (jn y)] h (cZ h (Q_addPoint N u H x y)) := (mj_Ok.up (by decide) (pX_addPoint (D := 0) (Nat.le_refl _) A s r1 r2)).to (fun z hz => by
  have h6 := A.1.2.1.2
  rcases hz with ⟨a, b, h2, c, rfl⟩ | ⟨k, h2, a, b, rfl⟩
  · exact ⟨_, _, _, _, Or.inl ⟨⟨a, by omega, fun j hj q => b (Or.inr ⟨j, hj, q⟩)⟩, eqB.rf _, rfl, rfl⟩, c⟩
  · refine ⟨_, _, _, _, Or.inr ⟨fun q => ?_, rfl, rfl, rfl⟩, b⟩
    rcases a with ⟨a, _⟩ | ⟨_, a | ⟨j, a1, a2⟩, _⟩
    · exact a q.1
    · exact q.2.1 (by omega)
    · exact q.2.2 j a1 a2)
theorem cz_116 (A : AS N u H) (s : cC N u H h) : mj_Ok 59 116 [.ref 1] h (cZ h (Q_clearPoints N u H)) := (mj_Ok.up (by decide) (pX_clearPoints (D := 0) A s)).to (fun z hz => by
  obtain ⟨h2, c, rfl⟩ := hz
  exact ⟨_, _, _, _, Or.inl ⟨trivial, eqB.rf _, rfl, rfl⟩, c⟩)
theorem cz_117 (A : AS N u H) (s : cC N u H h) {to : Int} (r1 : -2147483648 ≤ to ∧ to ≤ 2147483647) : mj_Ok 59 117 [.ref 1, .int (jn to)] h (cZ h (Q_interpolate N u H to)) := (mj_Ok.up (by decide) (pX_interpolate (D := 0) (Nat.le_refl _) A s r1)).to (fun z hz => by
  rcases hz with ⟨a, w, D, h2, b, c, d, rfl⟩ | ⟨k, h2, a, b, rfl⟩
  · exact ⟨_, _, _, _, ⟨w, fun _ => ⟨D, b⟩, Or.inl ⟨⟨a, c⟩, w, fun _ _ => rfl, rfl, rfl, rfl⟩⟩, d⟩
  · rcases a with ⟨a, _⟩ | ⟨_, ⟨w, D, c1, c2⟩, _⟩
    · exact ⟨_, _, _, _, ⟨pz_0, fun q => absurd q a, Or.inr ⟨fun q => a q.1, rfl, rfl, rfl⟩⟩, b⟩
    · exact ⟨_, _, _, _, ⟨w, fun _ => ⟨D, c1⟩, Or.inr ⟨fun q => c2 q.2, rfl, rfl, rfl⟩⟩, b⟩)
theorem cz_118 (A : AS N u H) (s : cC N u H h) : mj_Ok 59 118 [.ref 1] h (cZ h (undQ N u H)) := (mj_Ok.up (by decide) (pX_undo (D := 0) A s)).to (fun z hz => by
  rcases hz with ⟨a, h2, c, rfl⟩ | ⟨v, a, h2, c, rfl⟩
  · exact ⟨_, _, _, _, Or.inl ⟨a, rfl, rfl, rfl⟩, c⟩
  · exact ⟨_, _, _, _, Or.inr ⟨v, a, rfl, rfl, rfl⟩, c⟩)
theorem cz_114 {tm : Nat} {T : Nat → Int} (A : AS N u H) (s : cC N u H h) (hB0 : jBuf tm T h) (ht : tm ≤ 200) (hT : ∀ j : Nat, j < tm → 1 ≤ T j ∧ T j ≤ 255) {to : Int} (r1 : -2147483648 ≤ to ∧ to ≤ 2147483647) : mj_Ok 59 114 [.ref 1, .int (jn to)] h (cZ h (Q_read N u H T tm to)) := (mj_Ok.up (by decide) (pX_read (Nat.le_refl _) A s hB0 ht hT r1)).to (fun z hz => RO.cz hz _ _ (fun q => q.1) (fun k hk q => by
  rcases hk with hk | hk
  · exact hk.1 q.2.1
  · obtain ⟨P, p1, _⟩ := q.2.2
    rw [hk.2.1] at p1
    cases p1) (fun w r hw _ => by
  obtain ⟨e, P, p1, p2⟩ := hw
  refine ⟨⟨r, e, P, p1, p2.1⟩, ?_⟩
  rw [p1]
  exact p2.2))
end CZC
/-! What the words fix: greatest divisors, simple parts, interpolations are one only; the descriptions agree. -/
theorem gcR.one {f1 f2 : Nat → Int} {R1 R2 : pz_P} (a : gcR f1 f2 R1) (b : gcR f1 f2 R2) : R1 = R2 := by
  rcases a with ⟨a1, a2, a3⟩ | ⟨a1, G1, d1, a2, a3, a4⟩
  · rcases b with ⟨_, _, b3⟩ | ⟨b1, _⟩
    · rw [a3, b3]
    · omega
  · rcases b with ⟨b1, b2, _⟩ | ⟨_, G2, d2, b2, b3, b4⟩
    · omega
    · rw [a4, b4, (GP.one a3 b3).2]
theorem smR.one {F S1 S2 : pz_P} (a : smR F S1) (b : smR F S2) : S1 = S2 := by
  obtain ⟨G1, e1, a1, a2, n1, _, a3, _⟩ := a
  obtain ⟨G2, e2, b1, b2, n2, _, b3, _⟩ := b
  have hG := (GP.one a1 b1).2
  rw [← hG] at b2
  have e : pz_mul (pz_add S1 (pz_sc (-1) S2)) G1 = pz_0 := by
    rw [pz_mul_addL, pz_mul_scL, ← a2, ← b2]
    funext i
    show ppr F i + -1 * ppr F i = 0
    omega
  have z := pz_short (N := n1 + n2 + 2) (db := e1) (fun i hi => by
    show S1 i + -1 * S2 i = 0
    rw [a3 i (by omega), b3 i (by omega)]
    rfl) (fun i hi => a1.2.2.1 i (by omega)) (by have := a1.2.1; omega) (fun i _ => rfl) e
  funext i
  have y : S1 i + -1 * S2 i = 0 := congrFun z i
  omega
theorem itp_lin {P Y : Nat → Int} {M1 M2 : Int} {p : Nat} (h1 : ∀ i, i < p → wgt P p i ∣ M1) (h2 : ∀ i, i < p → wgt P p i ∣ M2) (h0 : ∀ i, i < p → wgt P p i ≠ 0) : ∀ k, k ≤ p → ∀ e, M2 * itp P Y M1 p k e = M1 * itp P Y M2 p k e
  | 0, _, e => by
    show M2 * 0 = M1 * 0
    rw [Int.mul_zero, Int.mul_zero]
  | k + 1, hk, e => by
    have ih := itp_lin (Y := Y) h1 h2 h0 k (by omega) e
    obtain ⟨x1, hx1⟩ := h1 k (by omega)
    obtain ⟨x2, hx2⟩ := h2 k (by omega)
    have hw := h0 k (by omega)
    have t1 : M1.tdiv (wgt P p k) = x1 := by rw [hx1, Int.mul_comm, Int.mul_tdiv_cancel _ hw]
    have t2 : M2.tdiv (wgt P p k) = x2 := by rw [hx2, Int.mul_comm, Int.mul_tdiv_cancel _ hw]
    show M2 * (itp P Y M1 p k e + (Y k * M1.tdiv (wgt P p k)) * bsf P k p e) = M1 * (itp P Y M2 p k e + (Y k * M2.tdiv (wgt P p k)) * bsf P k p e)
    rw [t1, t2, Int.mul_add, Int.mul_add, ih]
    congr 1
    rw [hx1, hx2]
    generalize wgt P p k = c
    ac_rfl
theorem wgt_N {N : Nat → Int} (g : gN N) : ∀ i, i < (N 78).toNat → wgt (fun j => N (79 + j)) (N 78).toNat i ≠ 0 := fun i hi => (r18_bd (rdf_18 g (i := i) (n := (N 78).toNat) (by have := g.2.1.1; omega) hi)).1
theorem cp_dvd {a b : Nat} {w v : Nat → Int} (ha : Nat.gcd a (cgd w 13) = 1) (h : ∀ j, j < 13 → (b : Int) * w j = (a : Int) * v j) : a ∣ b := by
  have h1 : a ∣ b * cgd w 13 := by
    have h2 : ∀ i, i < 13 → a ∣ (((b : Int)) * w i).natAbs := fun i hi => by
      rw [h i hi, Int.natAbs_mul, Int.natAbs_natCast]
      exact Nat.dvd_mul_right _ _
    have h3 : ∀ k, k ≤ 13 → a ∣ b * cgd w k := fun k => by
      induction k with
      | zero => exact fun _ => ⟨0, rfl⟩
      | succ k ih =>
        intro hk
        show a ∣ b * Nat.gcd (cgd w k) (w k).natAbs
        rw [← Nat.gcd_mul_left]
        refine Nat.dvd_gcd (ih (by omega)) ?_
        have := h2 k (by omega)
        rw [Int.natAbs_mul, Int.natAbs_natCast] at this
        exact this
    exact h3 13 (Nat.le_refl _)
  exact Nat.Coprime.dvd_of_dvd_mul_right ha h1
theorem itR.one {N : Nat → Int} (g : gN N) {w1 w2 : Nat → Int} {D1 D2 : Int} (a : itR N w1 D1) (b : itR N w2 D2) : ∀ j, j < 13 → w1 j = w2 j := by
  obtain ⟨M1, a0, a1, a2, a3, a4⟩ := a
  obtain ⟨M2, b0, b1, b2, b3, b4⟩ := b
  have hlin := itp_lin (Y := fun i => N (85 + i)) a1 b1 (wgt_N g) (N 78).toNat (Nat.le_refl _)
  have hx : ∀ j, j < 13 → D2 * w1 j = D1 * w2 j := fun j hj => by
    have e1 := a2 j hj
    have e2 := b2 j hj
    have e3 := hlin j
    generalize itp (fun i => N (79 + i)) (fun i => N (85 + i)) M1 (N 78).toNat (N 78).toNat j = I1 at e1 e3
    generalize itp (fun i => N (79 + i)) (fun i => N (85 + i)) M2 (N 78).toNat (N 78).toNat j = I2 at e2 e3
    have hne : M1 * M2 ≠ 0 := Int.mul_ne_zero (by omega) (by omega)
    refine Int.eq_of_mul_eq_mul_left hne ?_
    have l1 : M1 * M2 * (D2 * w1 j) = D1 * D2 * (M2 * I1) := by
      rw [show M1 * M2 * (D2 * w1 j) = M2 * D2 * (M1 * w1 j) by ac_rfl, e1]
      ac_rfl
    have l2 : M1 * M2 * (D1 * w2 j) = D1 * D2 * (M1 * I2) := by
      rw [show M1 * M2 * (D1 * w2 j) = M1 * D1 * (M2 * w2 j) by ac_rfl, e2]
      ac_rfl
    rw [l1, l2, e3]
  have n1 : D1 = ((D1.natAbs : Nat) : Int) := by omega
  have n2 : D2 = ((D2.natAbs : Nat) : Int) := by omega
  have d1 : D1.natAbs ∣ D2.natAbs := cp_dvd a4 (fun j hj => by rw [← n1, ← n2]; exact hx j hj)
  have d2 : D2.natAbs ∣ D1.natAbs := cp_dvd b4 (fun j hj => by rw [← n1, ← n2]; exact (hx j hj).symm)
  have de : D1.natAbs = D2.natAbs := Nat.dvd_antisymm d1 d2
  intro j hj
  have y := hx j hj
  rw [show D1 = D2 by omega] at y
  exact Int.eq_of_mul_eq_mul_left (by omega) y
section QAG
variable {N : Nat → Int} {u : Nat} {H : Nat → Nat → Int}
theorem Q_sum.ag (f to a b : Int) : AgP (Q_sum N u H f to a b) (Q_sum N u H f to a b) := clQ.ag (fun q => by have := q.1.1; omega)
theorem Q_multiply.ag (to a b : Int) : AgP (Q_multiply N u H to a b) (Q_multiply N u H to a b) := clQ.ag (fun q => by have := q.1.1; omega)
theorem Q_power.ag (to a b : Int) : AgP (Q_power N u H to a b) (Q_power N u H to a b) := clQ.ag (fun q => by have := q.1.1.1; omega)
theorem Q_derive.ag (to a : Int) : AgP (Q_derive N u H to a) (Q_derive N u H to a) := clQ.ag (fun q => by have := q.1.1; omega)
theorem Q_substitute.ag (to a b : Int) : AgP (Q_substitute N u H to a b) (Q_substitute N u H to a b) := clQ.ag (fun q => by have := q.1.1; omega)
theorem Q_divide.ag (to tr a b : Int) : AgP (Q_divide N u H to tr a b) (Q_divide N u H to tr a b) := dvP.ag (fun q => by have := q.1.1; have := q.1.2.1; omega)
theorem Q_gcd.ag (to a b : Int) : AgP (Q_gcd N u H to a b) (Q_gcd N u H to a b) := exQ.ag (fun q => by have := q.1; omega) (fun R1 R2 h1 h2 => by
  rw [gcR.one h1 h2]
  exact ⟨fun _ _ => rfl, Iff.rfl⟩)
theorem Q_primitive.ag (to a : Int) : AgP (Q_primitive N u H to a) (Q_primitive N u H to a) := clQ.ag (fun q => by have := q.1.1; omega)
theorem Q_simple.ag (to a : Int) : AgP (Q_simple N u H to a) (Q_simple N u H to a) := exQ.ag (fun q => by have := q.1.1; omega) (fun R1 R2 h1 h2 => by
  rw [smR.one h1 h2]
  exact ⟨fun _ _ => rfl, Iff.rfl⟩)
theorem Q_residue.ag (to a p : Int) : AgP (Q_residue N u H to a p) (Q_residue N u H to a p) := clQ.ag (fun q => by have := q.1.1; omega)
theorem Q_setTerm.ag (to e x : Int) : AgP (Q_setTerm N u H to e x) (Q_setTerm N u H to e x) := eqQ.ag _ _ _ _ _
theorem Q_addPoint.ag (x y : Int) : AgP (Q_addPoint N u H x y) (Q_addPoint N u H x y) := eqQ.ag _ _ _ _ _
theorem Q_clearPoints.ag : AgP (Q_clearPoints N u H) (Q_clearPoints N u H) := eqQ.ag _ _ _ _ _
theorem Q_interpolate.ag (g : gN N) (to : Int) : AgP (Q_interpolate N u H to) (Q_interpolate N u H to) := exQ.ag (fun q => by omega) (fun R1 R2 h1 h2 => by
  obtain ⟨D1, h1⟩ := h1
  obtain ⟨D2, h2⟩ := h2
  have e := itR.one g h1 h2
  exact ⟨e, sml_cg e, sml_cg (fun j hj => (e j hj).symm)⟩)
theorem Q_read.ag (T : Nat → Int) (tm : Nat) (to : Int) : AgP (Q_read N u H T tm to) (Q_read N u H T tm to) := clQ.ag (fun q => by have := q.1; omega)
end QAG
section QRZ
variable {N : Nat → Int} {u : Nat} {H : Nat → Nat → Int} {tm er : Int} {T : Nat → Int} {h : mj_H}
theorem rz_add {x y z : Int} (hx : jr x) (hy : jr y) (hz : jr z) (I : jIx N u H tm er T h) : mj_Ok 60 230 [.ref 0, .int (jn x), .int (jn y), .int (jn z)] h (rZ (Q_sum N u H 1 x y z) tm er T) := (mj_Ok.up (by decide) (rx_add hx hy hz I)).to (fun r k => RR.rz k _ (fun w hw => hw))
theorem rz_subtract {x y z : Int} (hx : jr x) (hy : jr y) (hz : jr z) (I : jIx N u H tm er T h) : mj_Ok 60 231 [.ref 0, .int (jn x), .int (jn y), .int (jn z)] h (rZ (Q_sum N u H (-1) x y z) tm er T) := (mj_Ok.up (by decide) (rx_subtract hx hy hz I)).to (fun r k => RR.rz k _ (fun w hw => hw))
theorem rz_multiply {x y z : Int} (hx : jr x) (hy : jr y) (hz : jr z) (I : jIx N u H tm er T h) : mj_Ok 60 233 [.ref 0, .int (jn x), .int (jn y), .int (jn z)] h (rZ (Q_multiply N u H x y z) tm er T) := (mj_Ok.up (by decide) (rx_multiply hx hy hz I)).to (fun r k => RP.rz k)
theorem rz_power {x y z : Int} (hx : jr x) (hy : jr y) (hz : jr z) (I : jIx N u H tm er T h) : mj_Ok 60 234 [.ref 0, .int (jn x), .int (jn y), .int (jn z)] h (rZ (Q_power N u H x y z) tm er T) := (mj_Ok.up (by decide) (rx_power hx hy hz I)).to (fun r k => RP.rz k)
theorem rz_derive {x y : Int} (hx : jr x) (hy : jr y) (I : jIx N u H tm er T h) : mj_Ok 60 235 [.ref 0, .int (jn x), .int (jn y)] h (rZ (Q_derive N u H x y) tm er T) := (mj_Ok.up (by decide) (rx_derive hx hy I)).to (fun r k => RR.rz k _ (fun w hw => hw))
theorem rz_substitute {x y z : Int} (hx : jr x) (hy : jr y) (hz : jr z) (I : jIx N u H tm er T h) : mj_Ok 60 236 [.ref 0, .int (jn x), .int (jn y), .int (jn z)] h (rZ (Q_substitute N u H x y z) tm er T) := (mj_Ok.up (by decide) (rx_substitute hx hy hz I)).to (fun r k => RP.rz k)
theorem rz_divide {x y z w : Int} (hx : jr x) (hy : jr y) (hz : jr z) (hw : jr w) (I : jIx N u H tm er T h) : mj_Ok 60 237 [.ref 0, .int (jn x), .int (jn y), .int (jn z), .int (jn w)] h (rZ (Q_divide N u H x y z w) tm er T) := (mj_Ok.up (by decide) (rx_divide hx hy hz hw I)).to (fun r k => by
  rcases k with ⟨a, w, v, b, c, d⟩ | ⟨a, d⟩
  · exact d.z (Or.inl ⟨a, w, v, b, c, rfl, rfl, rfl⟩)
  · exact d.z (Or.inr ⟨a, rfl, rfl, rfl⟩))
theorem rz_gcd {x y z : Int} (hx : jr x) (hy : jr y) (hz : jr z) (I : jIx N u H tm er T h) : mj_Ok 60 238 [.ref 0, .int (jn x), .int (jn y), .int (jn z)] h (rZ (Q_gcd N u H x y z) tm er T) := (mj_Ok.up (by decide) (rx_gcd hx hy hz I)).to (fun r k => by
  obtain ⟨R, a, k⟩ := k
  obtain ⟨N', u', H', p, k⟩ := RP.rz k
  exact ⟨N', u', H', ⟨R, a, p⟩, k⟩)
theorem rz_primitive {x y : Int} (hx : jr x) (hy : jr y) (I : jIx N u H tm er T h) : mj_Ok 60 239 [.ref 0, .int (jn x), .int (jn y)] h (rZ (Q_primitive N u H x y) tm er T) := (mj_Ok.up (by decide) (rx_primitive hx hy I)).to (fun r k => RP.rz k)
theorem rz_simple {x y : Int} (hx : jr x) (hy : jr y) (I : jIx N u H tm er T h) : mj_Ok 60 240 [.ref 0, .int (jn x), .int (jn y)] h (rZ (Q_simple N u H x y) tm er T) := (mj_Ok.up (by decide) (rx_simple hx hy I)).to (fun r k => by
  obtain ⟨R, a, k⟩ := k
  obtain ⟨N', u', H', p, k⟩ := RP.rz k
  exact ⟨N', u', H', ⟨R, fun q => a q.1 q.2, p⟩, k⟩)
theorem rz_residue {x y z : Int} (hx : jr x) (hy : jr y) (hz : jr z) (I : jIx N u H tm er T h) : mj_Ok 60 243 [.ref 0, .int (jn x), .int (jn y), .int (jn z)] h (rZ (Q_residue N u H x y z) tm er T) := (mj_Ok.up (by decide) (rx_residue hx hy hz I)).to (fun r k => by
  rcases k with ⟨a, d⟩ | ⟨a, d⟩
  · exact d.z (Or.inl ⟨a, _, fun _ _ => rfl, rfl, rfl, rfl⟩)
  · exact d.z (Or.inr ⟨a, rfl, rfl, rfl⟩))
theorem rz_setTerm {x y z : Int} (hx : jr x) (hy : jr y) (hz : jR z) (I : jIx N u H tm er T h) : mj_Ok 60 244 [.ref 0, .int (jn x), .int (jn y), .long (jl z)] h (rZ (Q_setTerm N u H x y z) tm er T) := (mj_Ok.up (by decide) (rx_setTerm hx hy hz I)).to (fun r k => by
  rcases k with ⟨a, d⟩ | ⟨a, d⟩
  · exact d.z (Or.inl ⟨a, eqB.rf _, rfl, rfl⟩)
  · exact d.z (Or.inr ⟨a, rfl, rfl, rfl⟩))
theorem rz_addPoint {x y : Int} (hx : jr x) (hy : jr y) (I : jIx N u H tm er T h) : mj_Ok 60 246 [.ref 0, .int (jn x), .int (jn y)] h (rZ (Q_addPoint N u H x y) tm er T) := (mj_Ok.up (by decide) (rx_addPoint hx hy I)).to (fun r k => by
  rcases k with ⟨a, d⟩ | ⟨a, d⟩
  · exact d.z (Or.inl ⟨a, eqB.rf _, rfl, rfl⟩)
  · exact d.z (Or.inr ⟨a, rfl, rfl, rfl⟩))
theorem rz_clearPoints (I : jIx N u H tm er T h) : mj_Ok 60 247 [.ref 0] h (rZ (Q_clearPoints N u H) tm er T) := (mj_Ok.up (by decide) (rx_clearPoints I)).to (fun r k => rIx.z k (Or.inl ⟨trivial, eqB.rf _, rfl, rfl⟩))
theorem rz_undo (I : jIx N u H tm er T h) : mj_Ok 60 252 [.ref 0] h (rZ (undQ N u H) tm er T) := (mj_Ok.up (by decide) (rx_undo I)).to (fun r k => by
  rcases k with ⟨a, d⟩ | ⟨v, a, d⟩
  · exact d.z (Or.inl ⟨a, rfl, rfl, rfl⟩)
  · exact d.z (Or.inr ⟨v, a, rfl, rfl, rfl⟩))
theorem rz_interpolate {x : Int} (hx : jr x) (I : jIx N u H tm er T h) : mj_Ok 60 251 [.ref 0, .int (jn x)] h (rZ (Q_interpolate N u H x) tm er T) := (mj_Ok.up (by decide) (rx_interpolate hx I)).to (fun r k => by
  rcases k with ⟨a, w, D, b, ⟨c, d⟩ | ⟨c, d⟩⟩ | ⟨a, d⟩
  · exact d.z ⟨w, fun _ => ⟨D, b⟩, Or.inl ⟨⟨a, c⟩, w, fun _ _ => rfl, rfl, rfl, rfl⟩⟩
  · exact d.z ⟨w, fun _ => ⟨D, b⟩, Or.inr ⟨fun q => c q.2, rfl, rfl, rfl⟩⟩
  · exact d.z ⟨pz_0, fun q => absurd q a, Or.inr ⟨fun q => a q.1, rfl, rfl, rfl⟩⟩)
/-- read: the text is empty then -/
theorem rz_read {tm0 : Nat} {x : Int} (hx : jr x) (I : jIx N u H (tm0 : Int) er T h) : mj_Ok 60 245 [.ref 0, .int (jn x)] h (fun r => ((0 ≤ x ∧ x ≤ 5) ∧ rZ (Q_read N u H T tm0 x) 0 (rdErr T tm0) T r) ∨ (¬ (0 ≤ x ∧ x ≤ 5) ∧ rZ (Q_read N u H T tm0 x) tm0 er T r)) := (rx_read hx I).to (fun r k => by
  rcases k with ⟨a, ⟨b, P, c, d, w, e, k⟩ | ⟨b, k⟩⟩ | ⟨a, k⟩
  · rw [← b] at k
    refine Or.inl ⟨a, k.z (Or.inl ⟨⟨a, b, P, c, d⟩, w, ?_, rfl, rfl, rfl⟩)⟩
    rw [c]
    exact e
  · refine Or.inl ⟨a, k.z (Or.inr ⟨fun q => ?_, rfl, rfl, rfl⟩)⟩
    obtain ⟨_, q1, P, q2, _⟩ := q
    rcases b with b | b
    · exact b q1
    · rw [b] at q2
      cases q2
  · exact Or.inr ⟨a, k.z (Or.inr ⟨fun q => a q.1, rfl, rfl, rfl⟩)⟩)
end QRZ
