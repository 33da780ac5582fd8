/-! The reference works a text out, with values: bounds, numbers, powers, products. -/
def wkV (S N B T X V0 : Nat → Int) (tm : Nat) (o e : Int) (p b : Nat) (val : Option pz_P) (r : mj_R) : Prop := ∃ (V2 : Nat → Int) (a2 : Nat) (y : Int) (h2 : mj_H), rS (st3 (jvu S 13 y) (a2 : Int) o e) N B T X V2 h2 ∧ a2 ≤ tm ∧ (∀ s, 299 ≤ s → s < p * 13 → V2 s = V0 s) ∧ ((y = 0 ∧ a2 = b ∧ ∃ w, val = some w ∧ fit13 w ∧ ∀ x, x < 13 → V2 (p * 13 + x) = w x) ∨ (y = 1 ∧ val = none)) ∧ r = (.inl none, h2)
theorem fit_18 {w : pz_P} {V : Nat → Int} {p : Nat} (hw : fit13 w) (hv : ∀ x, x < 13 → V (p * 13 + x) = w x) : ∀ x, x < 13 → (V (p * 13 + x)).natAbs ≤ 10 ^ 18 := fun x hx => by
  rw [hv x hx]
  have h1 : (w x).natAbs ≤ 999999999999999999 := hw.1 x hx
  exact Nat.le_trans h1 (by decide)
theorem fit_jpo {w : pz_P} {V : Nat → Int} {p : Nat} (hw : fit13 w) (hv : ∀ x, x < 13 → V (p * 13 + x) = w x) : jpo V p = w := funext fun x => by
  by_cases q : x < 13
  · rw [jpo_at q, hv x q]
  · rw [jpo_lt V p x (by omega), hw.2 x (by omega)]
theorem zv0_n1 (T : Nat → Int) (tm : Nat) : ∀ f d a s, zv0 T tm f 1 d a none s = none
  | 0, _, _, _ => rfl
  | f + 1, d, a, s => by
    show (match rpr0 T tm f 0 d a with
      | some (true, c) => (match rtk T tm 42 c with
        | none => zvm none (zv0 T tm f 0 d a none 1)
        | some e => zv0 T tm f 1 d e (zvm none (zv0 T tm f 0 d a none 1)) 1)
      | _ => none) = none
    split
    · split
      · rfl
      · exact zv0_n1 T tm f d _ _
    · rfl
theorem zv0_n2 (T : Nat → Int) (tm : Nat) : ∀ f d a s, zv0 T tm f 2 d a none s = none
  | 0, _, _, _ => rfl
  | f + 1, d, a, s => by
    show (match rpr0 T tm f 1 d a with
      | some (true, c) => (match rtk T tm 43 c with
        | some e => zv0 T tm f 2 d e (zva none s (zv0 T tm f 1 d a (some pz_one) 1)) 1
        | none => match rtk T tm 45 (rskp T tm c) with
          | some e => zv0 T tm f 2 d e (zva none s (zv0 T tm f 1 d a (some pz_one) 1)) (-1)
          | none => zva none s (zv0 T tm f 1 d a (some pz_one) 1))
      | _ => none) = none
    split
    · split
      · exact zv0_n2 T tm f d _ _
      · split
        · exact zv0_n2 T tm f d _ _
        · rfl
    · rfl
section RWV
variable {S N B T X V : Nat → Int} {h : mj_H} {D tm : Nat} {o e : Int}
theorem wv_bounds {a p : Nat} (hp : p ≤ 50) (hs : rS (st3 (jvu S 13 0) (a : Int) o e) N B T X V h) : mj_Ok (D + 3) 297 [.ref 0, .int (jn (p : Nat))] h (fun r => ∃ (y : Int) (h2 : mj_H), rS (st3 (jvu S 13 y) (a : Int) o e) N B T X V h2 ∧ ((y = 0 ∧ sml (fun x => V (p * 13 + x))) ∨ (y = 1 ∧ ¬ sml (fun x => V (p * 13 + x)))) ∧ r = (.inl none, h2)) := by
  refine mj_Ok.of (M := mj_m297) rfl rfl rfl ?_
  iterate 2 refine mj_T.pl rfl rfl rfl rfl ?_
  refine rT_get hs rfl st3_g13 ?_
  refine mj_T.if0 (a := 0) rfl ⟨by decide, by decide⟩ (fun hc => ?_) (fun hc => ?_)
  · simp [jc] at hc
  iterate 2 refine mj_T.pl rfl rfl rfl rfl ?_
  refine mj_T.call (ins := .invokevirtual 195) rfl rfl (Nat.le_of_ble_eq_true rfl) (Nat.le_of_ble_eq_true rfl) (by simp [mj_recv, rS_f hs]) rfl (mj_Ok.up (by omega) (jp_isInBounds (D := 0) (rG (st3 (jvu S 13 0) (a : Int) o e) N B T X) (p := p) hp (fun x hx => jS_700 hs (by omega)) hs)) (fun v' h' hq' => ?_) (fun i h' hq' => by cases hq')
  cases hq'
  have hb := jib_le V p 13
  refine mj_T.if0 (a := ((jib V p 13 : Nat) : Int)) rfl ⟨by omega, by omega⟩ (fun hc => ?_) (fun hc => ?_)
  · simp only [jc, Bool.not_eq_true', decide_eq_false_iff_not] at hc
    have hsh := jib_short (V := V) (p := p) (by omega)
    refine mj_T.pl rfl rfl rfl rfl ?_
    refine rT_put (v := 0) hs rfl rfl (by decide) rfl (fun h1 hs1 => ?_)
    rw [st3_13] at hs1
    exact mj_T.ret rfl rfl rfl ⟨0, h1, hs1, Or.inl ⟨rfl, fun x hx => by
      have := hsh x hx
      show (V (p * 13 + x)).natAbs ≤ _
      omega⟩, rfl⟩
  · iterate 2 refine mj_T.pl rfl rfl rfl rfl ?_
    refine rT_put (v := 1) hs rfl rfl (by decide) rfl (fun h1 hs1 => ?_)
    rw [st3_13] at hs1
    exact mj_T.ret rfl rfl rfl ⟨1, h1, hs1, Or.inr ⟨rfl, fun q => jib_no (V := V) (p := p) 13 (by simp only [jc, Bool.not_eq_true', Bool.not_eq_false', decide_eq_true_eq, decide_eq_false_iff_not] at hc; omega) (fun e he => jnl_two.mpr (q e he))⟩, rfl⟩
theorem wv_tail (h9 : S 9 = (tm : Int)) (ht : tm ≤ 200) (hT : ∀ j : Nat, j < tm → 1 ≤ T j ∧ T j ≤ 255) {E c p b : Nat} {l2 : Option Value} (hE : 8 ≤ E) (hp1 : 23 ≤ p) (hp2 : p ≤ 49) (hc : c ≤ tm) (hr : rex T tm c = (true, b)) {V0 : Nat → Int} (hfr : ∀ s, 299 ≤ s → s < p * 13 → V s = V0 s) {w : pz_P} (hw : fit13 w) (hv : ∀ x, x < 13 → V (p * 13 + x) = w x) (hs : rS (st3 (jvu S 13 0) (c : Int) o e) N B T X V h) : mj_T E mj_m301 121 [some (.ref 0), some (.int (jn (p : Nat))), l2] [] h (wkV S N B T X V0 tm o e p b (zvx T tm (some w) c)) := by
  have hb := fit_18 hw hv
  have hle := rskp_le (T := T) hc
  iterate 2 refine mj_T.pl rfl rfl rfl rfl ?_
  refine mj_T.call (ins := .invokevirtual 354) rfl rfl (Nat.le_of_ble_eq_true rfl) (Nat.le_of_ble_eq_true rfl) (by simp [mj_recv, rS_f hs]) rfl (mj_Ok.up (by omega) (rd_takes (D := 0) (S := jvu S 13 0) (c := 94) ⟨by decide, by decide⟩ (w9 h9) ht hT hc hs)) (fun v' h1 hq' => ?_) (fun i h' hq' => by rcases hq' with ⟨_, _, _, _, h⟩ | ⟨_, _, _, h⟩ <;> cases h)
  rcases hq' with ⟨c2, _, ⟨b1, b2, b3⟩, hs1, hq'⟩ | ⟨_, b1, hs1, hq'⟩
  rotate_left
  · cases hq'
    have ee : b = rskp T tm c := by
      unfold rex at hr
      simp only [b1] at hr
      cases hr
      rfl
    refine mj_T.if0 (a := 0) rfl ⟨by decide, by decide⟩ (fun hc => ?_) (fun hc => ?_)
    · simp [jc] at hc
    exact mj_T.ret rfl rfl rfl ⟨V, _, 0, h1, hs1, hle, hfr, Or.inl ⟨rfl, ee.symm, w, by unfold zvx; rw [b1], hw, hv⟩, rfl⟩
  cases hq'
  have eZ : zvx T tm (some w) c = zvp (some w) (rnv T tm c2).toNat := by unfold zvx; rw [b1]
  rw [eZ]
  have hnm : rnm T tm 12 c2 = (true, b) := by
    unfold rex at hr
    simp only [b1] at hr
    exact hr
  refine mj_T.if0 (a := 1) rfl ⟨by decide, by decide⟩ (fun hc => ?_) (fun hc => ?_)
  rotate_left
  · simp [jc] at hc
  iterate 3 refine mj_T.pl rfl rfl rfl rfl ?_
  refine mj_T.call (ins := .invokevirtual 124) rfl rfl (Nat.le_of_ble_eq_true rfl) (Nat.le_of_ble_eq_true rfl) (by simp [mj_recv, rS_f hs1]) rfl (mj_Ok.up (by omega) (jp_copiesPoly (D := 0) (rG (st3 (jvu S 13 0) (c2 : Int) o e) N B T X) (p := 0) (q := p) (by decide) (by omega) (by omega) hs1)) (fun v' h2 hq' => ?_) (fun i h' hq' => by obtain ⟨_, _, h⟩ := hq'; cases h)
  obtain ⟨_, hs2, hq'⟩ := hq'
  cases hq'
  have q1 : ∀ x, x < 13 → jfl V 0 (fun x => V (p * 13 + x)) 13 (0 * 13 + x) = V (p * 13 + x) := fun x hx => jfl_at _ 0 _ hx
  have q2 : ∀ s, 13 ≤ s → jfl V 0 (fun x => V (p * 13 + x)) 13 s = V s := fun s hx => jfl_off _ 0 _ (by omega)
  generalize jfl V 0 (fun x => V (p * 13 + x)) 13 = W2 at hs2 q1 q2
  iterate 5 refine mj_T.pl rfl rfl rfl rfl ?_
  refine mj_T.call (ins := .invokevirtual 389) rfl rfl (Nat.le_of_ble_eq_true rfl) (Nat.le_of_ble_eq_true rfl) (by simp [mj_recv, rS_f hs2]) rfl (mj_Ok.up (by omega) (wk_number (D := 0) h9 ht hT b2 hs2)) (fun v' h3 hq' => ?_) (fun i h' hq' => by obtain ⟨_, _, _, _, h⟩ := hq'; cases h)
  obtain ⟨k, _, ⟨k1, k2⟩, hs3, hq'⟩ := hq'
  cases hq'
  have hin : ∀ j, rskp T tm c2 ≤ j → j < rskp T tm c2 + k → 48 ≤ T j ∧ T j ≤ 57 := fun j j1 j2 => rdg_in (T := T) (tm - rskp T tm c2) (rskp T tm c2) j j1 (by show j < rdgp T tm (rskp T tm c2); omega)
  have hbd := rvl_bd (T := T) (s := rskp T tm c2) k hin
  unfold rnm at hnm
  rw [← k1, Nat.add_sub_cancel_left] at hnm
  split at hnm
  rotate_left
  · cases hnm
  rename_i hq
  cases hnm
  obtain ⟨n, hn⟩ := Int.eq_ofNat_of_zero_le hbd.1
  have eN : (rnv T tm c2).toNat = n := by
    unfold rnv
    rw [← k1, Nat.add_sub_cancel_left, hn, Int.toNat_natCast]
  rw [eN]
  have eJ : jpo W2 0 = w := fit_jpo hw (fun x hx => (q1 x hx).trans (hv x hx))
  have hn12 : n ≤ 12 := by have := hq.2; omega
  refine mj_T.l2i rfl ?_
  rw [hn]
  refine mj_T.call (ins := .invokevirtual 229) rfl rfl (Nat.le_of_ble_eq_true rfl) (Nat.le_of_ble_eq_true rfl) (by simp [mj_recv, rS_f hs3]) rfl (mj_Ok.up (by omega) (jx_raises (D := 0) (rG (st3 (jvu S 13 0) ((rskp T tm c2 + k : Nat) : Int) o e) N B T X) (p := p) (a := 0) (al := 10 ^ 18) (n := n) (by omega) (by omega) (by decide) (by decide) (by omega) (by decide) (fun x hx => by rw [q1 x hx]; exact hb x hx) hn12 rp_small3 hs3)) (fun v' h4 hq' => ?_) (fun i h' hq' => by obtain ⟨_, _, _, _, ⟨h, _⟩ | ⟨h, _⟩⟩ := hq' <;> cases h)
  obtain ⟨W4, _, hs4, f4, ⟨hq', _, hbig⟩ | ⟨hq', hdg, hP⟩⟩ := hq'
  · cases hq'
    refine mj_T.if0 (a := 0) rfl ⟨by decide, by decide⟩ (fun hc => ?_) (fun hc => ?_)
    · simp [jc] at hc
    iterate 2 refine mj_T.pl rfl rfl rfl rfl ?_
    refine rT_put (v := 1) hs4 rfl rfl (by decide) rfl (fun h5 hs5 => ?_)
    rw [st3_13] at hs5
    refine mj_T.pl rfl rfl rfl rfl ?_
    refine rT_get hs5 rfl st3_g13 ?_
    refine mj_T.if0 (a := 1) rfl ⟨by decide, by decide⟩ (fun hc => ?_) (fun hc => ?_)
    · exact mj_T.ret rfl rfl rfl ⟨W4, _, 1, h5, hs5, k2, fun s s1 s2 => by rw [f4 s (by omega) (by omega) (by omega), q2 s (by omega), hfr s s1 s2], Or.inr ⟨rfl, zvf_n (by rw [← eJ]; exact pw_nofit hbig)⟩, rfl⟩
    · simp [jc] at hc
  · cases hq'
    refine mj_T.if0 (a := 1) rfl ⟨by decide, by decide⟩ (fun hc => ?_) (fun hc => ?_)
    rotate_left
    · simp [jc] at hc
    refine mj_T.pl rfl rfl rfl rfl ?_
    refine rT_put (v := 0) hs4 rfl rfl (by decide) rfl (fun h5 hs5 => ?_)
    rw [st3_13] at hs5
    refine mj_T.pl rfl rfl rfl rfl ?_
    refine rT_get hs5 rfl st3_g13 ?_
    refine mj_T.if0 (a := 0) rfl ⟨by decide, by decide⟩ (fun hc => ?_) (fun hc => ?_)
    · simp [jc] at hc
    iterate 2 refine mj_T.pl rfl rfl rfl rfl ?_
    refine mj_T.call (ins := .invokevirtual 383) rfl rfl (Nat.le_of_ble_eq_true rfl) (Nat.le_of_ble_eq_true rfl) (by simp [mj_recv, rS_f hs5]) rfl (mj_Ok.up (by omega) (wv_bounds (D := 0) (p := p) (by omega) hs5)) (fun v' h6 hq' => ?_) (fun i h' hq' => by obtain ⟨_, _, _, _, h⟩ := hq'; cases h)
    obtain ⟨y, _, hs6, hy, hq'⟩ := hq'
    cases hq'
    exact mj_T.ret rfl rfl rfl ⟨W4, _, y, h6, hs6, k2, fun s s1 s2 => by rw [f4 s (by omega) (by omega) (by omega), q2 s (by omega), hfr s s1 s2], by
      rw [eJ] at hP
      have hz : ∀ i, 13 ≤ i → pw w n i = 0 := by
        rw [← eJ]
        exact pw_z (d := jdg W2 0 13 - 1) (fun i hi => jpo_zb (by omega)) hdg
      rcases hy with ⟨y1, y2⟩ | ⟨y1, y2⟩
      · have hf : fit13 (pw w n) := ⟨sml_cg hP y2, hz⟩
        exact Or.inl ⟨y1, rfl, _, zvf_y hf, hf, hP⟩
      · exact Or.inr ⟨y1, zvf_n (fun q => y2 (sml_cg (fun x hx => (hP x hx).symm) q.1))⟩, rfl⟩
end RWV
section RWU
variable {S N B T X V : Nat → Int} {h : mj_H} {tm : Nat} {o e : Int}
theorem wv_power_step (h9 : S 9 = (tm : Int)) (ht : tm ≤ 200) (hT : ∀ j : Nat, j < tm → 1 ≤ T j ∧ T j ≤ 255) {f d a p b : Nat} (hp1 : 23 ≤ p) (hp2 : p + 3 * d ≤ 49) (ha : a ≤ tm) (hr : rpr0 T tm (f + 1) 0 d a = some (true, b)) (hs : rS (st3 (jvu S 13 0) (a : Int) o e) N B T X V h)
    (ih : ∀ (d2 a2 p2 b2 : Nat) (V : Nat → Int) (h : mj_H), d = d2 + 1 → 23 ≤ p2 → p2 + 2 + 3 * d2 ≤ 49 → a2 ≤ tm → rpr0 T tm f 3 d2 a2 = some (true, b2) → rS (st3 (jvu S 13 0) (a2 : Int) o e) N B T X V h → mj_Ok (4 * d2 + 14) 299 [.ref 0, .int (jn (p2 : Nat))] h (wkV S N B T X V tm o e p2 b2 (zv0 T tm f 3 d2 a2 none 1))) : mj_Ok (4 * d + 12) 301 [.ref 0, .int (jn (p : Nat))] h (wkV S N B T X V tm o e p b (zv0 T tm (f + 1) 0 d a none 1)) := by
  refine mj_Ok.of (M := mj_m301) rfl rfl rfl ?_
  have hle := rskp_le (T := T) ha
  have hge := rskp_ge (T := T) (tm := tm) a
  refine mj_T.pl rfl rfl rfl rfl ?_
  refine mj_T.call (ins := .invokevirtual 348) rfl rfl (Nat.le_of_ble_eq_true rfl) (Nat.le_of_ble_eq_true rfl) (by simp [mj_recv, rS_f hs]) rfl (mj_Ok.up (by omega) (rd_skips (D := 0) (S := jvu S 13 0) (w9 h9) ht hT ha hs)) (fun v' h1 hq' => ?_) (fun i h' hq' => by obtain ⟨_, _, h⟩ := hq'; cases h)
  obtain ⟨_, hs1, hq'⟩ := hq'
  cases hq'
  have hid := rskp_idem (T := T) ha
  have eVal : zv0 T tm (f + 1) 0 d a none 1 = if rskp T tm a < tm ∧ T (rskp T tm a) = 120 then zvx T tm (some pz_x) (rskp T tm a + 1) else if rskp T tm a < tm ∧ T (rskp T tm a) = 40 then (match rpr0 T tm f 3 (d - 1) (rskp T tm a + 1) with | some (true, c) => (match rtk T tm 41 c with | some e => zvx T tm (zv0 T tm f 3 (d - 1) (rskp T tm a + 1) none 1) e | none => none) | _ => none) else zvx T tm (some (pz_k (rnv T tm a))) (rdgp T tm (rskp T tm a)) := rfl
  have eNv : rnv T tm a = rvl T (rskp T tm a) (rdgp T tm (rskp T tm a) - rskp T tm a) := rfl
  unfold rpr0 at hr
  obtain ⟨s, hsdef⟩ : ∃ s, rskp T tm a = s := ⟨_, rfl⟩
  rw [hsdef] at hs1 hle hge hr hid eVal eNv
  have hst : s < tm := by
    by_cases q : s < tm
    · exact q
    · rw [if_neg (fun z => q z.1), if_neg (fun z => q z.1)] at hr
      rcases hx : rnm T tm 9223372036854775807 s with ⟨z1, z2⟩
      rw [hx] at hr
      cases z1 with
      | false => cases hr
      | true =>
        have := rnm_bd (T := T) hle hx rfl
        have h2 : s < z2 ∧ z2 ≤ tm := this
        omega
  have hTs := hT s hst
  refine mj_T.pl rfl rfl rfl rfl ?_
  refine rT_get hs1 rfl rfl ?_
  refine mj_T.pl rfl rfl rfl rfl ?_
  refine rT_get hs1 rfl st3_g10 ?_
  refine rT_ldT hs1 rfl ⟨by omega, by omega⟩ ?_
  rw [Int.toNat_natCast]
  refine mj_T.pl rfl rfl rfl rfl ?_
  refine mj_T.icmp (a := T s) (b := 120) rfl ⟨by omega, by omega⟩ ⟨by decide, by decide⟩ (fun hc2 => ?_) (fun hc2 => ?_)
  rotate_left
  · simp only [jc, Bool.not_eq_false', decide_eq_true_eq] at hc2
    rw [if_pos ⟨hst, hc2⟩] at hr eVal
    rw [eVal]
    iterate 2 refine mj_T.pl rfl rfl rfl rfl ?_
    refine rT_get hs1 rfl st3_g10 ?_
    refine mj_T.pl rfl rfl rfl rfl ?_
    refine mj_T.iadd (a := (s : Int)) (b := 1) rfl ?_
    rw [show (s : Int) + 1 = ((s + 1 : Nat) : Int) by omega]
    refine rT_put (v := ((s + 1 : Nat) : Int)) hs1 rfl rfl (by decide) rfl (fun h2 hs2 => ?_)
    rw [st3_10] at hs2
    iterate 2 refine mj_T.pl rfl rfl rfl rfl ?_
    refine mj_T.call (ins := .invokevirtual 110) rfl rfl (Nat.le_of_ble_eq_true rfl) (Nat.le_of_ble_eq_true rfl) (by simp [mj_recv, rS_f hs2]) rfl (mj_Ok.up (by omega) (jp_empties (D := 0) (rG (st3 (jvu S 13 0) ((s + 1 : Nat) : Int) o e) N B T X) (p := p) (by omega) hs2)) (fun v' h3 hq' => ?_) (fun i h' hq' => by obtain ⟨_, _, h⟩ := hq'; cases h)
    obtain ⟨_, hs3, hq'⟩ := hq'
    cases hq'
    have q1 : ∀ x, x < 13 → jfl V p (fun _ => 0) 13 (p * 13 + x) = 0 := fun x hx => jfl_at _ p _ hx
    have q2 : ∀ s, s < p * 13 → jfl V p (fun _ => 0) 13 s = V s := fun s hx => jfl_off _ p _ (by omega)
    generalize jfl V p (fun _ => 0) 13 = W1 at hs3 q1 q2
    iterate 3 refine mj_T.pl rfl rfl rfl rfl ?_
    refine mj_T.call (ins := .invokestatic 104) rfl rfl (Nat.le_of_ble_eq_true rfl) (Nat.le_of_ble_eq_true rfl) rfl rfl (mj_Ok.up (by omega) (jq_slot (D := 0) (p := p) (i := 1))) (fun v' h' hq' => ?_) (fun i h' hq' => by cases hq')
    cases hq'
    refine mj_T.pl rfl rfl rfl rfl ?_
    refine mj_T.call (ins := .invokevirtual 45) rfl rfl (Nat.le_of_ble_eq_true rfl) (Nat.le_of_ble_eq_true rfl) (by simp [mj_recv, rS_f hs3]) rfl (mj_Ok.up (by omega) (jS_sets (D := 0) (rG (st3 (jvu S 13 0) ((s + 1 : Nat) : Int) o e) N B T X) (s := p * 13 + 1) (v := 1) (by omega) ⟨by decide, by decide⟩ hs3)) (fun v' h4 hq' => ?_) (fun i h' hq' => by obtain ⟨_, _, h⟩ := hq'; cases h)
    obtain ⟨_, hs4, hq'⟩ := hq'
    cases hq'
    refine mj_T.pl rfl rfl rfl rfl ?_
    refine wv_tail (E := 4 * d + 11) h9 ht hT (by omega) hp1 (by omega) (by omega : s + 1 ≤ tm) (Option.some.inj hr) (fun s s1 s2 => by rw [jvu_ne _ _ _ (by omega), q2 s s2]) fit_x (fun x hx => ?_) hs4
    by_cases x1 : x = 1
    · subst x1
      rw [jvu_at]
      rfl
    · rw [jvu_ne _ _ _ (by omega), q1 x hx]
      exact (if_neg x1).symm
  simp only [jc, Bool.not_eq_true', decide_eq_false_iff_not] at hc2
  rw [if_neg (fun z => hc2 z.2)] at hr eVal
  refine mj_T.pl rfl rfl rfl rfl ?_
  refine rT_get hs1 rfl rfl ?_
  refine mj_T.pl rfl rfl rfl rfl ?_
  refine rT_get hs1 rfl st3_g10 ?_
  refine rT_ldT hs1 rfl ⟨by omega, by omega⟩ ?_
  rw [Int.toNat_natCast]
  refine mj_T.pl rfl rfl rfl rfl ?_
  refine mj_T.icmp (a := T s) (b := 40) rfl ⟨by omega, by omega⟩ ⟨by decide, by decide⟩ (fun hc3 => ?_) (fun hc3 => ?_)
  · simp only [jc, Bool.not_eq_true', decide_eq_false_iff_not] at hc3
    rw [if_neg (fun z => hc3 z.2)] at hr eVal
    rcases hx : rnm T tm 9223372036854775807 s with ⟨z1, z2⟩
    rw [hx] at hr
    cases z1 with
    | false => cases hr
    | true =>
    have hzb : s < z2 ∧ z2 ≤ tm := rnm_bd (T := T) hle hx rfl
    iterate 2 refine mj_T.pl rfl rfl rfl rfl ?_
    refine mj_T.call (ins := .invokevirtual 110) rfl rfl (Nat.le_of_ble_eq_true rfl) (Nat.le_of_ble_eq_true rfl) (by simp [mj_recv, rS_f hs1]) rfl (mj_Ok.up (by omega) (jp_empties (D := 0) (rG (st3 (jvu S 13 0) (s : Int) o e) N B T X) (p := p) (by omega) hs1)) (fun v' h3 hq' => ?_) (fun i h' hq' => by obtain ⟨_, _, h⟩ := hq'; cases h)
    obtain ⟨_, hs3, hq'⟩ := hq'
    cases hq'
    have q1 : ∀ x, x < 13 → jfl V p (fun _ => 0) 13 (p * 13 + x) = 0 := fun x hx => jfl_at _ p _ hx
    have q2 : ∀ s, s < p * 13 → jfl V p (fun _ => 0) 13 s = V s := fun s hx => jfl_off _ p _ (by omega)
    generalize jfl V p (fun _ => 0) 13 = W1 at hs3 q1 q2
    iterate 3 refine mj_T.pl rfl rfl rfl rfl ?_
    refine mj_T.call (ins := .invokestatic 104) rfl rfl (Nat.le_of_ble_eq_true rfl) (Nat.le_of_ble_eq_true rfl) rfl rfl (mj_Ok.up (by omega) (jq_slot (D := 0) (p := p) (i := 0))) (fun v' h' hq' => ?_) (fun i h' hq' => by cases hq')
    cases hq'
    refine mj_T.pl rfl rfl rfl rfl ?_
    refine mj_T.call (ins := .invokevirtual 389) rfl rfl (Nat.le_of_ble_eq_true rfl) (Nat.le_of_ble_eq_true rfl) (by simp [mj_recv, rS_f hs3]) rfl (mj_Ok.up (by omega) (wk_number (D := 0) h9 ht hT hle hs3)) (fun v' h4 hq' => ?_) (fun i h' hq' => by obtain ⟨_, _, _, _, h⟩ := hq'; cases h)
    obtain ⟨k, _, ⟨k1, k2⟩, hs4, hq'⟩ := hq'
    cases hq'
    rw [hid] at k1 k2 hs4
    have hin : ∀ j, s ≤ j → j < s + k → 48 ≤ T j ∧ T j ≤ 57 := fun j j1 j2 => rdg_in (T := T) (tm - s) s j j1 (by show j < rdgp T tm s; omega)
    have hbd := rvl_bd (T := T) (s := s) k hin
    have hz2 : z2 = s + k ∧ k ≤ 18 := by
      unfold rnm at hx
      rw [hid, ← k1, Nat.add_sub_cancel_left] at hx
      split at hx
      · rename_i q
        cases hx
        exact ⟨rfl, q.1.2⟩
      · cases hx
    have hpw : 10 ^ k ≤ 10 ^ 18 := Nat.pow_le_pow_right (by decide) hz2.2
    rw [hid]
    refine mj_T.call (ins := .invokevirtual 45) rfl rfl (Nat.le_of_ble_eq_true rfl) (Nat.le_of_ble_eq_true rfl) (by simp [mj_recv, rS_f hs4]) rfl (mj_Ok.up (by omega) (jS_sets (D := 0) (rG (st3 (jvu S 13 0) ((s + k : Nat) : Int) o e) N B T X) (s := p * 13 + 0) (v := rvl T s k) (by omega) ⟨by omega, by omega⟩ hs4)) (fun v' h5 hq' => ?_) (fun i h' hq' => by obtain ⟨_, _, h⟩ := hq'; cases h)
    obtain ⟨_, hs5, hq'⟩ := hq'
    cases hq'
    have hr2 : rex T tm z2 = (true, b) := Option.some.inj hr
    rw [hz2.1] at hr2
    rw [← k1, Nat.add_sub_cancel_left] at eNv
    rw [eVal, eNv, ← k1]
    refine wv_tail (E := 4 * d + 11) h9 ht hT (by omega) hp1 (by omega) k2 hr2 (fun s s1 s2 => by rw [jvu_ne _ _ _ (by omega), q2 s s2]) (fit_k (by omega)) (fun x hx => ?_) hs5
    by_cases x1 : x = 0
    · subst x1
      rw [jvu_at]
      rfl
    · rw [jvu_ne _ _ _ (by omega), q1 x hx]
      exact (if_neg x1).symm
  simp only [jc, Bool.not_eq_false', decide_eq_true_eq] at hc3
  rw [if_pos ⟨hst, hc3⟩] at hr eVal
  by_cases hd0 : d = 0
  · rw [if_pos hd0] at hr
    cases hr
  rw [if_neg hd0] at hr
  obtain ⟨d2, rfl⟩ : ∃ d2, d = d2 + 1 := ⟨d - 1, by omega⟩
  rw [Nat.add_sub_cancel] at hr eVal
  rcases hy : rpr0 T tm f 3 d2 (s + 1) with _ | ⟨z1, z2⟩
  · rw [hy] at hr
    cases hr
  rw [hy] at hr eVal
  cases z1 with
  | false => cases hr
  | true =>
  iterate 2 refine mj_T.pl rfl rfl rfl rfl ?_
  refine rT_get hs1 rfl st3_g10 ?_
  refine mj_T.pl rfl rfl rfl rfl ?_
  refine mj_T.iadd (a := (s : Int)) (b := 1) rfl ?_
  rw [show (s : Int) + 1 = ((s + 1 : Nat) : Int) by omega]
  refine rT_put (v := ((s + 1 : Nat) : Int)) hs1 rfl rfl (by decide) rfl (fun h2 hs2 => ?_)
  rw [st3_10] at hs2
  iterate 3 refine mj_T.pl rfl rfl rfl rfl ?_
  refine mj_T.iadd (a := (p : Int)) (b := 1) rfl ?_
  rw [show (p : Int) + 1 = ((p + 1 : Nat) : Int) by omega]
  refine mj_T.call (ins := .invokevirtual 268) rfl rfl (Nat.le_of_ble_eq_true rfl) (Nat.le_of_ble_eq_true rfl) (by simp [mj_recv, rS_f hs2]) rfl (mj_Ok.up (by omega) (ih d2 (s + 1) (p + 1) z2 V h2 rfl (by omega) (by omega) (by omega) hy hs2)) (fun v' h3 hq' => ?_) (fun i h' hq' => by obtain ⟨_, _, _, _, _, _, _, _, h⟩ := hq'; cases h)
  obtain ⟨V3, c3, y3, _, hs3, hc3l, hf3, hy3, hq'⟩ := hq'
  cases hq'
  refine mj_T.pl rfl rfl rfl rfl ?_
  refine rT_get hs3 rfl st3_g13 ?_
  rcases hy3 with ⟨y0, c0, w3, hv3, hw3, hb3⟩ | ⟨y1, hv3⟩
  rotate_left
  · subst y1
    refine mj_T.if0 (a := 1) rfl ⟨by decide, by decide⟩ (fun hc => ?_) (fun hc => ?_)
    · simp [jc] at hc
    refine mj_T.ret rfl rfl rfl ⟨V3, c3, 1, h3, hs3, hc3l, fun s s1 s2 => hf3 s s1 (by omega), Or.inr ⟨rfl, ?_⟩, rfl⟩
    rcases hk : rtk T tm 41 z2 with _ | c5
    · simp only [hk] at hr
      cases hr
    · simp only [hk] at eVal
      rw [eVal, hv3]
      unfold zvx
      split <;> rfl
  subst y0
  subst c0
  refine mj_T.if0 (a := 0) rfl ⟨by decide, by decide⟩ (fun hc => ?_) (fun hc => ?_)
  rotate_left
  · simp [jc] at hc
  iterate 4 refine mj_T.pl rfl rfl rfl rfl ?_
  refine mj_T.iadd (a := (p : Int)) (b := 1) rfl ?_
  rw [show (p : Int) + 1 = ((p + 1 : Nat) : Int) by omega]
  refine mj_T.call (ins := .invokevirtual 124) rfl rfl (Nat.le_of_ble_eq_true rfl) (Nat.le_of_ble_eq_true rfl) (by simp [mj_recv, rS_f hs3]) rfl (mj_Ok.up (by omega) (jp_copiesPoly (D := 0) (rG (st3 (jvu S 13 0) (c3 : Int) o e) N B T X) (p := p) (q := p + 1) (by omega) (by omega) (by omega) hs3)) (fun v' h4 hq' => ?_) (fun i h' hq' => by obtain ⟨_, _, h⟩ := hq'; cases h)
  obtain ⟨_, hs4, hq'⟩ := hq'
  cases hq'
  have q1 : ∀ x, x < 13 → jfl V3 p (fun x => V3 ((p + 1) * 13 + x)) 13 (p * 13 + x) = V3 ((p + 1) * 13 + x) := fun x hx => jfl_at _ p _ hx
  have q2 : ∀ s, s < p * 13 → jfl V3 p (fun x => V3 ((p + 1) * 13 + x)) 13 s = V3 s := fun s hx => jfl_off _ p _ (by omega)
  generalize jfl V3 p (fun x => V3 ((p + 1) * 13 + x)) 13 = W4 at hs4 q1 q2
  iterate 2 refine mj_T.pl rfl rfl rfl rfl ?_
  refine mj_T.call (ins := .invokevirtual 354) rfl rfl (Nat.le_of_ble_eq_true rfl) (Nat.le_of_ble_eq_true rfl) (by simp [mj_recv, rS_f hs4]) rfl (mj_Ok.up (by omega) (rd_takes (D := 0) (S := jvu S 13 0) (c := 41) ⟨by decide, by decide⟩ (w9 h9) ht hT hc3l hs4)) (fun v' h5 hq' => ?_) (fun i h' hq' => by rcases hq' with ⟨_, _, _, _, h⟩ | ⟨_, _, _, h⟩ <;> cases h)
  rcases hq' with ⟨c5, _, ⟨b1, b2, b3⟩, hs5, hq'⟩ | ⟨_, b1, hs5, hq'⟩
  rotate_left
  · simp only [b1] at hr
    cases hr
  cases hq'
  simp only [b1] at hr eVal
  rw [eVal, hv3]
  iterate 2 refine mj_T.pl rfl rfl rfl rfl ?_
  exact wv_tail (E := 4 * (d2 + 1) + 11) h9 ht hT (by omega) hp1 (by omega) b2 (Option.some.inj hr) (fun s s1 s2 => by rw [q2 s s2, hf3 s s1 (by omega)]) hw3 (fun x hx => by rw [q1 x hx]; exact hb3 x hx) hs5
theorem wv_prod_loop (h9 : S 9 = (tm : Int)) (ht : tm ≤ 200) (hT : ∀ j : Nat, j < tm → 1 ≤ T j ∧ T j ≤ 255) {d p b : Nat} {V0 : Nat → Int} (hp1 : 23 ≤ p) (hp2 : p + 1 + 3 * d ≤ 49) :
    ∀ f, (∀ f2, f2 < f → ∀ (a b2 : Nat) (V : Nat → Int) (h : mj_H), a ≤ tm → rpr0 T tm f2 0 d a = some (true, b2) → rS (st3 (jvu S 13 0) (a : Int) o e) N B T X V h → mj_Ok (4 * d + 12) 301 [.ref 0, .int (jn ((p + 1 : Nat) : Int))] h (wkV S N B T X V tm o e (p + 1) b2 (zv0 T tm f2 0 d a none 1))) →
    ∀ (c : Nat) (V : Nat → Int) (h : mj_H) (w : pz_P), fit13 w → (∀ x, x < 13 → V (p * 13 + x) = w x) → c ≤ tm → (match rtk T tm 42 c with
      | none => some (true, rskp T tm c)
      | some e => rpr0 T tm f 1 d e) = some (true, b) → rS (st3 (jvu S 13 0) (c : Int) o e) N B T X V h → (∀ s, 299 ≤ s → s < p * 13 → V s = V0 s) → mj_T (4 * d + 12) mj_m300 23 [some (.ref 0), some (.int (jn (p : Nat)))] [] h (wkV S N B T X V0 tm o e p b (match rtk T tm 42 c with | none => some w | some e => zv0 T tm f 1 d e (some w) 1)) := by
  intro f
  induction f with
  | zero =>
    intro _ c V h w hw hv hc hr hs hfr
    have hle := rskp_le (T := T) hc
    iterate 2 refine mj_T.pl rfl rfl rfl rfl ?_
    refine mj_T.call (ins := .invokevirtual 354) rfl rfl (Nat.le_of_ble_eq_true rfl) (Nat.le_of_ble_eq_true rfl) (by simp [mj_recv, rS_f hs]) rfl (mj_Ok.up (by omega) (rd_takes (D := 0) (S := jvu S 13 0) (c := 42) ⟨by decide, by decide⟩ (w9 h9) ht hT hc hs)) (fun v' h1 hq' => ?_) (fun i h' hq' => by rcases hq' with ⟨_, _, _, _, h⟩ | ⟨_, _, _, h⟩ <;> cases h)
    rcases hq' with ⟨c2, _, ⟨b1, b2, b3⟩, hs1, hq'⟩ | ⟨_, b1, hs1, hq'⟩
    · simp only [b1] at hr
      cases hr
    · cases hq'
      simp only [b1] at hr
      cases hr
      refine mj_T.if0 (a := 0) rfl ⟨by decide, by decide⟩ (fun hc => ?_) (fun hc => ?_)
      · exact mj_T.ret rfl rfl rfl ⟨V, _, 0, h1, hs1, hle, hfr, Or.inl ⟨rfl, rfl, w, by rw [b1], hw, hv⟩, rfl⟩
      · simp [jc] at hc
  | succ f ihf =>
    intro ih0 c V h w hw hv hc hr hs hfr
    have hb := fit_18 hw hv
    have hle := rskp_le (T := T) hc
    iterate 2 refine mj_T.pl rfl rfl rfl rfl ?_
    refine mj_T.call (ins := .invokevirtual 354) rfl rfl (Nat.le_of_ble_eq_true rfl) (Nat.le_of_ble_eq_true rfl) (by simp [mj_recv, rS_f hs]) rfl (mj_Ok.up (by omega) (rd_takes (D := 0) (S := jvu S 13 0) (c := 42) ⟨by decide, by decide⟩ (w9 h9) ht hT hc hs)) (fun v' h1 hq' => ?_) (fun i h' hq' => by rcases hq' with ⟨_, _, _, _, h⟩ | ⟨_, _, _, h⟩ <;> cases h)
    rcases hq' with ⟨c2, _, ⟨b1, b2, b3⟩, hs1, hq'⟩ | ⟨_, b1, hs1, hq'⟩
    rotate_left
    · cases hq'
      simp only [b1] at hr
      cases hr
      refine mj_T.if0 (a := 0) rfl ⟨by decide, by decide⟩ (fun hc => ?_) (fun hc => ?_)
      · exact mj_T.ret rfl rfl rfl ⟨V, _, 0, h1, hs1, hle, hfr, Or.inl ⟨rfl, rfl, w, by rw [b1], hw, hv⟩, rfl⟩
      · simp [jc] at hc
    cases hq'
    simp only [b1] at hr ⊢
    have eVal : zv0 T tm (f + 1) 1 d c2 (some w) 1 = match rpr0 T tm f 0 d c2 with | some (true, c) => (match rtk T tm 42 c with | none => zvm (some w) (zv0 T tm f 0 d c2 none 1) | some e => zv0 T tm f 1 d e (zvm (some w) (zv0 T tm f 0 d c2 none 1)) 1) | _ => none := rfl
    unfold rpr0 at hr
    rcases hy : rpr0 T tm f 0 d c2 with _ | ⟨z1, z2⟩
    · rw [hy] at hr
      cases hr
    rw [hy] at hr eVal
    cases z1 with
    | false => cases hr
    | true =>
    refine mj_T.if0 (a := 1) rfl ⟨by decide, by decide⟩ (fun hc => ?_) (fun hc => ?_)
    · simp [jc] at hc
    iterate 3 refine mj_T.pl rfl rfl rfl rfl ?_
    refine mj_T.iadd (a := (p : Int)) (b := 1) rfl ?_
    rw [show (p : Int) + 1 = ((p + 1 : Nat) : Int) by omega]
    refine mj_T.call (ins := .invokevirtual 386) rfl rfl (Nat.le_of_ble_eq_true rfl) (Nat.le_of_ble_eq_true rfl) (by simp [mj_recv, rS_f hs1]) rfl (mj_Ok.up (by omega) (ih0 f (by omega) c2 z2 V h1 b2 hy hs1)) (fun v' h2 hq' => ?_) (fun i h' hq' => by obtain ⟨_, _, _, _, _, _, _, _, h⟩ := hq'; cases h)
    obtain ⟨V2, c3, y2, _, hs2, hc2l, hf2, hy2, hq'⟩ := hq'
    cases hq'
    have hfr2 : (∀ s, 299 ≤ s → s < p * 13 → V2 s = V0 s) := fun s s1 s2 => by rw [hf2 s s1 (by omega), hfr s s1 s2]
    iterate 2 refine mj_T.pl rfl rfl rfl rfl ?_
    refine rT_get hs2 rfl st3_g13 ?_
    have hnone : zvm (some w) (zv0 T tm f 0 d c2 none 1) = none → zv0 T tm (f + 1) 1 d c2 (some w) 1 = none := fun q => by
      rw [eVal]
      simp only [q, zv0_n1]
      split <;> rfl
    have t58 : zvm (some w) (zv0 T tm f 0 d c2 none 1) = none → ∀ y, rS (st3 (jvu S 13 y) (c3 : Int) o e) N B T X V2 h2 → mj_T (4 * d + 12) mj_m300 58 [some (.ref 0), some (.int (jn (p : Nat)))] [.ref 0] h2 (wkV S N B T X V0 tm o e p b (zv0 T tm (f + 1) 1 d c2 (some w) 1)) := fun hz0 y hsy => by
      iterate 2 refine mj_T.pl rfl rfl rfl rfl ?_
      refine rT_put (v := 1) hsy rfl rfl (by decide) rfl (fun h5 hs5 => ?_)
      rw [st3_13] at hs5
      refine mj_T.pl rfl rfl rfl rfl ?_
      refine rT_get hs5 rfl st3_g13 ?_
      refine mj_T.if0 (a := 1) rfl ⟨by decide, by decide⟩ (fun hc => ?_) (fun hc => ?_)
      · simp [jc] at hc
      exact mj_T.ret rfl rfl rfl ⟨V2, c3, 1, h5, hs5, hc2l, hfr2, Or.inr ⟨rfl, hnone hz0⟩, rfl⟩
    rcases hy2 with ⟨y0, c0, w2, hv2, hw2, hb2'⟩ | ⟨y1, hv2⟩
    rotate_left
    · subst y1
      refine mj_T.if0 (a := 1) rfl ⟨by decide, by decide⟩ (fun hc => ?_) (fun hc => ?_)
      · exact t58 (by rw [hv2]; rfl) 1 hs2
      · simp [jc] at hc
    subst y0
    subst c0
    have hb2 := fit_18 hw2 hb2'
    have eA : jpo V2 p = w := fit_jpo hw (fun x hx => (hf2 _ (by omega) (by omega)).trans (hv x hx))
    have eB : jpo V2 (p + 1) = w2 := fit_jpo hw2 hb2'
    refine mj_T.if0 (a := 0) rfl ⟨by decide, by decide⟩ (fun hc => ?_) (fun hc => ?_)
    · simp [jc] at hc
    iterate 4 refine mj_T.pl rfl rfl rfl rfl ?_
    refine mj_T.iadd (a := (p : Int)) (b := 1) rfl ?_
    rw [show (p : Int) + 1 = ((p + 1 : Nat) : Int) by omega]
    have hbp : (∀ x, x < 13 → (V2 (p * 13 + x)).natAbs ≤ 10 ^ 18) := fun x hx => by rw [hf2 _ (by omega) (by omega)]; exact hb x hx
    refine mj_T.call (ins := .invokevirtual 223) rfl rfl (Nat.le_of_ble_eq_true rfl) (Nat.le_of_ble_eq_true rfl) (by simp [mj_recv, rS_f hs2]) rfl (mj_Ok.up (by omega) (jp_isTooHigh (D := 0) (rG (st3 (jvu S 13 0) (c3 : Int) o e) N B T X) (a := p) (b := p + 1) (by omega) (by omega) hs2)) (fun v' h' hq' => ?_) (fun i h' hq' => by rcases hq' with ⟨_, _, _, h⟩ | ⟨_, h⟩ <;> cases h)
    rcases hq' with ⟨th1, th2, th3, hq'⟩ | ⟨hdeg, hq'⟩
    · cases hq'
      refine mj_T.if0 (a := 1) rfl ⟨by decide, by decide⟩ (fun hc => ?_) (fun hc => ?_)
      · simp [jc] at hc
      exact t58 (by rw [hv2]; exact zvf_n (by rw [← eA, ← eB]; exact jpo_big th1 th2 th3)) 0 hs2
    cases hq'
    refine mj_T.if0 (a := 0) rfl ⟨by decide, by decide⟩ (fun hc => ?_) (fun hc => ?_)
    rotate_left
    · simp [jc] at hc
    refine mj_T.pl rfl rfl rfl rfl ?_
    refine rT_put (v := 0) hs2 rfl rfl (by decide) rfl (fun h5 hs5 => ?_)
    rw [st3_13] at hs5
    refine mj_T.pl rfl rfl rfl rfl ?_
    refine rT_get hs5 rfl st3_g13 ?_
    refine mj_T.if0 (a := 0) rfl ⟨by decide, by decide⟩ (fun hc => ?_) (fun hc => ?_)
    rotate_left
    · simp [jc] at hc
    iterate 5 refine mj_T.pl rfl rfl rfl rfl ?_
    refine mj_T.iadd (a := (p : Int)) (b := 1) rfl ?_
    rw [show (p : Int) + 1 = ((p + 1 : Nat) : Int) by omega]
    refine mj_T.call (ins := .invokevirtual 121) rfl rfl (Nat.le_of_ble_eq_true rfl) (Nat.le_of_ble_eq_true rfl) (by simp [mj_recv, rS_f hs5]) rfl (mj_Ok.up (by omega) (jx_multipliesPoly (D := 0) (V := V2) (rG (st3 (jvu S 13 0) (c3 : Int) o e) N B T X) (to := 7) (a := p) (b := p + 1) (by decide) (by omega) (by omega) (by omega) (by omega) hbp hb2 hdeg rp_small2 hs5)) (fun v' h6 hq' => ?_) (fun i h' hq' => by obtain ⟨_, _, _, _, _, _, _, h⟩ := hq'; cases h)
    obtain ⟨V6, _, hs6, m1, m2, _, hM, hq'⟩ := hq'
    cases hq'
    iterate 3 refine mj_T.pl rfl rfl rfl rfl ?_
    refine mj_T.call (ins := .invokevirtual 124) rfl rfl (Nat.le_of_ble_eq_true rfl) (Nat.le_of_ble_eq_true rfl) (by simp [mj_recv, rS_f hs6]) rfl (mj_Ok.up (by omega) (jp_copiesPoly (D := 0) (rG (st3 (jvu S 13 0) (c3 : Int) o e) N B T X) (p := p) (q := 7) (by omega) (by decide) (by omega) hs6)) (fun v' h7 hq' => ?_) (fun i h' hq' => by obtain ⟨_, _, h⟩ := hq'; cases h)
    obtain ⟨_, hs7, hq'⟩ := hq'
    cases hq'
    have q1 : ∀ x, x < 13 → jfl V6 p (fun x => V6 (7 * 13 + x)) 13 (p * 13 + x) = V6 (7 * 13 + x) := fun x hx => jfl_at _ p _ hx
    have q2 : ∀ s, s < p * 13 → jfl V6 p (fun x => V6 (7 * 13 + x)) 13 s = V6 s := fun s hx => jfl_off _ p _ (by omega)
    generalize jfl V6 p (fun x => V6 (7 * 13 + x)) 13 = W7 at hs7 q1 q2
    have hP7 : ∀ x, x < 13 → W7 (p * 13 + x) = pz_mul w w2 x := fun x hx => by
      rw [q1 x hx, hM x hx, prs_mul, eA, eB]
    have hz7 : ∀ i, 13 ≤ i → pz_mul w w2 i = 0 := fun i hi => by
      rw [← eA, ← eB]
      have ha1 := jdg_le V2 p 13
      have hb1 := jdg_le V2 (p + 1) 13
      exact pz_lt.mul (c := 13) (jpo_ltd V2 p) (jpo_ltd V2 (p + 1)) (by omega) i hi
    have hfr7 : (∀ s, 299 ≤ s → s < p * 13 → W7 s = V0 s) := fun s s1 s2 => by rw [q2 s s2, m1 s (by omega) (by omega), hfr2 s s1 s2]
    iterate 2 refine mj_T.pl rfl rfl rfl rfl ?_
    refine mj_T.call (ins := .invokevirtual 383) rfl rfl (Nat.le_of_ble_eq_true rfl) (Nat.le_of_ble_eq_true rfl) (by simp [mj_recv, rS_f hs7]) rfl (mj_Ok.up (by omega) (wv_bounds (D := 0) (p := p) (by omega) hs7)) (fun v' h8 hq' => ?_) (fun i h' hq' => by obtain ⟨_, _, _, _, h⟩ := hq'; cases h)
    obtain ⟨y, _, hs8, hy8, hq'⟩ := hq'
    cases hq'
    refine mj_T.pl rfl rfl rfl rfl ?_
    refine rT_get hs8 rfl st3_g13 ?_
    rcases hy8 with ⟨y1, y2⟩ | ⟨y1, y2⟩
    · subst y1
      refine mj_T.if0 (a := 0) rfl ⟨by decide, by decide⟩ (fun hc => ?_) (fun hc => ?_)
      rotate_left
      · simp [jc] at hc
      have hf7 : fit13 (pz_mul w w2) := ⟨sml_cg hP7 y2, hz7⟩
      have e7 : zvm (some w) (zv0 T tm f 0 d c2 none 1) = some (pz_mul w w2) := by
        rw [hv2]
        exact zvf_y hf7
      rw [e7] at eVal
      rw [eVal]
      exact ihf (fun f2 hf2 => ih0 f2 (by omega)) c3 W7 h8 _ hf7 hP7 hc2l hr hs8 hfr7
    · subst y1
      refine mj_T.if0 (a := 1) rfl ⟨by decide, by decide⟩ (fun hc => ?_) (fun hc => ?_)
      · simp [jc] at hc
      exact mj_T.ret rfl rfl rfl ⟨W7, c3, 1, h8, hs8, hc2l, hfr7, Or.inr ⟨rfl, hnone (by rw [hv2]; exact zvf_n (fun q => y2 (sml_cg (fun x hx => (hP7 x hx).symm) q.1)))⟩, rfl⟩
end RWU
