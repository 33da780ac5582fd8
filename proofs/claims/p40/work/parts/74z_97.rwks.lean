/-! The reference works a text out, with values: sums, all depths; and reads. -/
theorem zvm_one {w : pz_P} (h : fit13 w) : zvm (some pz_one) (some w) = some w := by
  show zvf (pz_mul pz_one w) = _
  rw [pz_one_mul]
  exact zvf_y h
section RWY
variable {S N B T X V : Nat → Int} {h : mj_H} {tm : Nat} {o e : Int}
theorem wv_product (h9 : S 9 = (tm : Int)) (ht : tm ≤ 200) (hT : ∀ j : Nat, j < tm → 1 ≤ T j ∧ T j ≤ 255) {f d a p b : Nat} (hp1 : 23 ≤ p) (hp2 : p + 1 + 3 * d ≤ 49) (ha : a ≤ tm) (hr : rpr0 T tm (f + 1) 1 d a = some (true, b)) (hs : rS (st3 (jvu S 13 0) (a : Int) o e) N B T X V h)
    (ih0 : ∀ f2, f2 ≤ f → ∀ (a b2 : Nat) (V : Nat → Int) (h : mj_H), a ≤ tm → rpr0 T tm f2 0 d a = some (true, b2) → rS (st3 (jvu S 13 0) (a : Int) o e) N B T X V h → mj_Ok (4 * d + 12) 301 [.ref 0, .int (jn ((p + 1 : Nat) : Int))] h (wkV S N B T X V tm o e (p + 1) b2 (zv0 T tm f2 0 d a none 1))) : mj_Ok (4 * d + 13) 300 [.ref 0, .int (jn (p : Nat))] h (wkV S N B T X V tm o e p b (zv0 T tm (f + 1) 1 d a (some pz_one) 1)) := by
  refine mj_Ok.of (M := mj_m300) rfl rfl rfl ?_
  have eVal : zv0 T tm (f + 1) 1 d a (some pz_one) 1 = match rpr0 T tm f 0 d a with | some (true, c) => (match rtk T tm 42 c with | none => zvm (some pz_one) (zv0 T tm f 0 d a none 1) | some e => zv0 T tm f 1 d e (zvm (some pz_one) (zv0 T tm f 0 d a none 1)) 1) | _ => none := rfl
  unfold rpr0 at hr
  rcases hy : rpr0 T tm f 0 d a with _ | ⟨z1, z2⟩
  · rw [hy] at hr
    cases hr
  rw [hy] at hr eVal
  cases z1 with
  | false => cases hr
  | true =>
  iterate 3 refine mj_T.pl rfl rfl rfl rfl ?_
  refine mj_T.iadd (a := (p : Int)) (b := 1) rfl ?_
  rw [show (p : Int) + 1 = ((p + 1 : Nat) : Int) by omega]
  refine mj_T.call (ins := .invokevirtual 386) rfl rfl (Nat.le_of_ble_eq_true rfl) (Nat.le_of_ble_eq_true rfl) (by simp [mj_recv, rS_f hs]) rfl (mj_Ok.up (by omega) (ih0 f (Nat.le_refl _) a z2 V h ha hy hs)) (fun v' h2 hq' => ?_) (fun i h' hq' => by obtain ⟨_, _, _, _, _, _, _, _, h⟩ := hq'; cases h)
  obtain ⟨V2, c3, y2, _, hs2, hc2l, hf2, hy2, hq'⟩ := hq'
  cases hq'
  refine mj_T.pl rfl rfl rfl rfl ?_
  refine rT_get hs2 rfl st3_g13 ?_
  rcases hy2 with ⟨y0, c0, w2, hv2, hw2, hb2⟩ | ⟨y1, hv2⟩
  rotate_left
  · subst y1
    refine mj_T.if0 (a := 1) rfl ⟨by decide, by decide⟩ (fun hc => ?_) (fun hc => ?_)
    · simp [jc] at hc
    exact mj_T.ret rfl rfl rfl ⟨V2, c3, 1, h2, hs2, hc2l, fun s s1 s2 => hf2 s s1 (by omega), Or.inr ⟨rfl, by
      have hn : zvm (some pz_one) (zv0 T tm f 0 d a none 1) = none := by rw [hv2]; rfl
      rw [eVal]
      simp only [hn, zv0_n1]
      split <;> rfl⟩, rfl⟩
  subst y0
  subst c0
  refine mj_T.if0 (a := 0) rfl ⟨by decide, by decide⟩ (fun hc => ?_) (fun hc => ?_)
  rotate_left
  · simp [jc] at hc
  iterate 4 refine mj_T.pl rfl rfl rfl rfl ?_
  refine mj_T.iadd (a := (p : Int)) (b := 1) rfl ?_
  rw [show (p : Int) + 1 = ((p + 1 : Nat) : Int) by omega]
  refine mj_T.call (ins := .invokevirtual 124) rfl rfl (Nat.le_of_ble_eq_true rfl) (Nat.le_of_ble_eq_true rfl) (by simp [mj_recv, rS_f hs2]) rfl (mj_Ok.up (by omega) (jp_copiesPoly (D := 0) (rG (st3 (jvu S 13 0) (c3 : Int) o e) N B T X) (p := p) (q := p + 1) (by omega) (by omega) (by omega) hs2)) (fun v' h4 hq' => ?_) (fun i h' hq' => by obtain ⟨_, _, h⟩ := hq'; cases h)
  obtain ⟨_, hs4, hq'⟩ := hq'
  cases hq'
  have q1 : ∀ x, x < 13 → jfl V2 p (fun x => V2 ((p + 1) * 13 + x)) 13 (p * 13 + x) = V2 ((p + 1) * 13 + x) := fun x hx => jfl_at _ p _ hx
  have q2 : ∀ s, s < p * 13 → jfl V2 p (fun x => V2 ((p + 1) * 13 + x)) 13 s = V2 s := fun s hx => jfl_off _ p _ (by omega)
  generalize jfl V2 p (fun x => V2 ((p + 1) * 13 + x)) 13 = W4 at hs4 q1 q2
  rw [hv2, zvm_one hw2] at eVal
  rw [eVal]
  exact wv_prod_loop h9 ht hT hp1 hp2 f (fun f2 hf2 => ih0 f2 (by omega)) c3 W4 h4 w2 hw2 (fun x hx => by rw [q1 x hx]; exact hb2 x hx) hc2l hr hs4 (fun s s1 s2 => by rw [q2 s s2, hf2 s s1 (by omega)])
theorem wv_sum_loop (h9 : S 9 = (tm : Int)) (ht : tm ≤ 200) (hT : ∀ j : Nat, j < tm → 1 ≤ T j ∧ T j ≤ 255) {d p b : Nat} {V0 : Nat → Int} (hp1 : 23 ≤ p) (hp2 : p + 2 + 3 * d ≤ 49) :
    ∀ f, (∀ f2, f2 < f → ∀ (a b2 : Nat) (V : Nat → Int) (h : mj_H), a ≤ tm → rpr0 T tm f2 1 d a = some (true, b2) → rS (st3 (jvu S 13 0) (a : Int) o e) N B T X V h → mj_Ok (4 * d + 13) 300 [.ref 0, .int (jn ((p + 1 : Nat) : Int))] h (wkV S N B T X V tm o e (p + 1) b2 (zv0 T tm f2 1 d a (some pz_one) 1))) →
    ∀ (a : Nat) (V : Nat → Int) (h : mj_H) (w : Int) (A : pz_P), fit13 A → (∀ x, x < 13 → V (p * 13 + x) = A x) → (w = 1 ∨ w = -1) → a ≤ tm → rpr0 T tm f 2 d a = some (true, b) → rS (st3 (jvu S 13 0) (a : Int) o e) N B T X V h → (∀ s, 299 ≤ s → s < p * 13 → V s = V0 s) → mj_T (4 * d + 13) mj_m299 20 [some (.ref 0), some (.int (jn (p : Nat))), some (.int (jn w))] [] h (wkV S N B T X V0 tm o e p b (zv0 T tm f 2 d a (some A) w)) := by
  intro f
  induction f with
  | zero =>
    intro _ a V h w A _ _ _ _ hr
    cases hr
  | succ f ihf =>
    intro ih0 a V h w A hA hAv hw ha hr hs hfr
    have hb := fit_18 hA hAv
    have eVal : zv0 T tm (f + 1) 2 d a (some A) w = match rpr0 T tm f 1 d a with | some (true, c) => (match rtk T tm 43 c with | some e => zv0 T tm f 2 d e (zva (some A) w (zv0 T tm f 1 d a (some pz_one) 1)) 1 | none => match rtk T tm 45 (rskp T tm c) with | some e => zv0 T tm f 2 d e (zva (some A) w (zv0 T tm f 1 d a (some pz_one) 1)) (-1) | none => zva (some A) w (zv0 T tm f 1 d a (some pz_one) 1)) | _ => none := rfl
    unfold rpr0 at hr
    rcases hy : rpr0 T tm f 1 d a with _ | ⟨z1, z2⟩
    · rw [hy] at hr
      cases hr
    rw [hy] at hr eVal
    cases z1 with
    | false => cases hr
    | true =>
    iterate 3 refine mj_T.pl rfl rfl rfl rfl ?_
    refine mj_T.iadd (a := (p : Int)) (b := 1) rfl ?_
    rw [show (p : Int) + 1 = ((p + 1 : Nat) : Int) by omega]
    refine mj_T.call (ins := .invokevirtual 380) rfl rfl (Nat.le_of_ble_eq_true rfl) (Nat.le_of_ble_eq_true rfl) (by simp [mj_recv, rS_f hs]) rfl (mj_Ok.up (by omega) (ih0 f (by omega) a z2 V h ha hy hs)) (fun v' h2 hq' => ?_) (fun i h' hq' => by obtain ⟨_, _, _, _, _, _, _, _, h⟩ := hq'; cases h)
    obtain ⟨V2, c3, y2, _, hs2, hc2l, hf2, hy2, hq'⟩ := hq'
    cases hq'
    have hnone : zva (some A) w (zv0 T tm f 1 d a (some pz_one) 1) = none → zv0 T tm (f + 1) 2 d a (some A) w = none := fun q => by
      rw [eVal]
      simp only [q, zv0_n2]
      split
      · rfl
      · split <;> rfl
    have hfr2 : (∀ s, 299 ≤ s → s < p * 13 → V2 s = V0 s) := fun s s1 s2 => by rw [hf2 s s1 (by omega), hfr s s1 s2]
    refine mj_T.pl rfl rfl rfl rfl ?_
    refine rT_get hs2 rfl st3_g13 ?_
    rcases hy2 with ⟨y0, c0, w2, hv2, hw2, hb2'⟩ | ⟨y1, hv2⟩
    rotate_left
    · subst y1
      refine mj_T.if0 (a := 1) rfl ⟨by decide, by decide⟩ (fun hc => ?_) (fun hc => ?_)
      · simp [jc] at hc
      exact mj_T.ret rfl rfl rfl ⟨V2, c3, 1, h2, hs2, hc2l, hfr2, Or.inr ⟨rfl, hnone (by rw [hv2]; rfl)⟩, rfl⟩
    subst y0
    subst c0
    have hb2 := fit_18 hw2 hb2'
    refine mj_T.if0 (a := 0) rfl ⟨by decide, by decide⟩ (fun hc => ?_) (fun hc => ?_)
    rotate_left
    · simp [jc] at hc
    iterate 5 refine mj_T.pl rfl rfl rfl rfl ?_
    refine mj_T.iadd (a := (p : Int)) (b := 1) rfl ?_
    rw [show (p : Int) + 1 = ((p + 1 : Nat) : Int) by omega]
    refine mj_T.pl rfl rfl rfl rfl ?_
    have hsz : ∀ x, x < 13 → (V2 (p * 13 + x) + w * V2 ((p + 1) * 13 + x)).natAbs ≤ 10 ^ 18 + 10 ^ 18 := fun x hx => by
      rw [hf2 _ (by omega) (by omega)]
      have k1 := hb x hx
      have k2 := hb2 x hx
      rcases hw with q | q <;> subst q <;> omega
    refine mj_T.call (ins := .invokevirtual 216) rfl rfl (Nat.le_of_ble_eq_true rfl) (Nat.le_of_ble_eq_true rfl) (by simp [mj_recv, rS_f hs2]) rfl (mj_Ok.up (by omega) (jp_addsPoly (D := 0) (rG (st3 (jvu S 13 0) (c3 : Int) o e) N B T X) (p := p) (a := p) (b := p + 1) (f := w) (by omega) (by omega) (by omega) hw (fun x hx => jnl_of_lt (hsz x hx) rp_small7) hs2)) (fun v' h6 hq' => ?_) (fun i h' hq' => by obtain ⟨_, _, h⟩ := hq'; cases h)
    obtain ⟨_, hs6, hq'⟩ := hq'
    cases hq'
    have q1 : ∀ x, x < 13 → jfl V2 p (fun x => V2 (p * 13 + x) + w * V2 ((p + 1) * 13 + x)) 13 (p * 13 + x) = A x + w * w2 x := fun x hx => by rw [jfl_at _ p _ hx, hf2 _ (by omega) (by omega), hAv x hx, hb2' x hx]
    have q2 : ∀ s, s < p * 13 → jfl V2 p (fun x => V2 (p * 13 + x) + w * V2 ((p + 1) * 13 + x)) 13 s = V2 s := fun s hx => jfl_off _ p _ (by omega)
    generalize jfl V2 p (fun x => V2 (p * 13 + x) + w * V2 ((p + 1) * 13 + x)) 13 = W6 at hs6 q1 q2
    have hfr6 : (∀ s, 299 ≤ s → s < p * 13 → W6 s = V0 s) := fun s s1 s2 => by rw [q2 s s2, hfr2 s s1 s2]
    iterate 2 refine mj_T.pl rfl rfl rfl rfl ?_
    refine mj_T.call (ins := .invokevirtual 383) rfl rfl (Nat.le_of_ble_eq_true rfl) (Nat.le_of_ble_eq_true rfl) (by simp [mj_recv, rS_f hs6]) rfl (mj_Ok.up (by omega) (wv_bounds (D := 0) (p := p) (by omega) hs6)) (fun v' h8 hq' => ?_) (fun i h' hq' => by obtain ⟨_, _, _, _, h⟩ := hq'; cases h)
    obtain ⟨y, _, hs8, hy8, hq'⟩ := hq'
    cases hq'
    obtain ⟨y8v, hyv⟩ : ∃ v : Option pz_P, v = zva (some A) w (zv0 T tm f 1 d a (some pz_one) 1) := ⟨_, rfl⟩
    have hy9 : (y = 0 ∧ ∃ P, y8v = some P ∧ fit13 P ∧ ∀ x, x < 13 → W6 (p * 13 + x) = P x) ∨ (y = 1 ∧ y8v = none) := by
      rw [hv2] at hyv
      rcases hy8 with ⟨y1, y2⟩ | ⟨y1, y2⟩
      · have hf := (fit_sum (s := w) hA hw2).mpr (sml_cg q1 y2)
        exact Or.inl ⟨y1, _, hyv.trans (zvf_y hf), hf, q1⟩
      · exact Or.inr ⟨y1, hyv.trans (zvf_n (fun q => y2 (sml_cg (fun x hx => (q1 x hx).symm) q.1)))⟩
    rw [← hyv] at eVal hnone
    clear hy8
    have t77 : ∀ (w2 : Int) (a2 : Nat) (h9' : mj_H), (w2 = 0 ∨ w2 = 1 ∨ w2 = -1) → a2 ≤ tm → rS (st3 (jvu S 13 y) (a2 : Int) o e) N B T X W6 h9' → (w2 = 0 → a2 = b ∧ zv0 T tm (f + 1) 2 d a (some A) w = y8v) → (w2 ≠ 0 → rpr0 T tm f 2 d a2 = some (true, b) ∧ zv0 T tm (f + 1) 2 d a (some A) w = zv0 T tm f 2 d a2 y8v w2) → mj_T (4 * d + 13) mj_m299 77 [some (.ref 0), some (.int (jn (p : Nat))), some (.int (jn w))] [.int (jn w2)] h9' (wkV S N B T X V0 tm o e p b (zv0 T tm (f + 1) 2 d a (some A) w)) := fun w2 a2 h9' hw2 ha2 hsa hz hnz => by
      iterate 2 refine mj_T.pl rfl rfl rfl rfl ?_
      have fin : (y = 1 ∨ w2 = 0) → wkV S N B T X V0 tm o e p b (zv0 T tm (f + 1) 2 d a (some A) w) (.inl none, h9') := fun hyw => by
        refine ⟨W6, a2, y, h9', hsa, ha2, hfr6, ?_, rfl⟩
        rcases hy9 with ⟨y1, P, p1, p2, p3⟩ | ⟨y1, y2⟩
        · rcases hyw with q | q
          · omega
          · exact Or.inl ⟨y1, (hz q).1, P, (hz q).2.trans p1, p2, p3⟩
        · exact Or.inr ⟨y1, hnone y2⟩
      refine mj_T.if0 (a := w2) rfl ⟨by omega, by omega⟩ (fun hc => ?_) (fun hc => ?_)
      · simp only [jc, decide_eq_true_eq] at hc
        exact mj_T.ret rfl rfl rfl (fin (Or.inr hc))
      simp only [jc, decide_eq_false_iff_not] at hc
      refine mj_T.pl rfl rfl rfl rfl ?_
      refine rT_get hsa rfl st3_g13 ?_
      rcases hy9 with ⟨y1, P, p1, p2, p3⟩ | ⟨y1, y2⟩
      · subst y1
        refine mj_T.if0 (a := 0) rfl ⟨by decide, by decide⟩ (fun hc => ?_) (fun hc => ?_)
        rotate_left
        · simp [jc] at hc
        have hz9 := hnz (by assumption)
        rw [hz9.2, p1]
        exact ihf (fun f2 hf2 => ih0 f2 (by omega)) a2 W6 h9' w2 P p2 p3 (by omega) ha2 hz9.1 hsa hfr6
      · subst y1
        refine mj_T.if0 (a := 1) rfl ⟨by decide, by decide⟩ (fun hc => ?_) (fun hc => ?_)
        · simp [jc] at hc
        exact mj_T.ret rfl rfl rfl (fin (Or.inl rfl))
    have hid := rskp_idem (T := T) hc2l
    have hle := rskp_le (T := T) hc2l
    iterate 2 refine mj_T.pl rfl rfl rfl rfl ?_
    refine mj_T.call (ins := .invokevirtual 354) rfl rfl (Nat.le_of_ble_eq_true rfl) (Nat.le_of_ble_eq_true rfl) (by simp [mj_recv, rS_f hs8]) rfl (mj_Ok.up (by omega) (rd_takes (D := 0) (S := jvu S 13 y) (c := 43) ⟨by decide, by decide⟩ (w9 h9) ht hT hc2l hs8)) (fun v' h10 hq' => ?_) (fun i h' hq' => by rcases hq' with ⟨_, _, _, _, h⟩ | ⟨_, _, _, h⟩ <;> cases h)
    rcases hq' with ⟨c2, _, ⟨b1, b2, b3⟩, hs10, hq'⟩ | ⟨_, b1, hs10, hq'⟩
    · cases hq'
      simp only [b1] at hr eVal
      refine mj_T.if0 (a := 1) rfl ⟨by decide, by decide⟩ (fun hc => ?_) (fun hc => ?_)
      · simp [jc] at hc
      iterate 2 refine mj_T.pl rfl rfl rfl rfl ?_
      exact t77 1 c2 h10 (Or.inr (Or.inl rfl)) b2 hs10 (fun q => absurd q (by decide)) (fun _ => ⟨hr, eVal⟩)
    cases hq'
    simp only [b1] at hr eVal
    refine mj_T.if0 (a := 0) rfl ⟨by decide, by decide⟩ (fun hc => ?_) (fun hc => ?_)
    rotate_left
    · simp [jc] at hc
    iterate 2 refine mj_T.pl rfl rfl rfl rfl ?_
    refine mj_T.call (ins := .invokevirtual 354) rfl rfl (Nat.le_of_ble_eq_true rfl) (Nat.le_of_ble_eq_true rfl) (by simp [mj_recv, rS_f hs10]) rfl (mj_Ok.up (by omega) (rd_takes (D := 0) (S := jvu S 13 y) (c := 45) ⟨by decide, by decide⟩ (w9 h9) ht hT hle hs10)) (fun v' h11 hq' => ?_) (fun i h' hq' => by rcases hq' with ⟨_, _, _, _, h⟩ | ⟨_, _, _, h⟩ <;> cases h)
    rcases hq' with ⟨c2, _, ⟨d1, d2, d3⟩, hs11, hq'⟩ | ⟨_, d1, hs11, hq'⟩
    · cases hq'
      simp only [d1] at hr eVal
      refine mj_T.if0 (a := 1) rfl ⟨by decide, by decide⟩ (fun hc => ?_) (fun hc => ?_)
      · simp [jc] at hc
      iterate 2 refine mj_T.pl rfl rfl rfl rfl ?_
      exact t77 (-1) c2 h11 (Or.inr (Or.inr rfl)) d2 hs11 (fun q => absurd q (by decide)) (fun _ => ⟨hr, eVal⟩)
    · cases hq'
      simp only [d1] at hr eVal
      rw [hid] at hs11
      refine mj_T.if0 (a := 0) rfl ⟨by decide, by decide⟩ (fun hc => ?_) (fun hc => ?_)
      rotate_left
      · simp [jc] at hc
      refine mj_T.pl rfl rfl rfl rfl ?_
      exact t77 0 _ h11 (Or.inl rfl) hle hs11 (fun _ => ⟨by cases hr; rfl, eVal⟩) (fun q => absurd rfl q)
theorem wv_sum (h9 : S 9 = (tm : Int)) (ht : tm ≤ 200) (hT : ∀ j : Nat, j < tm → 1 ≤ T j ∧ T j ≤ 255) {f d a p b : Nat} (hp1 : 23 ≤ p) (hp2 : p + 2 + 3 * d ≤ 49) (ha : a ≤ tm) (hr : rpr0 T tm (f + 1) 3 d a = some (true, b)) (hs : rS (st3 (jvu S 13 0) (a : Int) o e) N B T X V h)
    (ih0 : ∀ f2, f2 ≤ f → ∀ (a b2 : Nat) (V : Nat → Int) (h : mj_H), a ≤ tm → rpr0 T tm f2 1 d a = some (true, b2) → rS (st3 (jvu S 13 0) (a : Int) o e) N B T X V h → mj_Ok (4 * d + 13) 300 [.ref 0, .int (jn ((p + 1 : Nat) : Int))] h (wkV S N B T X V tm o e (p + 1) b2 (zv0 T tm f2 1 d a (some pz_one) 1))) : mj_Ok (4 * d + 14) 299 [.ref 0, .int (jn (p : Nat))] h (wkV S N B T X V tm o e p b (zv0 T tm (f + 1) 3 d a none 1)) := by
  refine mj_Ok.of (M := mj_m299) rfl rfl rfl ?_
  have eVal : zv0 T tm (f + 1) 3 d a none 1 = match rtk T tm 45 a with | some e => zv0 T tm f 2 d e (some pz_0) (-1) | none => zv0 T tm f 2 d (rskp T tm a) (some pz_0) 1 := rfl
  unfold rpr0 at hr
  have hle := rskp_le (T := T) ha
  have t14 : ∀ (w : Int) (a2 : Nat) (h2 : mj_H), (w = 1 ∨ w = -1) → a2 ≤ tm → rS (st3 (jvu S 13 0) (a2 : Int) o e) N B T X V h2 → rpr0 T tm f 2 d a2 = some (true, b) → zv0 T tm (f + 1) 3 d a none 1 = zv0 T tm f 2 d a2 (some pz_0) w → mj_T (4 * d + 13) mj_m299 14 [some (.ref 0), some (.int (jn (p : Nat))), none] [.int (jn w)] h2 (wkV S N B T X V tm o e p b (zv0 T tm (f + 1) 3 d a none 1)) := fun w a2 h2 hw ha2 hs2 hr2 ev2 => by
    rw [ev2]
    iterate 3 refine mj_T.pl rfl rfl rfl rfl ?_
    refine mj_T.call (ins := .invokevirtual 110) rfl rfl (Nat.le_of_ble_eq_true rfl) (Nat.le_of_ble_eq_true rfl) (by simp [mj_recv, rS_f hs2]) rfl (mj_Ok.up (by omega) (jp_empties (D := 0) (rG (st3 (jvu S 13 0) (a2 : Int) o e) N B T X) (p := p) (by omega) hs2)) (fun v' h3 hq' => ?_) (fun i h' hq' => by obtain ⟨_, _, h⟩ := hq'; cases h)
    obtain ⟨_, hs3, hq'⟩ := hq'
    cases hq'
    have q1 : ∀ x, x < 13 → jfl V p (fun _ => 0) 13 (p * 13 + x) = 0 := fun x hx => jfl_at _ p _ hx
    have q2 : ∀ s, s < p * 13 → jfl V p (fun _ => 0) 13 s = V s := fun s hx => jfl_off _ p _ (by omega)
    generalize jfl V p (fun _ => 0) 13 = W1 at hs3 q1 q2
    exact wv_sum_loop h9 ht hT hp1 hp2 f (fun f2 hf2 => ih0 f2 (by omega)) a2 W1 h3 w pz_0 fit_0 (fun x hx => q1 x hx) hw ha2 hr2 hs3 (fun s s1 s2 => q2 s s2)
  iterate 2 refine mj_T.pl rfl rfl rfl rfl ?_
  refine mj_T.call (ins := .invokevirtual 354) rfl rfl (Nat.le_of_ble_eq_true rfl) (Nat.le_of_ble_eq_true rfl) (by simp [mj_recv, rS_f hs]) rfl (mj_Ok.up (by omega) (rd_takes (D := 0) (S := jvu S 13 0) (c := 45) ⟨by decide, by decide⟩ (w9 h9) ht hT ha hs)) (fun v' h1 hq' => ?_) (fun i h' hq' => by rcases hq' with ⟨_, _, _, _, h⟩ | ⟨_, _, _, h⟩ <;> cases h)
  rcases hq' with ⟨c2, _, ⟨b1, b2, b3⟩, hs1, hq'⟩ | ⟨_, b1, hs1, hq'⟩
  · cases hq'
    simp only [b1] at hr eVal
    refine mj_T.if0 (a := 1) rfl ⟨by decide, by decide⟩ (fun hc => ?_) (fun hc => ?_)
    · simp [jc] at hc
    iterate 2 refine mj_T.pl rfl rfl rfl rfl ?_
    exact t14 (-1) c2 h1 (Or.inr rfl) b2 hs1 hr eVal
  · cases hq'
    simp only [b1] at hr eVal
    refine mj_T.if0 (a := 0) rfl ⟨by decide, by decide⟩ (fun hc => ?_) (fun hc => ?_)
    rotate_left
    · simp [jc] at hc
    refine mj_T.pl rfl rfl rfl rfl ?_
    exact t14 1 _ h1 (Or.inl rfl) hle hs1 hr eVal
theorem wv_all (h9 : S 9 = (tm : Int)) (ht : tm ≤ 200) (hT : ∀ j : Nat, j < tm → 1 ≤ T j ∧ T j ≤ 255) : ∀ (d f a p b : Nat) (V : Nat → Int) (h : mj_H), d ≤ 8 → 23 ≤ p → p + 2 + 3 * d ≤ 49 → a ≤ tm → rpr0 T tm f 3 d a = some (true, b) → rS (st3 (jvu S 13 0) (a : Int) o e) N B T X V h → mj_Ok (4 * d + 14) 299 [.ref 0, .int (jn (p : Nat))] h (wkV S N B T X V tm o e p b (zv0 T tm f 3 d a none 1)) := by
  intro d
  induction d with
  | zero =>
    intro f a p b V h _ hp1 hp2 ha hr hs
    cases f with
    | zero => cases hr
    | succ f =>
    refine wv_sum h9 ht hT hp1 hp2 ha hr hs (fun f2 hf2 a2 b2 V2 h2 ha2 hr2 hs2 => ?_)
    cases f2 with
    | zero => cases hr2
    | succ f2 =>
    refine wv_product h9 ht hT (by omega) (by omega) ha2 hr2 hs2 (fun f3 hf3 a3 b3 V3 h3 ha3 hr3 hs3 => ?_)
    cases f3 with
    | zero => cases hr3
    | succ f3 => exact wv_power_step h9 ht hT (by omega) (by omega) ha3 hr3 hs3 (fun d2 a4 p4 b4 V4 h4 hd => absurd hd (by omega))
  | succ d ihd =>
    intro f a p b V h hd8 hp1 hp2 ha hr hs
    cases f with
    | zero => cases hr
    | succ f =>
    refine wv_sum h9 ht hT hp1 hp2 ha hr hs (fun f2 hf2 a2 b2 V2 h2 ha2 hr2 hs2 => ?_)
    cases f2 with
    | zero => cases hr2
    | succ f2 =>
    refine wv_product h9 ht hT (by omega) (by omega) ha2 hr2 hs2 (fun f3 hf3 a3 b3 V3 h3 ha3 hr3 hs3 => ?_)
    cases f3 with
    | zero => cases hr3
    | succ f3 =>
      refine wv_power_step h9 ht hT (by omega) (by omega) ha3 hr3 hs3 (fun d2 a4 p4 b4 V4 h4 hd hp41 hp42 ha4 hr4 hs4 => ?_)
      have ed : d2 = d := by omega
      subst ed
      exact ihd f3 a4 p4 b4 V4 h4 (by omega) hp41 hp42 ha4 hr4 hs4
end RWY
