/-! The reading of sums, products and powers by the reference. -/
def rdPost (S N B T X V : Nat → Int) (tm : Nat) (er : Int) (a d : Nat) (res : Bool × Nat) (r : mj_R) : Prop := (∃ (b : Nat) (h2 : mj_H), (res = (true, b) ∧ b ≤ tm ∧ a < b) ∧ rS (st3 S (b : Int) (8 - (d : Int)) er) N B T X V h2 ∧ r = (.inl (some (.int (jn 1))), h2)) ∨ (∃ (x b : Nat) (o2 : Int) (h2 : mj_H), (res = (false, x) ∧ x ≤ tm ∧ b ≤ tm ∧ jr o2) ∧ rS (st3 S (b : Int) o2 (x : Int)) N B T X V h2 ∧ r = (.inl (some (.int (jn 0))), h2))
section RPW
variable {S N B T X V : Nat → Int} {h : mj_H} {tm : Nat} {er : Int}
theorem rdPost.le {a a2 d : Nat} {res : Bool × Nat} {r : mj_R} (k : rdPost S N B T X V tm er a2 d res r) (ha : a ≤ a2) : rdPost S N B T X V tm er a d res r := by
  rcases k with ⟨b, h2, ⟨k1, k2, k3⟩, k4⟩ | k
  · exact Or.inl ⟨b, h2, ⟨k1, k2, by omega⟩, k4⟩
  · exact Or.inr k
/-- the exponent behind a factor -/
theorem rd_ex (h9 : S 9 = (tm : Int)) (ht : tm ≤ 200) (hT : ∀ j : Nat, j < tm → 1 ≤ T j ∧ T j ≤ 255) {D a d : Nat} (hd : d ≤ 8) (ha : a ≤ tm) (hs : rS (st3 S (a : Int) (8 - (d : Int)) er) N B T X V h) {a0 : Nat} (ha0 : a0 < a) {Q : mj_R → Prop} (hend : ∀ r, rdPost S N B T X V tm er a0 d (rex T tm a) r → Q r) : mj_T (D + 3) mj_m296 155 [some (.ref 0), some (.int (jn 1))] [] h Q := by
  have hle := rskp_le (T := T) ha
  have hge := rskp_ge (T := T) (tm := tm) a
  refine mj_T.pl rfl rfl rfl rfl ?_
  refine mj_T.if0 (a := 1) rfl ⟨by decide, by decide⟩ (fun hc => ?_) (fun hc => ?_)
  · simp [jc] at hc
  iterate 2 refine mj_T.pl rfl rfl rfl rfl ?_
  refine mj_T.call (ins := .invokevirtual 354) rfl rfl (Nat.le_of_ble_eq_true rfl) (Nat.le_of_ble_eq_true rfl) (by simp [mj_recv, rS_f hs]) rfl (mj_Ok.up (by omega) (rd_takes (D := 0) (c := 94) ⟨by decide, by decide⟩ h9 ht hT ha hs)) (fun v' h1 hq' => ?_) (fun i h' hq' => by rcases hq' with ⟨_, _, _, _, h⟩ | ⟨_, _, _, h⟩ <;> cases h)
  rcases hq' with ⟨b, _, ⟨b1, b2, b3⟩, hs1, hq'⟩ | ⟨_, b1, hs1, hq'⟩
  · cases hq'
    have ee : rex T tm a = rnm T tm 12 b := by
      unfold rex
      rw [b1]
    rw [ee] at hend
    refine mj_T.if0 (a := 1) rfl ⟨by decide, by decide⟩ (fun hc => ?_) (fun hc => ?_)
    · simp [jc] at hc
    iterate 2 refine mj_T.pl rfl rfl rfl rfl ?_
    refine mj_T.call (ins := .invokevirtual 376) rfl rfl (Nat.le_of_ble_eq_true rfl) (Nat.le_of_ble_eq_true rfl) (by simp [mj_recv, rS_f hs1]) rfl (mj_Ok.up (by omega) (rd_number (D := 0) (most := 12) h9 ht hT ⟨by decide, by decide⟩ b2 hs1)) (fun v' h2 hq' => ?_) (fun i h' hq' => by rcases hq' with ⟨_, _, _, _, h⟩ | ⟨_, _, _, _, _, h⟩ <;> cases h)
    rcases hq' with ⟨c, _, ⟨c1, c2, c3⟩, hs2, hq'⟩ | ⟨x, c, _, ⟨c1, c2, c3⟩, hs2, hq'⟩
    · cases hq'
      iterate 2 refine mj_T.pl rfl rfl rfl rfl ?_
      exact mj_T.ret rfl rfl rfl (hend _ (Or.inl ⟨c, h2, ⟨c1, c2, by omega⟩, hs2, rfl⟩))
    · cases hq'
      iterate 2 refine mj_T.pl rfl rfl rfl rfl ?_
      exact mj_T.ret rfl rfl rfl (hend _ (Or.inr ⟨x, c, _, h2, ⟨c1, c2, c3, ⟨by omega, by omega⟩⟩, hs2, rfl⟩))
  · cases hq'
    have ee : rex T tm a = (true, rskp T tm a) := by
      unfold rex
      rw [b1]
    rw [ee] at hend
    refine mj_T.if0 (a := 0) rfl ⟨by decide, by decide⟩ (fun hc => ?_) (fun hc => ?_)
    · refine mj_T.pl rfl rfl rfl rfl ?_
      exact mj_T.ret rfl rfl rfl (hend _ (Or.inl ⟨_, h1, ⟨rfl, hle, by omega⟩, hs1, rfl⟩))
    · simp [jc] at hc
theorem rd_power_step (h9 : S 9 = (tm : Int)) (ht : tm ≤ 200) (hT : ∀ j : Nat, j < tm → 1 ≤ T j ∧ T j ≤ 255) {f d a : Nat} {res : Bool × Nat} (hd : d ≤ 8) (ha : a ≤ tm) (hr : rpr0 T tm (f + 1) 0 d a = some res) (hs : rS (st3 S (a : Int) (8 - (d : Int)) er) N B T X V h)
    (ih : ∀ (d2 a2 : Nat) (h : mj_H) (res : Bool × Nat), d = d2 + 1 → a2 ≤ tm → rpr0 T tm f 3 d2 a2 = some res → rS (st3 S (a2 : Int) (8 - (d2 : Int)) er) N B T X V h → mj_Ok (4 * d2 + 7) 293 [.ref 0] h (rdPost S N B T X V tm er a2 d2 res)) : mj_Ok (4 * d + 5) 296 [.ref 0] h (rdPost S N B T X V tm er a d res) := by
  refine mj_Ok.of (M := mj_m296) rfl rfl rfl ?_
  have hle := rskp_le (T := T) ha
  have hge := rskp_ge (T := T) (tm := tm) a
  refine mj_T.pl rfl rfl rfl rfl ?_
  refine mj_T.call (ins := .invokevirtual 348) rfl rfl (Nat.le_of_ble_eq_true rfl) (Nat.le_of_ble_eq_true rfl) (by simp [mj_recv, rS_f hs]) rfl (mj_Ok.up (by omega) (rd_skips (D := 0) h9 ht hT ha hs)) (fun v' h1 hq' => ?_) (fun i h' hq' => by obtain ⟨_, _, h⟩ := hq'; cases h)
  obtain ⟨_, hs1, hq'⟩ := hq'
  cases hq'
  have hid := rskp_idem (T := T) ha
  unfold rpr0 at hr
  obtain ⟨s, hsdef⟩ : ∃ s, rskp T tm a = s := ⟨_, rfl⟩
  rw [hsdef] at hs1 hle hge hr hid
  have ex : ∀ (c : Nat) (h2 : mj_H), c ≤ tm → a < c → rS (st3 S (c : Int) (8 - (d : Int)) er) N B T X V h2 → res = rex T tm c → mj_T (4 * d + 4) mj_m296 155 [some (.ref 0), some (.int (jn 1))] [] h2 (rdPost S N B T X V tm er a d res) := fun c h2 c1 c2 hs2 e => by
    subst e
    exact rd_ex (D := 4 * d + 1) h9 ht hT hd c1 hs2 c2 (fun r hr => hr)
  have t147 : ¬ (s < tm ∧ T s = 120) → ¬ (s < tm ∧ T s = 40) → mj_T (4 * d + 4) mj_m296 147 [some (.ref 0), none] [] h1 (rdPost S N B T X V tm er a d res) := fun n1 n2 => by
    rw [if_neg n1, if_neg n2] at hr
    iterate 2 refine mj_T.pl rfl rfl rfl rfl ?_
    refine mj_T.call (ins := .invokevirtual 376) rfl rfl (Nat.le_of_ble_eq_true rfl) (Nat.le_of_ble_eq_true rfl) (by simp [mj_recv, rS_f hs1]) rfl (mj_Ok.up (by omega) (rd_number (D := 0) (most := 9223372036854775807) h9 ht hT ⟨by decide, by decide⟩ hle hs1)) (fun v' h2 hq' => ?_) (fun i h' hq' => by rcases hq' with ⟨_, _, _, _, h⟩ | ⟨_, _, _, _, _, h⟩ <;> cases h)
    rcases hq' with ⟨c, _, ⟨c1, c2, c3⟩, hs2, hq'⟩ | ⟨x, c, _, ⟨c1, c2, c3⟩, hs2, hq'⟩
    · cases hq'
      rw [c1] at hr
      refine mj_T.pl rfl rfl rfl rfl ?_
      exact ex c h2 c2 (by omega) hs2 (Option.some.inj hr).symm
    · cases hq'
      rw [c1] at hr
      iterate 2 refine mj_T.pl rfl rfl rfl rfl ?_
      refine mj_T.if0 (a := 0) rfl ⟨by decide, by decide⟩ (fun hc => ?_) (fun hc => ?_)
      · refine mj_T.pl rfl rfl rfl rfl ?_
        exact mj_T.ret rfl rfl rfl (Or.inr ⟨x, c, _, h2, ⟨(Option.some.inj hr).symm, c2, c3, ⟨by omega, by omega⟩⟩, hs2, rfl⟩)
      · simp [jc] at hc
  have t44 : ¬ (s < tm ∧ T s = 120) → mj_T (4 * d + 4) mj_m296 44 [some (.ref 0), none] [] h1 (rdPost S N B T X V tm er a d res) := fun n1 => by
    refine mj_T.pl rfl rfl rfl rfl ?_
    refine rT_get hs1 rfl st3_g10 ?_
    refine mj_T.pl rfl rfl rfl rfl ?_
    refine rT_get hs1 rfl (st3_g9 h9) ?_
    refine mj_T.icmp (a := (s : Int)) (b := (tm : Int)) rfl ⟨by omega, by omega⟩ ⟨by omega, by omega⟩ (fun hc1 => ?_) (fun hc1 => ?_)
    · simp only [jc, decide_eq_true_eq] at hc1
      exact t147 n1 (by omega)
    simp only [jc, decide_eq_false_iff_not] at hc1
    have hTs := hT s (by omega)
    refine mj_T.pl rfl rfl rfl rfl ?_
    refine rT_get hs1 rfl rfl ?_
    refine mj_T.pl rfl rfl rfl rfl ?_
    refine rT_get hs1 rfl st3_g10 ?_
    refine rT_ldT hs1 rfl ⟨by omega, by omega⟩ ?_
    rw [Int.toNat_natCast]
    refine mj_T.pl rfl rfl rfl rfl ?_
    refine mj_T.icmp (a := T s) (b := 40) rfl ⟨by omega, by omega⟩ ⟨by decide, by decide⟩ (fun hc2 => ?_) (fun hc2 => ?_)
    · simp only [jc, Bool.not_eq_true', decide_eq_false_iff_not] at hc2
      exact t147 n1 (fun q => hc2 q.2)
    simp only [jc, Bool.not_eq_false', decide_eq_true_eq] at hc2
    rw [if_neg n1, if_pos ⟨by omega, hc2⟩] at hr
    refine mj_T.pl rfl rfl rfl rfl ?_
    refine rT_get hs1 rfl st3_g11 ?_
    refine mj_T.pl rfl rfl rfl rfl ?_
    refine mj_T.icmp (a := 8 - (d : Int)) (b := 8) rfl ⟨by omega, by omega⟩ ⟨by decide, by decide⟩ (fun hc3 => ?_) (fun hc3 => ?_)
    rotate_left
    · simp only [jc, Bool.not_eq_false', decide_eq_true_eq] at hc3
      rw [if_pos (by omega)] at hr
      iterate 2 refine mj_T.pl rfl rfl rfl rfl ?_
      refine rT_get hs1 rfl st3_g10 ?_
      refine mj_T.call (ins := .invokevirtual 351) rfl rfl (Nat.le_of_ble_eq_true rfl) (Nat.le_of_ble_eq_true rfl) (by simp [mj_recv, rS_f hs1]) rfl (mj_Ok.up (by omega) (rd_errs (D := 0) (x := (s : Int)) hs1)) (fun v' h3 hq' => ?_) (fun i h' hq' => by obtain ⟨_, _, h⟩ := hq'; cases h)
      obtain ⟨_, hs3, hq'⟩ := hq'
      cases hq'
      exact mj_T.ret rfl rfl rfl (Or.inr ⟨s, s, _, h3, ⟨(Option.some.inj hr).symm, hle, hle, ⟨by omega, by omega⟩⟩, hs3, rfl⟩)
    simp only [jc, Bool.not_eq_true', decide_eq_false_iff_not] at hc3
    obtain ⟨d2, rfl⟩ : ∃ d2, d = d2 + 1 := ⟨d - 1, by omega⟩
    rw [if_neg (by omega), Nat.add_sub_cancel] at hr
    iterate 2 refine mj_T.pl rfl rfl rfl rfl ?_
    refine rT_get hs1 rfl st3_g10 ?_
    refine mj_T.pl rfl rfl rfl rfl ?_
    refine mj_T.iadd (a := (s : Int)) (b := 1) rfl ?_
    rw [show (s : Int) + 1 = ((s + 1 : Nat) : Int) by omega]
    refine rT_put (v := ((s + 1 : Nat) : Int)) hs1 rfl rfl (by decide) rfl (fun h2 hs2 => ?_)
    rw [st3_10] at hs2
    iterate 2 refine mj_T.pl rfl rfl rfl rfl ?_
    refine rT_get hs2 rfl st3_g11 ?_
    refine mj_T.pl rfl rfl rfl rfl ?_
    refine mj_T.iadd (a := 8 - ((d2 + 1 : Nat) : Int)) (b := 1) rfl ?_
    rw [show (8 : Int) - ((d2 + 1 : Nat) : Int) + 1 = 8 - (d2 : Int) by omega]
    refine rT_put (v := 8 - (d2 : Int)) hs2 rfl rfl (by decide) rfl (fun h3 hs3 => ?_)
    rw [st3_11] at hs3
    refine mj_T.pl rfl rfl rfl rfl ?_
    obtain ⟨res3, hres3⟩ : ∃ res3, rpr0 T tm f 3 d2 (s + 1) = some res3 := by
      rcases hx : rpr0 T tm f 3 d2 (s + 1) with _ | z
      · rw [hx] at hr
        cases hr
      · exact ⟨z, rfl⟩
    rw [hres3] at hr
    refine mj_T.call (ins := .invokevirtual 257) rfl rfl (Nat.le_of_ble_eq_true rfl) (Nat.le_of_ble_eq_true rfl) (by simp [mj_recv, rS_f hs3]) rfl (mj_Ok.up (by omega) (ih d2 (s + 1) h3 res3 rfl (by omega) hres3 hs3)) (fun v' h4 hq' => ?_) (fun i h' hq' => by rcases hq' with ⟨_, _, _, _, h⟩ | ⟨_, _, _, _, _, _, h⟩ <;> cases h)
    rcases hq' with ⟨c, _, ⟨c1, c2, c3⟩, hs4, hq'⟩ | ⟨x, c, o2, _, ⟨c1, c2, c3, c4⟩, hs4, hq'⟩
    · cases hq'
      subst c1
      iterate 2 refine mj_T.pl rfl rfl rfl rfl ?_
      refine mj_T.if0 (a := 1) rfl ⟨by decide, by decide⟩ (fun hc => ?_) (fun hc => ?_)
      · simp [jc] at hc
      iterate 2 refine mj_T.pl rfl rfl rfl rfl ?_
      have hcl := rskp_le (T := T) c2
      refine mj_T.call (ins := .invokevirtual 354) rfl rfl (Nat.le_of_ble_eq_true rfl) (Nat.le_of_ble_eq_true rfl) (by simp [mj_recv, rS_f hs4]) rfl (mj_Ok.up (by omega) (rd_takes (D := 0) (c := 41) ⟨by decide, by decide⟩ h9 ht hT c2 hs4)) (fun v' h5 hq' => ?_) (fun i h' hq' => by rcases hq' with ⟨_, _, _, _, h⟩ | ⟨_, _, _, h⟩ <;> cases h)
      rcases hq' with ⟨b, _, ⟨b1, b2, b3⟩, hs5, hq'⟩ | ⟨_, b1, hs5, hq'⟩
      · cases hq'
        simp only [b1] at hr
        refine mj_T.if0 (a := 1) rfl ⟨by decide, by decide⟩ (fun hc => ?_) (fun hc => ?_)
        rotate_left
        · simp [jc] at hc
        iterate 2 refine mj_T.pl rfl rfl rfl rfl ?_
        refine rT_get hs5 rfl st3_g11 ?_
        refine mj_T.pl rfl rfl rfl rfl ?_
        refine mj_T.isub (a := 8 - (d2 : Int)) (b := 1) rfl ?_
        rw [show (8 : Int) - (d2 : Int) - 1 = 8 - ((d2 + 1 : Nat) : Int) by omega]
        refine rT_put (v := 8 - ((d2 + 1 : Nat) : Int)) hs5 rfl rfl (by decide) rfl (fun h6 hs6 => ?_)
        rw [st3_11] at hs6
        refine mj_T.pl rfl rfl rfl rfl ?_
        exact ex b h6 b2 (by omega) hs6 (Option.some.inj hr).symm
      · cases hq'
        simp only [b1] at hr
        refine mj_T.if0 (a := 0) rfl ⟨by decide, by decide⟩ (fun hc => ?_) (fun hc => ?_)
        · simp [jc] at hc
        iterate 2 refine mj_T.pl rfl rfl rfl rfl ?_
        refine rT_get hs5 rfl st3_g10 ?_
        refine mj_T.call (ins := .invokevirtual 351) rfl rfl (Nat.le_of_ble_eq_true rfl) (Nat.le_of_ble_eq_true rfl) (by simp [mj_recv, rS_f hs5]) rfl (mj_Ok.up (by omega) (rd_errs (D := 0) (x := ((rskp T tm c : Nat) : Int)) hs5)) (fun v' h6 hq' => ?_) (fun i h' hq' => by obtain ⟨_, _, h⟩ := hq'; cases h)
        obtain ⟨_, hs6, hq'⟩ := hq'
        cases hq'
        exact mj_T.ret rfl rfl rfl (Or.inr ⟨_, _, _, h6, ⟨(Option.some.inj hr).symm, hcl, hcl, ⟨by omega, by omega⟩⟩, hs6, rfl⟩)
    · cases hq'
      subst c1
      iterate 2 refine mj_T.pl rfl rfl rfl rfl ?_
      refine mj_T.if0 (a := 0) rfl ⟨by decide, by decide⟩ (fun hc => ?_) (fun hc => ?_)
      rotate_left
      · simp [jc] at hc
      iterate 2 refine mj_T.pl rfl rfl rfl rfl ?_
      refine rT_get hs4 rfl st3_g11 ?_
      refine mj_T.pl rfl rfl rfl rfl ?_
      refine mj_T.isub (a := o2) (b := 1) rfl ?_
      obtain ⟨o3, ho3, ho4⟩ : ∃ o3 : Int, jr o3 ∧ jn (o2 - 1) = jn o3 := ⟨(jn (o2 - 1)).toInt, jr_of _, (jn_of _).symm⟩
      rw [ho4]
      refine rT_put (v := o3) hs4 rfl rfl (by decide) rfl (fun h6 hs6 => ?_)
      rw [st3_11] at hs6
      iterate 2 refine mj_T.pl rfl rfl rfl rfl ?_
      refine mj_T.if0 (a := 0) rfl ⟨by decide, by decide⟩ (fun hc => ?_) (fun hc => ?_)
      · refine mj_T.pl rfl rfl rfl rfl ?_
        exact mj_T.ret rfl rfl rfl (Or.inr ⟨x, c, o3, h6, ⟨(Option.some.inj hr).symm, c2, c3, ho3⟩, hs6, rfl⟩)
      · simp [jc] at hc
  refine mj_T.pl rfl rfl rfl rfl ?_
  refine rT_get hs1 rfl st3_g10 ?_
  refine mj_T.pl rfl rfl rfl rfl ?_
  refine rT_get hs1 rfl (st3_g9 h9) ?_
  refine mj_T.icmp (a := (s : Int)) (b := (tm : Int)) rfl ⟨by omega, by omega⟩ ⟨by omega, by omega⟩ (fun hc1 => ?_) (fun hc1 => ?_)
  · simp only [jc, decide_eq_true_eq] at hc1
    exact t44 (by omega)
  simp only [jc, decide_eq_false_iff_not] at hc1
  have hTs := hT s (by omega)
  refine mj_T.pl rfl rfl rfl rfl ?_
  refine rT_get hs1 rfl rfl ?_
  refine mj_T.pl rfl rfl rfl rfl ?_
  refine rT_get hs1 rfl st3_g10 ?_
  refine rT_ldT hs1 rfl ⟨by omega, by omega⟩ ?_
  rw [Int.toNat_natCast]
  refine mj_T.pl rfl rfl rfl rfl ?_
  refine mj_T.icmp (a := T s) (b := 120) rfl ⟨by omega, by omega⟩ ⟨by decide, by decide⟩ (fun hc2 => ?_) (fun hc2 => ?_)
  · simp only [jc, Bool.not_eq_true', decide_eq_false_iff_not] at hc2
    exact t44 (fun q => hc2 q.2)
  simp only [jc, Bool.not_eq_false', decide_eq_true_eq] at hc2
  rw [if_pos ⟨by omega, hc2⟩] at hr
  iterate 2 refine mj_T.pl rfl rfl rfl rfl ?_
  refine rT_get hs1 rfl st3_g10 ?_
  refine mj_T.pl rfl rfl rfl rfl ?_
  refine mj_T.iadd (a := (s : Int)) (b := 1) rfl ?_
  rw [show (s : Int) + 1 = ((s + 1 : Nat) : Int) by omega]
  refine rT_put (v := ((s + 1 : Nat) : Int)) hs1 rfl rfl (by decide) rfl (fun h2 hs2 => ?_)
  rw [st3_10] at hs2
  iterate 3 refine mj_T.pl rfl rfl rfl rfl ?_
  exact ex (s + 1) h2 (by omega) (by omega) hs2 (Option.some.inj hr).symm
end RPW
