/-! The reading of sums and products by the reference, whole. -/
section RPQ
variable {S N B T X V : Nat → Int} {h : mj_H} {tm : Nat} {er : Int}
theorem rd_prod_step (h9 : S 9 = (tm : Int)) (ht : tm ≤ 200) (hT : ∀ j : Nat, j < tm → 1 ≤ T j ∧ T j ≤ 255) {f d : Nat} (hd : d ≤ 8)
    (ih0 : ∀ (a : Nat) (h : mj_H) (res : Bool × Nat), a ≤ tm → rpr0 T tm f 0 d a = some res → rS (st3 S (a : Int) (8 - (d : Int)) er) N B T X V h → mj_Ok (4 * d + 5) 296 [.ref 0] h (rdPost S N B T X V tm er a d res))
    (ih1 : ∀ (a : Nat) (h : mj_H) (res : Bool × Nat) (l1 : Option Value) (Q : mj_R → Prop), a ≤ tm → rpr0 T tm f 1 d a = some res → rS (st3 S (a : Int) (8 - (d : Int)) er) N B T X V h → (∀ r, rdPost S N B T X V tm er a d res r → Q r) → mj_T (4 * d + 5) mj_m294 18 [some (.ref 0), l1] [] h Q)
    (a : Nat) (h : mj_H) (res : Bool × Nat) (l1 : Option Value) (Q : mj_R → Prop) (ha : a ≤ tm) (hr : rpr0 T tm (f + 1) 1 d a = some res) (hs : rS (st3 S (a : Int) (8 - (d : Int)) er) N B T X V h) (hend : ∀ r, rdPost S N B T X V tm er a d res r → Q r) : mj_T (4 * d + 5) mj_m294 0 [some (.ref 0), l1] [] h Q ∧ mj_T (4 * d + 5) mj_m294 18 [some (.ref 0), l1] [] h Q := by
  unfold rpr0 at hr
  obtain ⟨res0, hres0⟩ : ∃ z, rpr0 T tm f 0 d a = some z := by
    rcases hx : rpr0 T tm f 0 d a with _ | z
    · rw [hx] at hr
      cases hr
    · exact ⟨z, rfl⟩
  rw [hres0] at hr
  have t5 : ∀ (h1 : mj_H) (v1 : Option Value), rdPost S N B T X V tm er a d res0 (.inl v1, h1) → ∃ z : Int, v1 = some (.int (jn z)) ∧ mj_T (4 * d + 5) mj_m294 5 [some (.ref 0), some (.int (jn z))] [] h1 Q := fun h1 v1 hq' => by
    rcases hq' with ⟨c, _, ⟨c1, c2, c3⟩, hs1, hq'⟩ | ⟨x, c, o2, _, ⟨c1, c2, c3, c4⟩, hs1, hq'⟩
    · cases hq'
      refine ⟨1, rfl, ?_⟩
      subst c1
      refine mj_T.pl rfl rfl rfl rfl ?_
      refine mj_T.if0 (a := 1) rfl ⟨by decide, by decide⟩ (fun hc => ?_) (fun hc => ?_)
      · simp [jc] at hc
      iterate 2 refine mj_T.pl rfl rfl rfl rfl ?_
      have hcl := rskp_le (T := T) c2
      have hcg := rskp_ge (T := T) (tm := tm) c
      refine mj_T.call (ins := .invokevirtual 354) rfl rfl (Nat.le_of_ble_eq_true rfl) (Nat.le_of_ble_eq_true rfl) (by simp [mj_recv, rS_f hs1]) rfl (mj_Ok.up (by omega) (rd_takes (D := 0) (c := 42) ⟨by decide, by decide⟩ h9 ht hT (by assumption) hs1)) (fun v' h2 hq' => ?_) (fun i h' hq' => by rcases hq' with ⟨_, _, _, _, h⟩ | ⟨_, _, _, h⟩ <;> cases h)
      rcases hq' with ⟨b, _, ⟨b1, b2, b3⟩, hs2, hq'⟩ | ⟨_, b1, hs2, hq'⟩
      · cases hq'
        simp only [b1] at hr
        refine mj_T.if0 (a := 1) rfl ⟨by decide, by decide⟩ (fun hc => ?_) (fun hc => ?_)
        · simp [jc] at hc
        exact ih1 b h2 res _ Q b2 hr hs2 (fun r k => hend r (k.le (by omega)))
      · cases hq'
        simp only [b1] at hr
        refine mj_T.if0 (a := 0) rfl ⟨by decide, by decide⟩ (fun hc => ?_) (fun hc => ?_)
        · refine mj_T.pl rfl rfl rfl rfl ?_
          exact mj_T.ret rfl rfl rfl (hend _ (Or.inl ⟨_, h2, ⟨(Option.some.inj hr).symm, hcl, by omega⟩, hs2, rfl⟩))
        · simp [jc] at hc
    · cases hq'
      refine ⟨0, rfl, ?_⟩
      subst c1
      refine mj_T.pl rfl rfl rfl rfl ?_
      refine mj_T.if0 (a := 0) rfl ⟨by decide, by decide⟩ (fun hc => ?_) (fun hc => ?_)
      · refine mj_T.pl rfl rfl rfl rfl ?_
        exact mj_T.ret rfl rfl rfl (hend _ (Or.inr ⟨x, c, o2, h1, ⟨(Option.some.inj hr).symm, c2, c3, c4⟩, hs1, rfl⟩))
      · simp [jc] at hc
  constructor
  · refine mj_T.pl rfl rfl rfl rfl ?_
    refine mj_T.call (ins := .invokevirtual 360) rfl rfl (Nat.le_of_ble_eq_true rfl) (Nat.le_of_ble_eq_true rfl) (by simp [mj_recv, rS_f hs]) rfl (ih0 a h res0 ha hres0 hs) (fun v' h1 hq' => ?_) (fun i h' hq' => by rcases hq' with ⟨_, _, _, _, h⟩ | ⟨_, _, _, _, _, _, h⟩ <;> cases h)
    obtain ⟨z, hz, k⟩ := t5 h1 v' hq'
    subst hz
    refine mj_T.pl rfl rfl rfl rfl ?_
    exact k
  · refine mj_T.pl rfl rfl rfl rfl ?_
    refine mj_T.call (ins := .invokevirtual 360) rfl rfl (Nat.le_of_ble_eq_true rfl) (Nat.le_of_ble_eq_true rfl) (by simp [mj_recv, rS_f hs]) rfl (ih0 a h res0 ha hres0 hs) (fun v' h1 hq' => ?_) (fun i h' hq' => by rcases hq' with ⟨_, _, _, _, h⟩ | ⟨_, _, _, _, _, _, h⟩ <;> cases h)
    obtain ⟨z, hz, k⟩ := t5 h1 v' hq'
    subst hz
    iterate 2 refine mj_T.pl rfl rfl rfl rfl ?_
    exact k
theorem rd_sum_step (h9 : S 9 = (tm : Int)) (ht : tm ≤ 200) (hT : ∀ j : Nat, j < tm → 1 ≤ T j ∧ T j ≤ 255) {f d : Nat} (hd : d ≤ 8)
    (ih1 : ∀ (a : Nat) (h : mj_H) (res : Bool × Nat), a ≤ tm → rpr0 T tm f 1 d a = some res → rS (st3 S (a : Int) (8 - (d : Int)) er) N B T X V h → mj_Ok (4 * d + 6) 294 [.ref 0] h (rdPost S N B T X V tm er a d res))
    (ih2 : ∀ (a : Nat) (h : mj_H) (res : Bool × Nat) (z1 : Int) (l2 : Option Value) (Q : mj_R → Prop), a ≤ tm → rpr0 T tm f 2 d a = some res → rS (st3 S (a : Int) (8 - (d : Int)) er) N B T X V h → (∀ r, rdPost S N B T X V tm er a d res r → Q r) → mj_T (4 * d + 6) mj_m293 34 [some (.ref 0), some (.int (jn z1)), l2] [] h Q)
    (a : Nat) (h : mj_H) (res : Bool × Nat) (z1 : Int) (l2 : Option Value) (Q : mj_R → Prop) (ha : a ≤ tm) (hr : rpr0 T tm (f + 1) 2 d a = some res) (hs : rS (st3 S (a : Int) (8 - (d : Int)) er) N B T X V h) (hend : ∀ r, rdPost S N B T X V tm er a d res r → Q r) : mj_T (4 * d + 6) mj_m293 7 [some (.ref 0), some (.int (jn z1)), l2] [] h Q ∧ mj_T (4 * d + 6) mj_m293 34 [some (.ref 0), some (.int (jn z1)), l2] [] h Q := by
  unfold rpr0 at hr
  obtain ⟨res0, hres0⟩ : ∃ z, rpr0 T tm f 1 d a = some z := by
    rcases hx : rpr0 T tm f 1 d a with _ | z
    · rw [hx] at hr
      cases hr
    · exact ⟨z, rfl⟩
  rw [hres0] at hr
  have t12 : ∀ (h1 : mj_H) (v1 : Option Value), rdPost S N B T X V tm er a d res0 (.inl v1, h1) → ∃ z : Int, v1 = some (.int (jn z)) ∧ mj_T (4 * d + 6) mj_m293 12 [some (.ref 0), some (.int (jn z1)), some (.int (jn z))] [] h1 Q := fun h1 v1 hq' => by
    rcases hq' with ⟨c, _, ⟨c1, c2, c3⟩, hs1, hq'⟩ | ⟨x, c, o2, _, ⟨c1, c2, c3, c4⟩, hs1, hq'⟩
    · cases hq'
      refine ⟨1, rfl, ?_⟩
      subst c1
      refine mj_T.pl rfl rfl rfl rfl ?_
      refine mj_T.if0 (a := 1) rfl ⟨by decide, by decide⟩ (fun hc => ?_) (fun hc => ?_)
      · simp [jc] at hc
      iterate 2 refine mj_T.pl rfl rfl rfl rfl ?_
      have hcl := rskp_le (T := T) c2
      have hcg := rskp_ge (T := T) (tm := tm) c
      have hid := rskp_idem (T := T) c2
      refine mj_T.call (ins := .invokevirtual 354) rfl rfl (Nat.le_of_ble_eq_true rfl) (Nat.le_of_ble_eq_true rfl) (by simp [mj_recv, rS_f hs1]) rfl (mj_Ok.up (by omega) (rd_takes (D := 0) (c := 43) ⟨by decide, by decide⟩ h9 ht hT (by assumption) hs1)) (fun v' h2 hq' => ?_) (fun i h' hq' => by rcases hq' with ⟨_, _, _, _, h⟩ | ⟨_, _, _, h⟩ <;> cases h)
      rcases hq' with ⟨b, _, ⟨b1, b2, b3⟩, hs2, hq'⟩ | ⟨_, b1, hs2, hq'⟩
      · cases hq'
        simp only [b1] at hr
        refine mj_T.if0 (a := 1) rfl ⟨by decide, by decide⟩ (fun hc => ?_) (fun hc => ?_)
        rotate_left
        · simp [jc] at hc
        exact ih2 b h2 res z1 _ Q b2 hr hs2 (fun r k => hend r (k.le (by omega)))
      · cases hq'
        simp only [b1] at hr
        refine mj_T.if0 (a := 0) rfl ⟨by decide, by decide⟩ (fun hc => ?_) (fun hc => ?_)
        · simp [jc] at hc
        iterate 2 refine mj_T.pl rfl rfl rfl rfl ?_
        refine mj_T.call (ins := .invokevirtual 354) rfl rfl (Nat.le_of_ble_eq_true rfl) (Nat.le_of_ble_eq_true rfl) (by simp [mj_recv, rS_f hs2]) rfl (mj_Ok.up (by omega) (rd_takes (D := 0) (c := 45) ⟨by decide, by decide⟩ h9 ht hT (by assumption) hs2)) (fun v' h3 hq' => ?_) (fun i h' hq' => by rcases hq' with ⟨_, _, _, _, h⟩ | ⟨_, _, _, h⟩ <;> cases h)
        rcases hq' with ⟨b, _, ⟨d1, d2, d3⟩, hs3, hq'⟩ | ⟨_, d1, hs3, hq'⟩
        · cases hq'
          simp only [d1] at hr
          refine mj_T.if0 (a := 1) rfl ⟨by decide, by decide⟩ (fun hc => ?_) (fun hc => ?_)
          · simp [jc] at hc
          exact ih2 b h3 res z1 _ Q d2 hr hs3 (fun r k => hend r (k.le (by omega)))
        · cases hq'
          simp only [d1] at hr
          rw [hid] at hs3
          refine mj_T.if0 (a := 0) rfl ⟨by decide, by decide⟩ (fun hc => ?_) (fun hc => ?_)
          · refine mj_T.pl rfl rfl rfl rfl ?_
            exact mj_T.ret rfl rfl rfl (hend _ (Or.inl ⟨_, h3, ⟨(Option.some.inj hr).symm, hcl, by omega⟩, hs3, rfl⟩))
          · simp [jc] at hc
    · cases hq'
      refine ⟨0, rfl, ?_⟩
      subst c1
      refine mj_T.pl rfl rfl rfl rfl ?_
      refine mj_T.if0 (a := 0) rfl ⟨by decide, by decide⟩ (fun hc => ?_) (fun hc => ?_)
      · refine mj_T.pl rfl rfl rfl rfl ?_
        exact mj_T.ret rfl rfl rfl (hend _ (Or.inr ⟨x, c, o2, h1, ⟨(Option.some.inj hr).symm, c2, c3, c4⟩, hs1, rfl⟩))
      · simp [jc] at hc
  constructor
  · refine mj_T.pl rfl rfl rfl rfl ?_
    refine mj_T.call (ins := .invokevirtual 357) rfl rfl (Nat.le_of_ble_eq_true rfl) (Nat.le_of_ble_eq_true rfl) (by simp [mj_recv, rS_f hs]) rfl (ih1 a h res0 ha hres0 hs) (fun v' h1 hq' => ?_) (fun i h' hq' => by rcases hq' with ⟨_, _, _, _, h⟩ | ⟨_, _, _, _, _, _, h⟩ <;> cases h)
    obtain ⟨z, hz, k⟩ := t12 h1 v' hq'
    subst hz
    refine mj_T.pl rfl rfl rfl rfl ?_
    exact k
  · refine mj_T.pl rfl rfl rfl rfl ?_
    refine mj_T.call (ins := .invokevirtual 357) rfl rfl (Nat.le_of_ble_eq_true rfl) (Nat.le_of_ble_eq_true rfl) (by simp [mj_recv, rS_f hs]) rfl (ih1 a h res0 ha hres0 hs) (fun v' h1 hq' => ?_) (fun i h' hq' => by rcases hq' with ⟨_, _, _, _, h⟩ | ⟨_, _, _, _, _, _, h⟩ <;> cases h)
    obtain ⟨z, hz, k⟩ := t12 h1 v' hq'
    subst hz
    iterate 2 refine mj_T.pl rfl rfl rfl rfl ?_
    exact k
/-- what the four methods do with so much fuel -/
def rdAll (S N B T X V : Nat → Int) (tm : Nat) (er : Int) (f : Nat) : Prop := ∀ d, d ≤ 8 → 
  (∀ (a : Nat) (h : mj_H) (res : Bool × Nat), a ≤ tm → rpr0 T tm f 0 d a = some res → rS (st3 S (a : Int) (8 - (d : Int)) er) N B T X V h → mj_Ok (4 * d + 5) 296 [.ref 0] h (rdPost S N B T X V tm er a d res)) ∧
  (∀ (a : Nat) (h : mj_H) (res : Bool × Nat) (l1 : Option Value) (Q : mj_R → Prop), a ≤ tm → rpr0 T tm f 1 d a = some res → rS (st3 S (a : Int) (8 - (d : Int)) er) N B T X V h → (∀ r, rdPost S N B T X V tm er a d res r → Q r) → mj_T (4 * d + 5) mj_m294 0 [some (.ref 0), l1] [] h Q ∧ mj_T (4 * d + 5) mj_m294 18 [some (.ref 0), l1] [] h Q) ∧
  (∀ (a : Nat) (h : mj_H) (res : Bool × Nat) (z1 : Int) (l2 : Option Value) (Q : mj_R → Prop), a ≤ tm → rpr0 T tm f 2 d a = some res → rS (st3 S (a : Int) (8 - (d : Int)) er) N B T X V h → (∀ r, rdPost S N B T X V tm er a d res r → Q r) → mj_T (4 * d + 6) mj_m293 7 [some (.ref 0), some (.int (jn z1)), l2] [] h Q ∧ mj_T (4 * d + 6) mj_m293 34 [some (.ref 0), some (.int (jn z1)), l2] [] h Q) ∧
  (∀ (a : Nat) (h : mj_H) (res : Bool × Nat), a ≤ tm → rpr0 T tm f 3 d a = some res → rS (st3 S (a : Int) (8 - (d : Int)) er) N B T X V h → mj_Ok (4 * d + 7) 293 [.ref 0] h (rdPost S N B T X V tm er a d res))
theorem rd_all (h9 : S 9 = (tm : Int)) (ht : tm ≤ 200) (hT : ∀ j : Nat, j < tm → 1 ≤ T j ∧ T j ≤ 255) : ∀ f, rdAll S N B T X V tm er f
  | 0 => fun d hd => ⟨fun a h res _ hr => (by cases hr), fun a h res l1 Q _ hr => (by cases hr), fun a h res z1 l2 Q _ hr => (by cases hr), fun a h res _ hr => (by cases hr)⟩
  | f + 1 => fun d hd => by
    have IH := rd_all h9 ht hT f
    obtain ⟨i0, i1, i2, i3⟩ := IH d hd
    refine ⟨fun a h res ha hr hs => ?_, fun a h res l1 Q ha hr hs hend => ?_, fun a h res z1 l2 Q ha hr hs hend => ?_, fun a h res ha hr hs => ?_⟩
    · exact rd_power_step h9 ht hT hd ha hr hs (fun d2 a2 h2 res2 hd2 ha2 hr2 hs2 => (IH d2 (by omega)).2.2.2 a2 h2 res2 ha2 hr2 hs2)
    · exact rd_prod_step h9 ht hT hd i0 (fun a2 h2 res2 l2 Q2 ha2 hr2 hs2 he2 => (i1 a2 h2 res2 l2 Q2 ha2 hr2 hs2 he2).2) a h res l1 Q ha hr hs hend
    · refine rd_sum_step h9 ht hT hd (fun a2 h2 res2 ha2 hr2 hs2 => ?_) (fun a2 h2 res2 z2 l3 Q2 ha2 hr2 hs2 he2 => (i2 a2 h2 res2 z2 l3 Q2 ha2 hr2 hs2 he2).2) a h res z1 l2 Q ha hr hs hend
      refine mj_Ok.of (M := mj_m294) rfl rfl rfl ?_
      exact (i1 a2 h2 res2 none _ ha2 hr2 hs2 (fun r k => k)).1
    · refine mj_Ok.of (M := mj_m293) rfl rfl rfl ?_
      unfold rpr0 at hr
      have hle := rskp_le (T := T) ha
      have hge := rskp_ge (T := T) (tm := tm) a
      iterate 2 refine mj_T.pl rfl rfl rfl rfl ?_
      refine mj_T.call (ins := .invokevirtual 354) rfl rfl (Nat.le_of_ble_eq_true rfl) (Nat.le_of_ble_eq_true rfl) (by simp [mj_recv, rS_f hs]) rfl (mj_Ok.up (by omega) (rd_takes (D := 0) (c := 45) ⟨by decide, by decide⟩ h9 ht hT (by assumption) hs)) (fun v' h1 hq' => ?_) (fun i h' hq' => by rcases hq' with ⟨_, _, _, _, h⟩ | ⟨_, _, _, h⟩ <;> cases h)
      rcases hq' with ⟨b, _, ⟨b1, b2, b3⟩, hs1, hq'⟩ | ⟨_, b1, hs1, hq'⟩
      · cases hq'
        simp only [b1] at hr
        refine mj_T.pl rfl rfl rfl rfl ?_
        exact (i2 b h1 res 1 none _ b2 hr hs1 (fun r k => k.le (by omega))).1
      · cases hq'
        simp only [b1] at hr
        refine mj_T.pl rfl rfl rfl rfl ?_
        exact (i2 _ h1 res 0 none _ hle hr hs1 (fun r k => k.le (by omega))).1
end RPQ
/-! The reading ends: so much fuel is enough. -/
section RFU
variable {T : Nat → Int} {tm : Nat}
theorem rtk_bd {c : Int} {a b : Nat} (h : rtk T tm c a = some b) : a < b ∧ b ≤ tm := by
  unfold rtk at h
  split at h
  · rename_i q
    have := rskp_ge (T := T) (tm := tm) a
    cases h
    omega
  · cases h
theorem rnm_bd {most : Int} {a : Nat} (ha : a ≤ tm) {z : Bool × Nat} (h : rnm T tm most a = z) (hz : z.1 = true) : a < z.2 ∧ z.2 ≤ tm := by
  have h1 := rskp_ge (T := T) (tm := tm) a
  have h2 := rskp_le (T := T) ha
  have h3 := rdg_le (T := T) (tm - rskp T tm a) (rskp T tm a)
  have h3 : rdgp T tm (rskp T tm a) ≤ rskp T tm a + (tm - rskp T tm a) := h3
  unfold rnm at h
  split at h
  · rename_i q
    subst h
    show a < rdgp T tm (rskp T tm a) ∧ rdgp T tm (rskp T tm a) ≤ tm
    have q1 := q.1.1
    omega
  · subst h
    cases hz
theorem rex_bd {a : Nat} (ha : a ≤ tm) (hz : (rex T tm a).1 = true) : a ≤ (rex T tm a).2 ∧ (rex T tm a).2 ≤ tm := by
  unfold rex at hz ⊢
  rcases hx : rtk T tm 94 a with _ | c
  · exact ⟨rskp_ge a, rskp_le ha⟩
  · rw [hx] at hz
    have h1 := rtk_bd hx
    have h2 := rnm_bd (T := T) h1.2 rfl hz
    exact ⟨by show a ≤ (rnm T tm 12 c).2; omega, h2.2⟩
def rok (tm a : Nat) (z : Option (Bool × Nat)) : Prop := ∃ r, z = some r ∧ (r.1 = true → a < r.2 ∧ r.2 ≤ tm)
abbrev rPd (tm d : Nat) : Nat := 1 + d * (2 * tm + 8)
theorem rok_power {f d a : Nat} (ha : a ≤ tm) (ih : ∀ d2 a2, d = d2 + 1 → a2 ≤ tm → rok tm a2 (rpr0 T tm f 3 d2 a2)) : rok tm a (rpr0 T tm (f + 1) 0 d a) := by
  unfold rpr0
  have hge := rskp_ge (T := T) (tm := tm) a
  have hle := rskp_le (T := T) ha
  split
  · rename_i q
    refine ⟨_, rfl, fun hz => ?_⟩
    have := rex_bd (T := T) (tm := tm) (a := rskp T tm a + 1) (by omega) hz
    omega
  · split
    · rename_i q1 q2
      split
      · exact ⟨_, rfl, fun hz => by cases hz⟩
      · rename_i q3
        obtain ⟨r, hr, hb⟩ := ih (d - 1) (rskp T tm a + 1) (by omega) (by omega)
        rw [hr]
        obtain ⟨b1, b2⟩ := r
        cases b1 with
        | false => exact ⟨_, rfl, fun hz => by cases hz⟩
        | true =>
          have hb := hb rfl
          rcases hx : rtk T tm 41 b2 with _ | e
          · exact ⟨(false, rskp T tm b2), by simp only [hx], fun hz => by cases hz⟩
          · have h1 := rtk_bd hx
            refine ⟨rex T tm e, by simp only [hx], fun hz => ?_⟩
            have := rex_bd (T := T) h1.2 hz
            have hb1 : rskp T tm a + 1 < b2 := hb.1
            omega
    · rcases hx : rnm T tm 9223372036854775807 (rskp T tm a) with ⟨b1, b2⟩
      cases b1 with
      | false => exact ⟨_, rfl, fun hz => by cases hz⟩
      | true =>
        have h1 : rskp T tm a < b2 ∧ b2 ≤ tm := rnm_bd (T := T) hle hx rfl
        refine ⟨rex T tm b2, rfl, fun hz => ?_⟩
        have := rex_bd (T := T) h1.2 hz
        omega
theorem rok_prod {d : Nat} (ih : ∀ f a, a ≤ tm → rPd tm d ≤ f → rok tm a (rpr0 T tm f 0 d a)) : ∀ n a f, a + n = tm → rPd tm d + n + 1 ≤ f → rok tm a (rpr0 T tm f 1 d a) := by
  intro n
  induction n using Nat.strongRecOn with
  | _ n ihn =>
    intro a f ha hf
    obtain ⟨f, rfl⟩ : ∃ g, f = g + 1 := ⟨f - 1, by omega⟩
    unfold rpr0
    obtain ⟨r, hr, hb⟩ := ih f a (by omega) (by omega)
    rw [hr]
    obtain ⟨b1, b2⟩ := r
    cases b1 with
    | false => exact ⟨_, rfl, fun hz => by cases hz⟩
    | true =>
      have hb : a < b2 ∧ b2 ≤ tm := hb rfl
      rcases hx : rtk T tm 42 b2 with _ | e
      · have h1 := rskp_ge (T := T) (tm := tm) b2
        have h2 := rskp_le (T := T) hb.2
        exact ⟨(true, rskp T tm b2), by simp only [hx], fun _ => ⟨by show a < rskp T tm b2; omega, h2⟩⟩
      · have h1 := rtk_bd hx
        obtain ⟨r2, hr2, hb2⟩ := ihn (tm - e) (by omega) e f (by omega) (by omega)
        exact ⟨r2, by simp only [hx]; exact hr2, fun hz => by have := hb2 hz; omega⟩
theorem rok_sum {d : Nat} (ih : ∀ a f, a ≤ tm → rPd tm d + tm + 1 ≤ f → rok tm a (rpr0 T tm f 1 d a)) : ∀ n a f, a + n = tm → rPd tm d + tm + n + 2 ≤ f → rok tm a (rpr0 T tm f 2 d a) := by
  intro n
  induction n using Nat.strongRecOn with
  | _ n ihn =>
    intro a f ha hf
    obtain ⟨f, rfl⟩ : ∃ g, f = g + 1 := ⟨f - 1, by omega⟩
    unfold rpr0
    obtain ⟨r, hr, hb⟩ := ih a f (by omega) (by omega)
    rw [hr]
    obtain ⟨b1, b2⟩ := r
    cases b1 with
    | false => exact ⟨_, rfl, fun hz => by cases hz⟩
    | true =>
      have hb : a < b2 ∧ b2 ≤ tm := hb rfl
      have h1 := rskp_ge (T := T) (tm := tm) b2
      have h2 := rskp_le (T := T) hb.2
      rcases hx : rtk T tm 43 b2 with _ | e
      · rcases hy : rtk T tm 45 (rskp T tm b2) with _ | e
        · exact ⟨(true, rskp T tm b2), by simp only [hx, hy], fun _ => ⟨by show a < rskp T tm b2; omega, h2⟩⟩
        · have h3 := rtk_bd hy
          obtain ⟨r2, hr2, hb2⟩ := ihn (tm - e) (by omega) e f (by omega) (by omega)
          exact ⟨r2, by simp only [hx, hy]; exact hr2, fun hz => by have := hb2 hz; omega⟩
      · have h3 := rtk_bd hx
        obtain ⟨r2, hr2, hb2⟩ := ihn (tm - e) (by omega) e f (by omega) (by omega)
        exact ⟨r2, by simp only [hx]; exact hr2, fun hz => by have := hb2 hz; omega⟩
theorem rok_all : ∀ d, (∀ f a, a ≤ tm → rPd tm d ≤ f → rok tm a (rpr0 T tm f 0 d a)) ∧ (∀ f a, a ≤ tm → rPd tm d + 2 * tm + 3 ≤ f → rok tm a (rpr0 T tm f 3 d a)) := by
  intro d
  induction d with
  | zero =>
    have hP0 : rPd tm 0 = 1 := by
      show 1 + 0 * (2 * tm + 8) = 1
      omega
    have h0 : ∀ f a, a ≤ tm → rPd tm 0 ≤ f → rok tm a (rpr0 T tm f 0 0 a) := fun f a ha hf => by
      obtain ⟨f, rfl⟩ : ∃ g, f = g + 1 := ⟨f - 1, by omega⟩
      exact rok_power ha (fun d2 a2 e => absurd e (by omega))
    refine ⟨h0, fun f a ha hf => ?_⟩
    have h1 := rok_prod (T := T) h0
    have h2 := rok_sum (T := T) (d := 0) (fun a f ha hf => h1 (tm - a) a f (by omega) (by omega))
    obtain ⟨f, rfl⟩ : ∃ g, f = g + 1 := ⟨f - 1, by omega⟩
    unfold rpr0
    rcases hx : rtk T tm 45 a with _ | e
    · have g1 := rskp_ge (T := T) (tm := tm) a
      have g2 := rskp_le (T := T) ha
      obtain ⟨r2, hr2, hb2⟩ := h2 (tm - rskp T tm a) (rskp T tm a) f (by omega) (by omega)
      exact ⟨r2, hr2, fun hz => by have := hb2 hz; omega⟩
    · have g1 := rtk_bd hx
      obtain ⟨r2, hr2, hb2⟩ := h2 (tm - e) e f (by omega) (by omega)
      exact ⟨r2, hr2, fun hz => by have := hb2 hz; omega⟩
  | succ d ih =>
    have hP : rPd tm (d + 1) = rPd tm d + (2 * tm + 8) := by
      show 1 + (d + 1) * (2 * tm + 8) = 1 + d * (2 * tm + 8) + (2 * tm + 8)
      rw [Nat.succ_mul]
      omega
    have h0 : ∀ f a, a ≤ tm → rPd tm (d + 1) ≤ f → rok tm a (rpr0 T tm f 0 (d + 1) a) := fun f a ha hf => by
      obtain ⟨f, rfl⟩ : ∃ g, f = g + 1 := ⟨f - 1, by omega⟩
      exact rok_power ha (fun d2 a2 e ha2 => by
        have e2 : d2 = d := by omega
        subst e2
        exact ih.2 f a2 ha2 (by omega))
    refine ⟨h0, fun f a ha hf => ?_⟩
    have h1 := rok_prod (T := T) h0
    have h2 := rok_sum (T := T) (d := d + 1) (fun a f ha hf => h1 (tm - a) a f (by omega) (by omega))
    obtain ⟨f, rfl⟩ : ∃ g, f = g + 1 := ⟨f - 1, by omega⟩
    unfold rpr0
    rcases hx : rtk T tm 45 a with _ | e
    · have g1 := rskp_ge (T := T) (tm := tm) a
      have g2 := rskp_le (T := T) ha
      obtain ⟨r2, hr2, hb2⟩ := h2 (tm - rskp T tm a) (rskp T tm a) f (by omega) (by omega)
      exact ⟨r2, hr2, fun hz => by have := hb2 hz; omega⟩
    · have g1 := rtk_bd hx
      obtain ⟨r2, hr2, hb2⟩ := h2 (tm - e) e f (by omega) (by omega)
      exact ⟨r2, hr2, fun hz => by have := hb2 hz; omega⟩
end RFU
/-- the whole reading: whether the text is a sum up to where, or where the error is -/
def rdF (tm : Nat) : Nat := rPd tm 8 + 2 * tm + 3
def rdR (T : Nat → Int) (tm : Nat) : Bool × Nat := (rpr0 T tm (rdF tm) 3 8 0).getD (false, 0)
theorem rdR_eq (T : Nat → Int) (tm : Nat) : rpr0 T tm (rdF tm) 3 8 0 = some (rdR T tm) ∧ ((rdR T tm).1 = true → (rdR T tm).2 ≤ tm) := by
  obtain ⟨r, h1, h2⟩ := (rok_all (T := T) (tm := tm) 8).2 (rdF tm) 0 (Nat.zero_le _) (Nat.le_refl _)
  unfold rdR
  rw [h1]
  exact ⟨rfl, fun hz => (h2 hz).2⟩
/-- the error's place of a text, -1 if there is none -/
def rdErr (T : Nat → Int) (tm : Nat) : Int := if (rdR T tm).1 = true then (if rskp T tm (rdR T tm).2 = tm then -1 else ((rskp T tm (rdR T tm).2 : Nat) : Int)) else (((rdR T tm).2 : Nat) : Int)
/-! The reference works a text out. -/
theorem w9 {S : Nat → Int} {y : Int} {tm : Nat} (h9 : S 9 = (tm : Int)) : jvu S 13 y 9 = (tm : Int) := by rw [jvu_ne _ _ _ (by decide), h9]
theorem st3_13 (S : Nat → Int) (a o e y z : Int) : jvu (st3 (jvu S 13 y) a o e) 13 z = st3 (jvu S 13 z) a o e := funext fun x => by
  unfold st3 jvu
  (repeat' split) <;> omega
theorem st3_g13 {S : Nat → Int} {a o e y : Int} : (rF (st3 (jvu S 13 y) a o e))[13]? = some (.int (jn y)) := rfl
def wkPost (S N B T X V0 : Nat → Int) (tm : Nat) (o e : Int) (p b : Nat) (r : mj_R) : Prop := ∃ (V2 : Nat → Int) (a2 : Nat) (y : Int) (h2 : mj_H), rS (st3 (jvu S 13 y) (a2 : Int) o e) N B T X V2 h2 ∧ a2 ≤ tm ∧ (∀ s, 299 ≤ s → s < p * 13 → V2 s = V0 s) ∧ ((y = 0 ∧ a2 = b ∧ (∀ x, x < 13 → (V2 (p * 13 + x)).natAbs ≤ 10 ^ 18)) ∨ y = 1) ∧ r = (.inl none, h2)
section RWK
variable {S N B T X V : Nat → Int} {h : mj_H} {D tm : Nat} {o e : Int}
theorem wk_bounds {a p : Nat} (hp : p ≤ 50) (hs : rS (st3 (jvu S 13 0) (a : Int) o e) N B T X V h) : mj_Ok (D + 3) 297 [.ref 0, .int (jn (p : Nat))] h (fun r => ∃ (y : Int) (h2 : mj_H), rS (st3 (jvu S 13 y) (a : Int) o e) N B T X V h2 ∧ ((y = 0 ∧ (∀ x, x < 13 → (V (p * 13 + x)).natAbs ≤ 10 ^ 18)) ∨ y = 1) ∧ r = (.inl none, h2)) := by
  refine mj_Ok.of (M := mj_m297) rfl rfl rfl ?_
  iterate 2 refine mj_T.pl rfl rfl rfl rfl ?_
  refine rT_get hs rfl st3_g13 ?_
  refine mj_T.if0 (a := 0) rfl ⟨by decide, by decide⟩ (fun hc => ?_) (fun hc => ?_)
  · simp [jc] at hc
  iterate 2 refine mj_T.pl rfl rfl rfl rfl ?_
  refine mj_T.call (ins := .invokevirtual 195) rfl rfl (Nat.le_of_ble_eq_true rfl) (Nat.le_of_ble_eq_true rfl) (by simp [mj_recv, rS_f hs]) rfl (mj_Ok.up (by omega) (jp_isInBounds (D := 0) (rG (st3 (jvu S 13 0) (a : Int) o e) N B T X) (p := p) hp (fun x hx => jS_700 hs (by omega)) hs)) (fun v' h' hq' => ?_) (fun i h' hq' => by cases hq')
  cases hq'
  have hb := jib_le V p 13
  refine mj_T.if0 (a := ((jib V p 13 : Nat) : Int)) rfl ⟨by omega, by omega⟩ (fun hc => ?_) (fun hc => ?_)
  · simp only [jc, Bool.not_eq_true', decide_eq_false_iff_not] at hc
    have hsh := jib_short (V := V) (p := p) (by omega)
    refine mj_T.pl rfl rfl rfl rfl ?_
    refine rT_put (v := 0) hs rfl rfl (by decide) rfl (fun h1 hs1 => ?_)
    rw [st3_13] at hs1
    exact mj_T.ret rfl rfl rfl ⟨0, h1, hs1, Or.inl ⟨rfl, fun x hx => jR_of_short (hsh x hx)⟩, rfl⟩
  · iterate 2 refine mj_T.pl rfl rfl rfl rfl ?_
    refine rT_put (v := 1) hs rfl rfl (by decide) rfl (fun h1 hs1 => ?_)
    rw [st3_13] at hs1
    exact mj_T.ret rfl rfl rfl ⟨1, h1, hs1, Or.inr rfl, rfl⟩
theorem wk_num_loop (h9 : S 9 = (tm : Int)) (ht : tm ≤ 200) (hT : ∀ j : Nat, j < tm → 1 ≤ T j ∧ T j ≤ 255) {s : Nat} {Q : mj_R → Prop} :
    ∀ (n k : Nat) (h : mj_H), s + k + n = tm → rS (st3 (jvu S 13 0) ((s + k : Nat) : Int) o e) N B T X V h → (∀ (k2 : Nat) (h2 : mj_H), s + k2 = rdg T n (s + k) → rS (st3 (jvu S 13 0) ((s + k2 : Nat) : Int) o e) N B T X V h2 → Q (.inl (some (.long (jl (rvl T s k2)))), h2)) → mj_T (D + 1) mj_m298 6 [some (.ref 0), some (.long (jl (rvl T s k))), none] [] h Q := by
  intro n
  induction n with
  | zero =>
    intro k h hk hs hend
    refine mj_T.pl rfl rfl rfl rfl ?_
    refine rT_get hs rfl st3_g10 ?_
    refine mj_T.pl rfl rfl rfl rfl ?_
    refine rT_get hs rfl (st3_g9 (w9 h9)) ?_
    refine mj_T.icmp (a := ((s + k : Nat) : Int)) (b := (tm : Int)) rfl ⟨by omega, by omega⟩ ⟨by omega, by omega⟩ (fun hc => ?_) (fun hc => ?_)
    · refine mj_T.pl rfl rfl rfl rfl ?_
      exact mj_T.ret rfl rfl rfl (hend k h rfl hs)
    · simp only [jc, decide_eq_false_iff_not] at hc
      omega
  | succ n ih =>
    intro k h hk hs hend
    have hTa := hT (s + k) (by omega)
    refine mj_T.pl rfl rfl rfl rfl ?_
    refine rT_get hs rfl st3_g10 ?_
    refine mj_T.pl rfl rfl rfl rfl ?_
    refine rT_get hs rfl (st3_g9 (w9 h9)) ?_
    refine mj_T.icmp (a := ((s + k : Nat) : Int)) (b := (tm : Int)) rfl ⟨by omega, by omega⟩ ⟨by omega, by omega⟩ (fun hc => ?_) (fun hc => ?_)
    · simp only [jc, decide_eq_true_eq] at hc
      omega
    refine mj_T.pl rfl rfl rfl rfl ?_
    refine rT_get hs rfl rfl ?_
    refine mj_T.pl rfl rfl rfl rfl ?_
    refine rT_get hs rfl st3_g10 ?_
    refine rT_ldT hs rfl ⟨by omega, by omega⟩ ?_
    rw [Int.toNat_natCast]
    refine mj_T.call (ins := .invokestatic 363) rfl rfl (Nat.le_of_ble_eq_true rfl) (Nat.le_of_ble_eq_true rfl) rfl rfl (mj_Ok.up (by omega) (rd_isDigit (D := 0) (v := T (s + k)) ⟨by omega, by omega⟩)) (fun v' h' hq' => ?_) (fun i h' hq' => by rcases hq' with ⟨_, h⟩ | ⟨_, h⟩ <;> cases h)
    rcases hq' with ⟨hd, hq'⟩ | ⟨hd, hq'⟩
    · cases hq'
      rw [show rdg T (n + 1) (s + k) = rdg T n (s + k + 1) from if_pos hd] at hend
      refine mj_T.if0 (a := 1) rfl ⟨by decide, by decide⟩ (fun hc2 => ?_) (fun hc2 => ?_)
      · simp [jc] at hc2
      iterate 2 refine mj_T.pl rfl rfl rfl rfl ?_
      refine mj_T.lmul (a := 10) rfl ?_
      refine mj_T.pl rfl rfl rfl rfl ?_
      refine rT_get hs rfl rfl ?_
      refine mj_T.pl rfl rfl rfl rfl ?_
      refine rT_get hs rfl st3_g10 ?_
      refine rT_ldT hs rfl ⟨by omega, by omega⟩ ?_
      rw [Int.toNat_natCast]
      refine mj_T.i2l rfl ⟨by omega, by omega⟩ ?_
      refine mj_T.ladd rfl ?_
      refine mj_T.pl rfl rfl rfl rfl ?_
      refine mj_T.lsub (b := 48) rfl ?_
      refine mj_T.pl rfl rfl rfl rfl ?_
      iterate 2 refine mj_T.pl rfl rfl rfl rfl ?_
      refine rT_get hs rfl st3_g10 ?_
      refine mj_T.pl rfl rfl rfl rfl ?_
      refine mj_T.iadd (a := ((s + k : Nat) : Int)) (b := 1) rfl ?_
      rw [show ((s + k : Nat) : Int) + 1 = ((s + (k + 1) : Nat) : Int) by omega]
      refine rT_put (v := ((s + (k + 1) : Nat) : Int)) hs rfl rfl (by decide) rfl (fun h1 hs1 => ?_)
      rw [st3_10] at hs1
      refine mj_T.pl rfl rfl rfl rfl ?_
      exact ih (k + 1) h1 (by omega) hs1 hend
    · cases hq'
      rw [show rdg T (n + 1) (s + k) = s + k from if_neg hd] at hend
      refine mj_T.if0 (a := 0) rfl ⟨by decide, by decide⟩ (fun hc2 => ?_) (fun hc2 => ?_)
      · refine mj_T.pl rfl rfl rfl rfl ?_
        exact mj_T.ret rfl rfl rfl (hend k h rfl hs)
      · simp [jc] at hc2
theorem wk_number (h9 : S 9 = (tm : Int)) (ht : tm ≤ 200) (hT : ∀ j : Nat, j < tm → 1 ≤ T j ∧ T j ≤ 255) {a : Nat} (ha : a ≤ tm) (hs : rS (st3 (jvu S 13 0) (a : Int) o e) N B T X V h) : mj_Ok (D + 2) 298 [.ref 0] h (fun r => ∃ (k : Nat) (h2 : mj_H), (rskp T tm a + k = rdgp T tm (rskp T tm a) ∧ rskp T tm a + k ≤ tm) ∧ rS (st3 (jvu S 13 0) ((rskp T tm a + k : Nat) : Int) o e) N B T X V h2 ∧ r = (.inl (some (.long (jl (rvl T (rskp T tm a) k)))), h2)) := by
  refine mj_Ok.of (M := mj_m298) rfl rfl rfl ?_
  have hle := rskp_le (T := T) ha
  refine mj_T.pl rfl rfl rfl rfl ?_
  refine mj_T.call (ins := .invokevirtual 348) rfl rfl (Nat.le_of_ble_eq_true rfl) (Nat.le_of_ble_eq_true rfl) (by simp [mj_recv, rS_f hs]) rfl (mj_Ok.up (by omega) (rd_skips (D := 0) (S := jvu S 13 0) (w9 h9) ht hT ha hs)) (fun v' h1 hq' => ?_) (fun i h' hq' => by obtain ⟨_, _, h⟩ := hq'; cases h)
  obtain ⟨_, hs1, hq'⟩ := hq'
  cases hq'
  obtain ⟨s, hsdef⟩ : ∃ s, rskp T tm a = s := ⟨_, rfl⟩
  rw [hsdef] at hs1 hle ⊢
  iterate 2 refine mj_T.pl rfl rfl rfl rfl ?_
  refine wk_num_loop (D := D) h9 ht hT (tm - s) 0 h1 (by omega) hs1 (fun k h2 hk hs2 => ?_)
  have hdl := rdg_le (T := T) (tm - s) (s + 0)
  exact ⟨k, h2, ⟨hk, by omega⟩, hs2, rfl⟩
theorem wk_tail (h9 : S 9 = (tm : Int)) (ht : tm ≤ 200) (hT : ∀ j : Nat, j < tm → 1 ≤ T j ∧ T j ≤ 255) {E c p b : Nat} {l2 : Option Value} (hE : 8 ≤ E) (hp1 : 23 ≤ p) (hp2 : p ≤ 49) (hc : c ≤ tm) (hr : rex T tm c = (true, b)) {V0 : Nat → Int} (hfr : ∀ s, 299 ≤ s → s < p * 13 → V s = V0 s) (hb : (∀ x, x < 13 → (V (p * 13 + x)).natAbs ≤ 10 ^ 18)) (hs : rS (st3 (jvu S 13 0) (c : Int) o e) N B T X V h) : mj_T E mj_m301 121 [some (.ref 0), some (.int (jn (p : Nat))), l2] [] h (wkPost S N B T X V0 tm o e p b) := by
  have hle := rskp_le (T := T) hc
  iterate 2 refine mj_T.pl rfl rfl rfl rfl ?_
  refine mj_T.call (ins := .invokevirtual 354) rfl rfl (Nat.le_of_ble_eq_true rfl) (Nat.le_of_ble_eq_true rfl) (by simp [mj_recv, rS_f hs]) rfl (mj_Ok.up (by omega) (rd_takes (D := 0) (S := jvu S 13 0) (c := 94) ⟨by decide, by decide⟩ (w9 h9) ht hT hc hs)) (fun v' h1 hq' => ?_) (fun i h' hq' => by rcases hq' with ⟨_, _, _, _, h⟩ | ⟨_, _, _, h⟩ <;> cases h)
  rcases hq' with ⟨c2, _, ⟨b1, b2, b3⟩, hs1, hq'⟩ | ⟨_, b1, hs1, hq'⟩
  rotate_left
  · cases hq'
    have ee : b = rskp T tm c := by
      unfold rex at hr
      simp only [b1] at hr
      cases hr
      rfl
    refine mj_T.if0 (a := 0) rfl ⟨by decide, by decide⟩ (fun hc => ?_) (fun hc => ?_)
    · simp [jc] at hc
    exact mj_T.ret rfl rfl rfl ⟨V, _, 0, h1, hs1, hle, hfr, Or.inl ⟨rfl, ee.symm, hb⟩, rfl⟩
  cases hq'
  have hnm : rnm T tm 12 c2 = (true, b) := by
    unfold rex at hr
    simp only [b1] at hr
    exact hr
  refine mj_T.if0 (a := 1) rfl ⟨by decide, by decide⟩ (fun hc => ?_) (fun hc => ?_)
  rotate_left
  · simp [jc] at hc
  iterate 3 refine mj_T.pl rfl rfl rfl rfl ?_
  refine mj_T.call (ins := .invokevirtual 124) rfl rfl (Nat.le_of_ble_eq_true rfl) (Nat.le_of_ble_eq_true rfl) (by simp [mj_recv, rS_f hs1]) rfl (mj_Ok.up (by omega) (jp_copiesPoly (D := 0) (rG (st3 (jvu S 13 0) (c2 : Int) o e) N B T X) (p := 0) (q := p) (by decide) (by omega) (by omega) hs1)) (fun v' h2 hq' => ?_) (fun i h' hq' => by obtain ⟨_, _, h⟩ := hq'; cases h)
  obtain ⟨_, hs2, hq'⟩ := hq'
  cases hq'
  have q1 : ∀ x, x < 13 → jfl V 0 (fun x => V (p * 13 + x)) 13 (0 * 13 + x) = V (p * 13 + x) := fun x hx => jfl_at _ 0 _ hx
  have q2 : ∀ s, 13 ≤ s → jfl V 0 (fun x => V (p * 13 + x)) 13 s = V s := fun s hx => jfl_off _ 0 _ (by omega)
  generalize jfl V 0 (fun x => V (p * 13 + x)) 13 = W2 at hs2 q1 q2
  iterate 5 refine mj_T.pl rfl rfl rfl rfl ?_
  refine mj_T.call (ins := .invokevirtual 389) rfl rfl (Nat.le_of_ble_eq_true rfl) (Nat.le_of_ble_eq_true rfl) (by simp [mj_recv, rS_f hs2]) rfl (mj_Ok.up (by omega) (wk_number (D := 0) h9 ht hT b2 hs2)) (fun v' h3 hq' => ?_) (fun i h' hq' => by obtain ⟨_, _, _, _, h⟩ := hq'; cases h)
  obtain ⟨k, _, ⟨k1, k2⟩, hs3, hq'⟩ := hq'
  cases hq'
  have hin : ∀ j, rskp T tm c2 ≤ j → j < rskp T tm c2 + k → 48 ≤ T j ∧ T j ≤ 57 := fun j j1 j2 => rdg_in (T := T) (tm - rskp T tm c2) (rskp T tm c2) j j1 (by show j < rdgp T tm (rskp T tm c2); omega)
  have hbd := rvl_bd (T := T) (s := rskp T tm c2) k hin
  unfold rnm at hnm
  rw [← k1, Nat.add_sub_cancel_left] at hnm
  split at hnm
  rotate_left
  · cases hnm
  rename_i hq
  cases hnm
  obtain ⟨n, hn⟩ := Int.eq_ofNat_of_zero_le hbd.1
  have hn12 : n ≤ 12 := by have := hq.2; omega
  refine mj_T.l2i rfl ?_
  rw [hn]
  refine mj_T.call (ins := .invokevirtual 229) rfl rfl (Nat.le_of_ble_eq_true rfl) (Nat.le_of_ble_eq_true rfl) (by simp [mj_recv, rS_f hs3]) rfl (mj_Ok.up (by omega) (jp_raises (D := 0) (rG (st3 (jvu S 13 0) ((rskp T tm c2 + k : Nat) : Int) o e) N B T X) (p := p) (a := 0) (al := 10 ^ 18) (n := n) (by omega) (by omega) (by decide) (by decide) (by omega) (by decide) (fun x hx => by rw [q1 x hx]; exact hb x hx) hn12 rp_small3 hs3)) (fun v' h4 hq' => ?_) (fun i h' hq' => by obtain ⟨_, _, _, _, ⟨h, _⟩ | ⟨h, _⟩⟩ := hq' <;> cases h)
  obtain ⟨W4, _, hs4, f4, ⟨hq', _⟩ | ⟨hq', _⟩⟩ := hq'
  · cases hq'
    refine mj_T.if0 (a := 0) rfl ⟨by decide, by decide⟩ (fun hc => ?_) (fun hc => ?_)
    · simp [jc] at hc
    iterate 2 refine mj_T.pl rfl rfl rfl rfl ?_
    refine rT_put (v := 1) hs4 rfl rfl (by decide) rfl (fun h5 hs5 => ?_)
    rw [st3_13] at hs5
    refine mj_T.pl rfl rfl rfl rfl ?_
    refine rT_get hs5 rfl st3_g13 ?_
    refine mj_T.if0 (a := 1) rfl ⟨by decide, by decide⟩ (fun hc => ?_) (fun hc => ?_)
    · exact mj_T.ret rfl rfl rfl ⟨W4, _, 1, h5, hs5, k2, fun s s1 s2 => by rw [f4 s (by omega) (by omega) (by omega), q2 s (by omega), hfr s s1 s2], Or.inr rfl, rfl⟩
    · simp [jc] at hc
  · cases hq'
    refine mj_T.if0 (a := 1) rfl ⟨by decide, by decide⟩ (fun hc => ?_) (fun hc => ?_)
    rotate_left
    · simp [jc] at hc
    refine mj_T.pl rfl rfl rfl rfl ?_
    refine rT_put (v := 0) hs4 rfl rfl (by decide) rfl (fun h5 hs5 => ?_)
    rw [st3_13] at hs5
    refine mj_T.pl rfl rfl rfl rfl ?_
    refine rT_get hs5 rfl st3_g13 ?_
    refine mj_T.if0 (a := 0) rfl ⟨by decide, by decide⟩ (fun hc => ?_) (fun hc => ?_)
    · simp [jc] at hc
    iterate 2 refine mj_T.pl rfl rfl rfl rfl ?_
    refine mj_T.call (ins := .invokevirtual 383) rfl rfl (Nat.le_of_ble_eq_true rfl) (Nat.le_of_ble_eq_true rfl) (by simp [mj_recv, rS_f hs5]) rfl (mj_Ok.up (by omega) (wk_bounds (D := 0) (p := p) (by omega) hs5)) (fun v' h6 hq' => ?_) (fun i h' hq' => by obtain ⟨_, _, _, _, h⟩ := hq'; cases h)
    obtain ⟨y, _, hs6, hy, hq'⟩ := hq'
    cases hq'
    exact mj_T.ret rfl rfl rfl ⟨W4, _, y, h6, hs6, k2, fun s s1 s2 => by rw [f4 s (by omega) (by omega) (by omega), q2 s (by omega), hfr s s1 s2], by rcases hy with ⟨y1, y2⟩ | y1; exact Or.inl ⟨y1, rfl, y2⟩; exact Or.inr y1, rfl⟩
end RWK
/-! The reference works a text out, whole. -/
section RWW
variable {S N B T X V : Nat → Int} {h : mj_H} {tm : Nat} {o e : Int}
theorem wk_power_step (h9 : S 9 = (tm : Int)) (ht : tm ≤ 200) (hT : ∀ j : Nat, j < tm → 1 ≤ T j ∧ T j ≤ 255) {f d a p b : Nat} (hp1 : 23 ≤ p) (hp2 : p + 3 * d ≤ 49) (ha : a ≤ tm) (hr : rpr0 T tm (f + 1) 0 d a = some (true, b)) (hs : rS (st3 (jvu S 13 0) (a : Int) o e) N B T X V h)
    (ih : ∀ (d2 a2 p2 b2 : Nat) (V : Nat → Int) (h : mj_H), d = d2 + 1 → 23 ≤ p2 → p2 + 2 + 3 * d2 ≤ 49 → a2 ≤ tm → rpr0 T tm f 3 d2 a2 = some (true, b2) → rS (st3 (jvu S 13 0) (a2 : Int) o e) N B T X V h → mj_Ok (4 * d2 + 14) 299 [.ref 0, .int (jn (p2 : Nat))] h (wkPost S N B T X V tm o e p2 b2)) : mj_Ok (4 * d + 12) 301 [.ref 0, .int (jn (p : Nat))] h (wkPost S N B T X V tm o e p b) := by
  refine mj_Ok.of (M := mj_m301) rfl rfl rfl ?_
  have hle := rskp_le (T := T) ha
  have hge := rskp_ge (T := T) (tm := tm) a
  refine mj_T.pl rfl rfl rfl rfl ?_
  refine mj_T.call (ins := .invokevirtual 348) rfl rfl (Nat.le_of_ble_eq_true rfl) (Nat.le_of_ble_eq_true rfl) (by simp [mj_recv, rS_f hs]) rfl (mj_Ok.up (by omega) (rd_skips (D := 0) (S := jvu S 13 0) (w9 h9) ht hT ha hs)) (fun v' h1 hq' => ?_) (fun i h' hq' => by obtain ⟨_, _, h⟩ := hq'; cases h)
  obtain ⟨_, hs1, hq'⟩ := hq'
  cases hq'
  have hid := rskp_idem (T := T) ha
  unfold rpr0 at hr
  obtain ⟨s, hsdef⟩ : ∃ s, rskp T tm a = s := ⟨_, rfl⟩
  rw [hsdef] at hs1 hle hge hr hid
  have hst : s < tm := by
    by_cases q : s < tm
    · exact q
    · rw [if_neg (fun z => q z.1), if_neg (fun z => q z.1)] at hr
      rcases hx : rnm T tm 9223372036854775807 s with ⟨z1, z2⟩
      rw [hx] at hr
      cases z1 with
      | false => cases hr
      | true =>
        have := rnm_bd (T := T) hle hx rfl
        have h2 : s < z2 ∧ z2 ≤ tm := this
        omega
  have hTs := hT s hst
  refine mj_T.pl rfl rfl rfl rfl ?_
  refine rT_get hs1 rfl rfl ?_
  refine mj_T.pl rfl rfl rfl rfl ?_
  refine rT_get hs1 rfl st3_g10 ?_
  refine rT_ldT hs1 rfl ⟨by omega, by omega⟩ ?_
  rw [Int.toNat_natCast]
  refine mj_T.pl rfl rfl rfl rfl ?_
  refine mj_T.icmp (a := T s) (b := 120) rfl ⟨by omega, by omega⟩ ⟨by decide, by decide⟩ (fun hc2 => ?_) (fun hc2 => ?_)
  rotate_left
  · simp only [jc, Bool.not_eq_false', decide_eq_true_eq] at hc2
    rw [if_pos ⟨hst, hc2⟩] at hr
    iterate 2 refine mj_T.pl rfl rfl rfl rfl ?_
    refine rT_get hs1 rfl st3_g10 ?_
    refine mj_T.pl rfl rfl rfl rfl ?_
    refine mj_T.iadd (a := (s : Int)) (b := 1) rfl ?_
    rw [show (s : Int) + 1 = ((s + 1 : Nat) : Int) by omega]
    refine rT_put (v := ((s + 1 : Nat) : Int)) hs1 rfl rfl (by decide) rfl (fun h2 hs2 => ?_)
    rw [st3_10] at hs2
    iterate 2 refine mj_T.pl rfl rfl rfl rfl ?_
    refine mj_T.call (ins := .invokevirtual 110) rfl rfl (Nat.le_of_ble_eq_true rfl) (Nat.le_of_ble_eq_true rfl) (by simp [mj_recv, rS_f hs2]) rfl (mj_Ok.up (by omega) (jp_empties (D := 0) (rG (st3 (jvu S 13 0) ((s + 1 : Nat) : Int) o e) N B T X) (p := p) (by omega) hs2)) (fun v' h3 hq' => ?_) (fun i h' hq' => by obtain ⟨_, _, h⟩ := hq'; cases h)
    obtain ⟨_, hs3, hq'⟩ := hq'
    cases hq'
    have q1 : ∀ x, x < 13 → jfl V p (fun _ => 0) 13 (p * 13 + x) = 0 := fun x hx => jfl_at _ p _ hx
    have q2 : ∀ s, s < p * 13 → jfl V p (fun _ => 0) 13 s = V s := fun s hx => jfl_off _ p _ (by omega)
    generalize jfl V p (fun _ => 0) 13 = W1 at hs3 q1 q2
    iterate 3 refine mj_T.pl rfl rfl rfl rfl ?_
    refine mj_T.call (ins := .invokestatic 104) rfl rfl (Nat.le_of_ble_eq_true rfl) (Nat.le_of_ble_eq_true rfl) rfl rfl (mj_Ok.up (by omega) (jq_slot (D := 0) (p := p) (i := 1))) (fun v' h' hq' => ?_) (fun i h' hq' => by cases hq')
    cases hq'
    refine mj_T.pl rfl rfl rfl rfl ?_
    refine mj_T.call (ins := .invokevirtual 45) rfl rfl (Nat.le_of_ble_eq_true rfl) (Nat.le_of_ble_eq_true rfl) (by simp [mj_recv, rS_f hs3]) rfl (mj_Ok.up (by omega) (jS_sets (D := 0) (rG (st3 (jvu S 13 0) ((s + 1 : Nat) : Int) o e) N B T X) (s := p * 13 + 1) (v := 1) (by omega) ⟨by decide, by decide⟩ hs3)) (fun v' h4 hq' => ?_) (fun i h' hq' => by obtain ⟨_, _, h⟩ := hq'; cases h)
    obtain ⟨_, hs4, hq'⟩ := hq'
    cases hq'
    refine mj_T.pl rfl rfl rfl rfl ?_
    refine wk_tail (E := 4 * d + 11) h9 ht hT (by omega) hp1 (by omega) (by omega : s + 1 ≤ tm) (Option.some.inj hr) (fun s s1 s2 => by rw [jvu_ne _ _ _ (by omega), q2 s s2]) (fun x hx => ?_) hs4
    by_cases x1 : x = 1
    · subst x1
      rw [jvu_at]
      decide
    · rw [jvu_ne _ _ _ (by omega), q1 x hx]
      exact Nat.zero_le _
  simp only [jc, Bool.not_eq_true', decide_eq_false_iff_not] at hc2
  rw [if_neg (fun z => hc2 z.2)] at hr
  refine mj_T.pl rfl rfl rfl rfl ?_
  refine rT_get hs1 rfl rfl ?_
  refine mj_T.pl rfl rfl rfl rfl ?_
  refine rT_get hs1 rfl st3_g10 ?_
  refine rT_ldT hs1 rfl ⟨by omega, by omega⟩ ?_
  rw [Int.toNat_natCast]
  refine mj_T.pl rfl rfl rfl rfl ?_
  refine mj_T.icmp (a := T s) (b := 40) rfl ⟨by omega, by omega⟩ ⟨by decide, by decide⟩ (fun hc3 => ?_) (fun hc3 => ?_)
  · simp only [jc, Bool.not_eq_true', decide_eq_false_iff_not] at hc3
    rw [if_neg (fun z => hc3 z.2)] at hr
    rcases hx : rnm T tm 9223372036854775807 s with ⟨z1, z2⟩
    rw [hx] at hr
    cases z1 with
    | false => cases hr
    | true =>
    have hzb : s < z2 ∧ z2 ≤ tm := rnm_bd (T := T) hle hx rfl
    iterate 2 refine mj_T.pl rfl rfl rfl rfl ?_
    refine mj_T.call (ins := .invokevirtual 110) rfl rfl (Nat.le_of_ble_eq_true rfl) (Nat.le_of_ble_eq_true rfl) (by simp [mj_recv, rS_f hs1]) rfl (mj_Ok.up (by omega) (jp_empties (D := 0) (rG (st3 (jvu S 13 0) (s : Int) o e) N B T X) (p := p) (by omega) hs1)) (fun v' h3 hq' => ?_) (fun i h' hq' => by obtain ⟨_, _, h⟩ := hq'; cases h)
    obtain ⟨_, hs3, hq'⟩ := hq'
    cases hq'
    have q1 : ∀ x, x < 13 → jfl V p (fun _ => 0) 13 (p * 13 + x) = 0 := fun x hx => jfl_at _ p _ hx
    have q2 : ∀ s, s < p * 13 → jfl V p (fun _ => 0) 13 s = V s := fun s hx => jfl_off _ p _ (by omega)
    generalize jfl V p (fun _ => 0) 13 = W1 at hs3 q1 q2
    iterate 3 refine mj_T.pl rfl rfl rfl rfl ?_
    refine mj_T.call (ins := .invokestatic 104) rfl rfl (Nat.le_of_ble_eq_true rfl) (Nat.le_of_ble_eq_true rfl) rfl rfl (mj_Ok.up (by omega) (jq_slot (D := 0) (p := p) (i := 0))) (fun v' h' hq' => ?_) (fun i h' hq' => by cases hq')
    cases hq'
    refine mj_T.pl rfl rfl rfl rfl ?_
    refine mj_T.call (ins := .invokevirtual 389) rfl rfl (Nat.le_of_ble_eq_true rfl) (Nat.le_of_ble_eq_true rfl) (by simp [mj_recv, rS_f hs3]) rfl (mj_Ok.up (by omega) (wk_number (D := 0) h9 ht hT hle hs3)) (fun v' h4 hq' => ?_) (fun i h' hq' => by obtain ⟨_, _, _, _, h⟩ := hq'; cases h)
    obtain ⟨k, _, ⟨k1, k2⟩, hs4, hq'⟩ := hq'
    cases hq'
    rw [hid] at k1 k2 hs4
    have hin : ∀ j, s ≤ j → j < s + k → 48 ≤ T j ∧ T j ≤ 57 := fun j j1 j2 => rdg_in (T := T) (tm - s) s j j1 (by show j < rdgp T tm s; omega)
    have hbd := rvl_bd (T := T) (s := s) k hin
    have hz2 : z2 = s + k ∧ k ≤ 18 := by
      unfold rnm at hx
      rw [hid, ← k1, Nat.add_sub_cancel_left] at hx
      split at hx
      · rename_i q
        cases hx
        exact ⟨rfl, q.1.2⟩
      · cases hx
    have hpw : 10 ^ k ≤ 10 ^ 18 := Nat.pow_le_pow_right (by decide) hz2.2
    rw [hid]
    refine mj_T.call (ins := .invokevirtual 45) rfl rfl (Nat.le_of_ble_eq_true rfl) (Nat.le_of_ble_eq_true rfl) (by simp [mj_recv, rS_f hs4]) rfl (mj_Ok.up (by omega) (jS_sets (D := 0) (rG (st3 (jvu S 13 0) ((s + k : Nat) : Int) o e) N B T X) (s := p * 13 + 0) (v := rvl T s k) (by omega) ⟨by omega, by omega⟩ hs4)) (fun v' h5 hq' => ?_) (fun i h' hq' => by obtain ⟨_, _, h⟩ := hq'; cases h)
    obtain ⟨_, hs5, hq'⟩ := hq'
    cases hq'
    have hr2 : rex T tm z2 = (true, b) := Option.some.inj hr
    rw [hz2.1] at hr2
    refine wk_tail (E := 4 * d + 11) h9 ht hT (by omega) hp1 (by omega) k2 hr2 (fun s s1 s2 => by rw [jvu_ne _ _ _ (by omega), q2 s s2]) (fun x hx => ?_) hs5
    by_cases x1 : x = 0
    · subst x1
      rw [jvu_at]
      omega
    · rw [jvu_ne _ _ _ (by omega), q1 x hx]
      exact Nat.zero_le _
  simp only [jc, Bool.not_eq_false', decide_eq_true_eq] at hc3
  rw [if_pos ⟨hst, hc3⟩] at hr
  by_cases hd0 : d = 0
  · rw [if_pos hd0] at hr
    cases hr
  rw [if_neg hd0] at hr
  obtain ⟨d2, rfl⟩ : ∃ d2, d = d2 + 1 := ⟨d - 1, by omega⟩
  rw [Nat.add_sub_cancel] at hr
  rcases hy : rpr0 T tm f 3 d2 (s + 1) with _ | ⟨z1, z2⟩
  · rw [hy] at hr
    cases hr
  rw [hy] at hr
  cases z1 with
  | false => cases hr
  | true =>
  iterate 2 refine mj_T.pl rfl rfl rfl rfl ?_
  refine rT_get hs1 rfl st3_g10 ?_
  refine mj_T.pl rfl rfl rfl rfl ?_
  refine mj_T.iadd (a := (s : Int)) (b := 1) rfl ?_
  rw [show (s : Int) + 1 = ((s + 1 : Nat) : Int) by omega]
  refine rT_put (v := ((s + 1 : Nat) : Int)) hs1 rfl rfl (by decide) rfl (fun h2 hs2 => ?_)
  rw [st3_10] at hs2
  iterate 3 refine mj_T.pl rfl rfl rfl rfl ?_
  refine mj_T.iadd (a := (p : Int)) (b := 1) rfl ?_
  rw [show (p : Int) + 1 = ((p + 1 : Nat) : Int) by omega]
  refine mj_T.call (ins := .invokevirtual 268) rfl rfl (Nat.le_of_ble_eq_true rfl) (Nat.le_of_ble_eq_true rfl) (by simp [mj_recv, rS_f hs2]) rfl (mj_Ok.up (by omega) (ih d2 (s + 1) (p + 1) z2 V h2 rfl (by omega) (by omega) (by omega) hy hs2)) (fun v' h3 hq' => ?_) (fun i h' hq' => by obtain ⟨_, _, _, _, _, _, _, _, h⟩ := hq'; cases h)
  obtain ⟨V3, c3, y3, _, hs3, hc3l, hf3, hy3, hq'⟩ := hq'
  cases hq'
  refine mj_T.pl rfl rfl rfl rfl ?_
  refine rT_get hs3 rfl st3_g13 ?_
  rcases hy3 with ⟨y0, c0, hb3⟩ | y1
  rotate_left
  · subst y1
    refine mj_T.if0 (a := 1) rfl ⟨by decide, by decide⟩ (fun hc => ?_) (fun hc => ?_)
    · simp [jc] at hc
    exact mj_T.ret rfl rfl rfl ⟨V3, c3, 1, h3, hs3, hc3l, fun s s1 s2 => hf3 s s1 (by omega), Or.inr rfl, rfl⟩
  subst y0
  subst c0
  refine mj_T.if0 (a := 0) rfl ⟨by decide, by decide⟩ (fun hc => ?_) (fun hc => ?_)
  rotate_left
  · simp [jc] at hc
  iterate 4 refine mj_T.pl rfl rfl rfl rfl ?_
  refine mj_T.iadd (a := (p : Int)) (b := 1) rfl ?_
  rw [show (p : Int) + 1 = ((p + 1 : Nat) : Int) by omega]
  refine mj_T.call (ins := .invokevirtual 124) rfl rfl (Nat.le_of_ble_eq_true rfl) (Nat.le_of_ble_eq_true rfl) (by simp [mj_recv, rS_f hs3]) rfl (mj_Ok.up (by omega) (jp_copiesPoly (D := 0) (rG (st3 (jvu S 13 0) (c3 : Int) o e) N B T X) (p := p) (q := p + 1) (by omega) (by omega) (by omega) hs3)) (fun v' h4 hq' => ?_) (fun i h' hq' => by obtain ⟨_, _, h⟩ := hq'; cases h)
  obtain ⟨_, hs4, hq'⟩ := hq'
  cases hq'
  have q1 : ∀ x, x < 13 → jfl V3 p (fun x => V3 ((p + 1) * 13 + x)) 13 (p * 13 + x) = V3 ((p + 1) * 13 + x) := fun x hx => jfl_at _ p _ hx
  have q2 : ∀ s, s < p * 13 → jfl V3 p (fun x => V3 ((p + 1) * 13 + x)) 13 s = V3 s := fun s hx => jfl_off _ p _ (by omega)
  generalize jfl V3 p (fun x => V3 ((p + 1) * 13 + x)) 13 = W4 at hs4 q1 q2
  iterate 2 refine mj_T.pl rfl rfl rfl rfl ?_
  refine mj_T.call (ins := .invokevirtual 354) rfl rfl (Nat.le_of_ble_eq_true rfl) (Nat.le_of_ble_eq_true rfl) (by simp [mj_recv, rS_f hs4]) rfl (mj_Ok.up (by omega) (rd_takes (D := 0) (S := jvu S 13 0) (c := 41) ⟨by decide, by decide⟩ (w9 h9) ht hT hc3l hs4)) (fun v' h5 hq' => ?_) (fun i h' hq' => by rcases hq' with ⟨_, _, _, _, h⟩ | ⟨_, _, _, h⟩ <;> cases h)
  rcases hq' with ⟨c5, _, ⟨b1, b2, b3⟩, hs5, hq'⟩ | ⟨_, b1, hs5, hq'⟩
  rotate_left
  · simp only [b1] at hr
    cases hr
  cases hq'
  simp only [b1] at hr
  iterate 2 refine mj_T.pl rfl rfl rfl rfl ?_
  exact wk_tail (E := 4 * (d2 + 1) + 11) h9 ht hT (by omega) hp1 (by omega) b2 (Option.some.inj hr) (fun s s1 s2 => by rw [q2 s s2, hf3 s s1 (by omega)]) (fun x hx => by rw [q1 x hx]; exact hb3 x hx) hs5
theorem wk_prod_loop (h9 : S 9 = (tm : Int)) (ht : tm ≤ 200) (hT : ∀ j : Nat, j < tm → 1 ≤ T j ∧ T j ≤ 255) {d p b : Nat} {V0 : Nat → Int} (hp1 : 23 ≤ p) (hp2 : p + 1 + 3 * d ≤ 49) :
    ∀ f, (∀ f2, f2 < f → ∀ (a b2 : Nat) (V : Nat → Int) (h : mj_H), a ≤ tm → rpr0 T tm f2 0 d a = some (true, b2) → rS (st3 (jvu S 13 0) (a : Int) o e) N B T X V h → mj_Ok (4 * d + 12) 301 [.ref 0, .int (jn ((p + 1 : Nat) : Int))] h (wkPost S N B T X V tm o e (p + 1) b2)) →
    ∀ (c : Nat) (V : Nat → Int) (h : mj_H), c ≤ tm → (match rtk T tm 42 c with
      | none => some (true, rskp T tm c)
      | some e => rpr0 T tm f 1 d e) = some (true, b) → rS (st3 (jvu S 13 0) (c : Int) o e) N B T X V h → (∀ s, 299 ≤ s → s < p * 13 → V s = V0 s) → (∀ x, x < 13 → (V (p * 13 + x)).natAbs ≤ 10 ^ 18) → mj_T (4 * d + 12) mj_m300 23 [some (.ref 0), some (.int (jn (p : Nat)))] [] h (wkPost S N B T X V0 tm o e p b) := by
  intro f
  induction f with
  | zero =>
    intro _ c V h hc hr hs hfr hb
    have hle := rskp_le (T := T) hc
    iterate 2 refine mj_T.pl rfl rfl rfl rfl ?_
    refine mj_T.call (ins := .invokevirtual 354) rfl rfl (Nat.le_of_ble_eq_true rfl) (Nat.le_of_ble_eq_true rfl) (by simp [mj_recv, rS_f hs]) rfl (mj_Ok.up (by omega) (rd_takes (D := 0) (S := jvu S 13 0) (c := 42) ⟨by decide, by decide⟩ (w9 h9) ht hT hc hs)) (fun v' h1 hq' => ?_) (fun i h' hq' => by rcases hq' with ⟨_, _, _, _, h⟩ | ⟨_, _, _, h⟩ <;> cases h)
    rcases hq' with ⟨c2, _, ⟨b1, b2, b3⟩, hs1, hq'⟩ | ⟨_, b1, hs1, hq'⟩
    · simp only [b1] at hr
      cases hr
    · cases hq'
      simp only [b1] at hr
      cases hr
      refine mj_T.if0 (a := 0) rfl ⟨by decide, by decide⟩ (fun hc => ?_) (fun hc => ?_)
      · exact mj_T.ret rfl rfl rfl ⟨V, _, 0, h1, hs1, hle, hfr, Or.inl ⟨rfl, rfl, hb⟩, rfl⟩
      · simp [jc] at hc
  | succ f ihf =>
    intro ih0 c V h hc hr hs hfr hb
    have hle := rskp_le (T := T) hc
    iterate 2 refine mj_T.pl rfl rfl rfl rfl ?_
    refine mj_T.call (ins := .invokevirtual 354) rfl rfl (Nat.le_of_ble_eq_true rfl) (Nat.le_of_ble_eq_true rfl) (by simp [mj_recv, rS_f hs]) rfl (mj_Ok.up (by omega) (rd_takes (D := 0) (S := jvu S 13 0) (c := 42) ⟨by decide, by decide⟩ (w9 h9) ht hT hc hs)) (fun v' h1 hq' => ?_) (fun i h' hq' => by rcases hq' with ⟨_, _, _, _, h⟩ | ⟨_, _, _, h⟩ <;> cases h)
    rcases hq' with ⟨c2, _, ⟨b1, b2, b3⟩, hs1, hq'⟩ | ⟨_, b1, hs1, hq'⟩
    rotate_left
    · cases hq'
      simp only [b1] at hr
      cases hr
      refine mj_T.if0 (a := 0) rfl ⟨by decide, by decide⟩ (fun hc => ?_) (fun hc => ?_)
      · exact mj_T.ret rfl rfl rfl ⟨V, _, 0, h1, hs1, hle, hfr, Or.inl ⟨rfl, rfl, hb⟩, rfl⟩
      · simp [jc] at hc
    cases hq'
    simp only [b1] at hr
    unfold rpr0 at hr
    rcases hy : rpr0 T tm f 0 d c2 with _ | ⟨z1, z2⟩
    · rw [hy] at hr
      cases hr
    rw [hy] at hr
    cases z1 with
    | false => cases hr
    | true =>
    refine mj_T.if0 (a := 1) rfl ⟨by decide, by decide⟩ (fun hc => ?_) (fun hc => ?_)
    · simp [jc] at hc
    iterate 3 refine mj_T.pl rfl rfl rfl rfl ?_
    refine mj_T.iadd (a := (p : Int)) (b := 1) rfl ?_
    rw [show (p : Int) + 1 = ((p + 1 : Nat) : Int) by omega]
    refine mj_T.call (ins := .invokevirtual 386) rfl rfl (Nat.le_of_ble_eq_true rfl) (Nat.le_of_ble_eq_true rfl) (by simp [mj_recv, rS_f hs1]) rfl (mj_Ok.up (by omega) (ih0 f (by omega) c2 z2 V h1 b2 hy hs1)) (fun v' h2 hq' => ?_) (fun i h' hq' => by obtain ⟨_, _, _, _, _, _, _, _, h⟩ := hq'; cases h)
    obtain ⟨V2, c3, y2, _, hs2, hc2l, hf2, hy2, hq'⟩ := hq'
    cases hq'
    have hfr2 : (∀ s, 299 ≤ s → s < p * 13 → V2 s = V0 s) := fun s s1 s2 => by rw [hf2 s s1 (by omega), hfr s s1 s2]
    iterate 2 refine mj_T.pl rfl rfl rfl rfl ?_
    refine rT_get hs2 rfl st3_g13 ?_
    have t58 : ∀ y, rS (st3 (jvu S 13 y) (c3 : Int) o e) N B T X V2 h2 → mj_T (4 * d + 12) mj_m300 58 [some (.ref 0), some (.int (jn (p : Nat)))] [.ref 0] h2 (wkPost S N B T X V0 tm o e p b) := fun y hsy => by
      iterate 2 refine mj_T.pl rfl rfl rfl rfl ?_
      refine rT_put (v := 1) hsy rfl rfl (by decide) rfl (fun h5 hs5 => ?_)
      rw [st3_13] at hs5
      refine mj_T.pl rfl rfl rfl rfl ?_
      refine rT_get hs5 rfl st3_g13 ?_
      refine mj_T.if0 (a := 1) rfl ⟨by decide, by decide⟩ (fun hc => ?_) (fun hc => ?_)
      · simp [jc] at hc
      exact mj_T.ret rfl rfl rfl ⟨V2, c3, 1, h5, hs5, hc2l, hfr2, Or.inr rfl, rfl⟩
    rcases hy2 with ⟨y0, c0, hb2⟩ | y1
    rotate_left
    · subst y1
      refine mj_T.if0 (a := 1) rfl ⟨by decide, by decide⟩ (fun hc => ?_) (fun hc => ?_)
      · exact t58 1 hs2
      · simp [jc] at hc
    subst y0
    subst c0
    refine mj_T.if0 (a := 0) rfl ⟨by decide, by decide⟩ (fun hc => ?_) (fun hc => ?_)
    · simp [jc] at hc
    iterate 4 refine mj_T.pl rfl rfl rfl rfl ?_
    refine mj_T.iadd (a := (p : Int)) (b := 1) rfl ?_
    rw [show (p : Int) + 1 = ((p + 1 : Nat) : Int) by omega]
    have hbp : (∀ x, x < 13 → (V2 (p * 13 + x)).natAbs ≤ 10 ^ 18) := fun x hx => by rw [hf2 _ (by omega) (by omega)]; exact hb x hx
    refine mj_T.call (ins := .invokevirtual 223) rfl rfl (Nat.le_of_ble_eq_true rfl) (Nat.le_of_ble_eq_true rfl) (by simp [mj_recv, rS_f hs2]) rfl (mj_Ok.up (by omega) (jp_isTooHigh (D := 0) (rG (st3 (jvu S 13 0) (c3 : Int) o e) N B T X) (a := p) (b := p + 1) (by omega) (by omega) hs2)) (fun v' h' hq' => ?_) (fun i h' hq' => by rcases hq' with ⟨_, _, _, h⟩ | ⟨_, h⟩ <;> cases h)
    rcases hq' with ⟨_, _, _, hq'⟩ | ⟨hdeg, hq'⟩
    · cases hq'
      refine mj_T.if0 (a := 1) rfl ⟨by decide, by decide⟩ (fun hc => ?_) (fun hc => ?_)
      · simp [jc] at hc
      exact t58 0 hs2
    cases hq'
    refine mj_T.if0 (a := 0) rfl ⟨by decide, by decide⟩ (fun hc => ?_) (fun hc => ?_)
    rotate_left
    · simp [jc] at hc
    refine mj_T.pl rfl rfl rfl rfl ?_
    refine rT_put (v := 0) hs2 rfl rfl (by decide) rfl (fun h5 hs5 => ?_)
    rw [st3_13] at hs5
    refine mj_T.pl rfl rfl rfl rfl ?_
    refine rT_get hs5 rfl st3_g13 ?_
    refine mj_T.if0 (a := 0) rfl ⟨by decide, by decide⟩ (fun hc => ?_) (fun hc => ?_)
    rotate_left
    · simp [jc] at hc
    iterate 5 refine mj_T.pl rfl rfl rfl rfl ?_
    refine mj_T.iadd (a := (p : Int)) (b := 1) rfl ?_
    rw [show (p : Int) + 1 = ((p + 1 : Nat) : Int) by omega]
    refine mj_T.call (ins := .invokevirtual 121) rfl rfl (Nat.le_of_ble_eq_true rfl) (Nat.le_of_ble_eq_true rfl) (by simp [mj_recv, rS_f hs5]) rfl (mj_Ok.up (by omega) (jp_multipliesPoly (D := 0) (V := V2) (rG (st3 (jvu S 13 0) (c3 : Int) o e) N B T X) (to := 7) (a := p) (b := p + 1) (by decide) (by omega) (by omega) (by omega) (by omega) hbp hb2 hdeg rp_small2 hs5)) (fun v' h6 hq' => ?_) (fun i h' hq' => by obtain ⟨_, _, _, _, _, _, h⟩ := hq'; cases h)
    obtain ⟨V6, _, hs6, m1, m2, _, hq'⟩ := hq'
    cases hq'
    iterate 3 refine mj_T.pl rfl rfl rfl rfl ?_
    refine mj_T.call (ins := .invokevirtual 124) rfl rfl (Nat.le_of_ble_eq_true rfl) (Nat.le_of_ble_eq_true rfl) (by simp [mj_recv, rS_f hs6]) rfl (mj_Ok.up (by omega) (jp_copiesPoly (D := 0) (rG (st3 (jvu S 13 0) (c3 : Int) o e) N B T X) (p := p) (q := 7) (by omega) (by decide) (by omega) hs6)) (fun v' h7 hq' => ?_) (fun i h' hq' => by obtain ⟨_, _, h⟩ := hq'; cases h)
    obtain ⟨_, hs7, hq'⟩ := hq'
    cases hq'
    have q2 : ∀ s, s < p * 13 → jfl V6 p (fun x => V6 (7 * 13 + x)) 13 s = V6 s := fun s hx => jfl_off _ p _ (by omega)
    generalize jfl V6 p (fun x => V6 (7 * 13 + x)) 13 = W7 at hs7 q2
    have hfr7 : (∀ s, 299 ≤ s → s < p * 13 → W7 s = V0 s) := fun s s1 s2 => by rw [q2 s s2, m1 s (by omega) (by omega), hfr2 s s1 s2]
    iterate 2 refine mj_T.pl rfl rfl rfl rfl ?_
    refine mj_T.call (ins := .invokevirtual 383) rfl rfl (Nat.le_of_ble_eq_true rfl) (Nat.le_of_ble_eq_true rfl) (by simp [mj_recv, rS_f hs7]) rfl (mj_Ok.up (by omega) (wk_bounds (D := 0) (p := p) (by omega) hs7)) (fun v' h8 hq' => ?_) (fun i h' hq' => by obtain ⟨_, _, _, _, h⟩ := hq'; cases h)
    obtain ⟨y, _, hs8, hy8, hq'⟩ := hq'
    cases hq'
    refine mj_T.pl rfl rfl rfl rfl ?_
    refine rT_get hs8 rfl st3_g13 ?_
    rcases hy8 with ⟨y1, y2⟩ | y1
    · subst y1
      refine mj_T.if0 (a := 0) rfl ⟨by decide, by decide⟩ (fun hc => ?_) (fun hc => ?_)
      rotate_left
      · simp [jc] at hc
      exact ihf (fun f2 hf2 => ih0 f2 (by omega)) c3 W7 h8 hc2l hr hs8 hfr7 y2
    · subst y1
      refine mj_T.if0 (a := 1) rfl ⟨by decide, by decide⟩ (fun hc => ?_) (fun hc => ?_)
      · simp [jc] at hc
      exact mj_T.ret rfl rfl rfl ⟨W7, c3, 1, h8, hs8, hc2l, hfr7, Or.inr rfl, rfl⟩
end RWW
/-! The reference works a text out: sums; and reads. -/
section RWX
variable {S N B T X V : Nat → Int} {h : mj_H} {tm : Nat} {o e : Int}
theorem wk_product (h9 : S 9 = (tm : Int)) (ht : tm ≤ 200) (hT : ∀ j : Nat, j < tm → 1 ≤ T j ∧ T j ≤ 255) {f d a p b : Nat} (hp1 : 23 ≤ p) (hp2 : p + 1 + 3 * d ≤ 49) (ha : a ≤ tm) (hr : rpr0 T tm (f + 1) 1 d a = some (true, b)) (hs : rS (st3 (jvu S 13 0) (a : Int) o e) N B T X V h)
    (ih0 : ∀ f2, f2 ≤ f → ∀ (a b2 : Nat) (V : Nat → Int) (h : mj_H), a ≤ tm → rpr0 T tm f2 0 d a = some (true, b2) → rS (st3 (jvu S 13 0) (a : Int) o e) N B T X V h → mj_Ok (4 * d + 12) 301 [.ref 0, .int (jn ((p + 1 : Nat) : Int))] h (wkPost S N B T X V tm o e (p + 1) b2)) : mj_Ok (4 * d + 13) 300 [.ref 0, .int (jn (p : Nat))] h (wkPost S N B T X V tm o e p b) := by
  refine mj_Ok.of (M := mj_m300) rfl rfl rfl ?_
  unfold rpr0 at hr
  rcases hy : rpr0 T tm f 0 d a with _ | ⟨z1, z2⟩
  · rw [hy] at hr
    cases hr
  rw [hy] at hr
  cases z1 with
  | false => cases hr
  | true =>
  iterate 3 refine mj_T.pl rfl rfl rfl rfl ?_
  refine mj_T.iadd (a := (p : Int)) (b := 1) rfl ?_
  rw [show (p : Int) + 1 = ((p + 1 : Nat) : Int) by omega]
  refine mj_T.call (ins := .invokevirtual 386) rfl rfl (Nat.le_of_ble_eq_true rfl) (Nat.le_of_ble_eq_true rfl) (by simp [mj_recv, rS_f hs]) rfl (mj_Ok.up (by omega) (ih0 f (Nat.le_refl _) a z2 V h ha hy hs)) (fun v' h2 hq' => ?_) (fun i h' hq' => by obtain ⟨_, _, _, _, _, _, _, _, h⟩ := hq'; cases h)
  obtain ⟨V2, c3, y2, _, hs2, hc2l, hf2, hy2, hq'⟩ := hq'
  cases hq'
  refine mj_T.pl rfl rfl rfl rfl ?_
  refine rT_get hs2 rfl st3_g13 ?_
  rcases hy2 with ⟨y0, c0, hb2⟩ | y1
  rotate_left
  · subst y1
    refine mj_T.if0 (a := 1) rfl ⟨by decide, by decide⟩ (fun hc => ?_) (fun hc => ?_)
    · simp [jc] at hc
    exact mj_T.ret rfl rfl rfl ⟨V2, c3, 1, h2, hs2, hc2l, fun s s1 s2 => hf2 s s1 (by omega), Or.inr rfl, rfl⟩
  subst y0
  subst c0
  refine mj_T.if0 (a := 0) rfl ⟨by decide, by decide⟩ (fun hc => ?_) (fun hc => ?_)
  rotate_left
  · simp [jc] at hc
  iterate 4 refine mj_T.pl rfl rfl rfl rfl ?_
  refine mj_T.iadd (a := (p : Int)) (b := 1) rfl ?_
  rw [show (p : Int) + 1 = ((p + 1 : Nat) : Int) by omega]
  refine mj_T.call (ins := .invokevirtual 124) rfl rfl (Nat.le_of_ble_eq_true rfl) (Nat.le_of_ble_eq_true rfl) (by simp [mj_recv, rS_f hs2]) rfl (mj_Ok.up (by omega) (jp_copiesPoly (D := 0) (rG (st3 (jvu S 13 0) (c3 : Int) o e) N B T X) (p := p) (q := p + 1) (by omega) (by omega) (by omega) hs2)) (fun v' h4 hq' => ?_) (fun i h' hq' => by obtain ⟨_, _, h⟩ := hq'; cases h)
  obtain ⟨_, hs4, hq'⟩ := hq'
  cases hq'
  have q1 : ∀ x, x < 13 → jfl V2 p (fun x => V2 ((p + 1) * 13 + x)) 13 (p * 13 + x) = V2 ((p + 1) * 13 + x) := fun x hx => jfl_at _ p _ hx
  have q2 : ∀ s, s < p * 13 → jfl V2 p (fun x => V2 ((p + 1) * 13 + x)) 13 s = V2 s := fun s hx => jfl_off _ p _ (by omega)
  generalize jfl V2 p (fun x => V2 ((p + 1) * 13 + x)) 13 = W4 at hs4 q1 q2
  exact wk_prod_loop h9 ht hT hp1 hp2 f (fun f2 hf2 => ih0 f2 (by omega)) c3 W4 h4 hc2l hr hs4 (fun s s1 s2 => by rw [q2 s s2, hf2 s s1 (by omega)]) (fun x hx => by rw [q1 x hx]; exact hb2 x hx)
theorem rp_small7 : 10 ^ 18 + 10 ^ 18 < jB ^ 698 := by decide +kernel
theorem wk_sum_loop (h9 : S 9 = (tm : Int)) (ht : tm ≤ 200) (hT : ∀ j : Nat, j < tm → 1 ≤ T j ∧ T j ≤ 255) {d p b : Nat} {V0 : Nat → Int} (hp1 : 23 ≤ p) (hp2 : p + 2 + 3 * d ≤ 49) :
    ∀ f, (∀ f2, f2 < f → ∀ (a b2 : Nat) (V : Nat → Int) (h : mj_H), a ≤ tm → rpr0 T tm f2 1 d a = some (true, b2) → rS (st3 (jvu S 13 0) (a : Int) o e) N B T X V h → mj_Ok (4 * d + 13) 300 [.ref 0, .int (jn ((p + 1 : Nat) : Int))] h (wkPost S N B T X V tm o e (p + 1) b2)) →
    ∀ (a : Nat) (V : Nat → Int) (h : mj_H) (w : Int), (w = 1 ∨ w = -1) → a ≤ tm → rpr0 T tm f 2 d a = some (true, b) → rS (st3 (jvu S 13 0) (a : Int) o e) N B T X V h → (∀ s, 299 ≤ s → s < p * 13 → V s = V0 s) → (∀ x, x < 13 → (V (p * 13 + x)).natAbs ≤ 10 ^ 18) → mj_T (4 * d + 13) mj_m299 20 [some (.ref 0), some (.int (jn (p : Nat))), some (.int (jn w))] [] h (wkPost S N B T X V0 tm o e p b) := by
  intro f
  induction f with
  | zero =>
    intro _ a V h w _ _ hr
    cases hr
  | succ f ihf =>
    intro ih0 a V h w hw ha hr hs hfr hb
    unfold rpr0 at hr
    rcases hy : rpr0 T tm f 1 d a with _ | ⟨z1, z2⟩
    · rw [hy] at hr
      cases hr
    rw [hy] at hr
    cases z1 with
    | false => cases hr
    | true =>
    iterate 3 refine mj_T.pl rfl rfl rfl rfl ?_
    refine mj_T.iadd (a := (p : Int)) (b := 1) rfl ?_
    rw [show (p : Int) + 1 = ((p + 1 : Nat) : Int) by omega]
    refine mj_T.call (ins := .invokevirtual 380) rfl rfl (Nat.le_of_ble_eq_true rfl) (Nat.le_of_ble_eq_true rfl) (by simp [mj_recv, rS_f hs]) rfl (mj_Ok.up (by omega) (ih0 f (by omega) a z2 V h ha hy hs)) (fun v' h2 hq' => ?_) (fun i h' hq' => by obtain ⟨_, _, _, _, _, _, _, _, h⟩ := hq'; cases h)
    obtain ⟨V2, c3, y2, _, hs2, hc2l, hf2, hy2, hq'⟩ := hq'
    cases hq'
    have hfr2 : (∀ s, 299 ≤ s → s < p * 13 → V2 s = V0 s) := fun s s1 s2 => by rw [hf2 s s1 (by omega), hfr s s1 s2]
    refine mj_T.pl rfl rfl rfl rfl ?_
    refine rT_get hs2 rfl st3_g13 ?_
    rcases hy2 with ⟨y0, c0, hb2⟩ | y1
    rotate_left
    · subst y1
      refine mj_T.if0 (a := 1) rfl ⟨by decide, by decide⟩ (fun hc => ?_) (fun hc => ?_)
      · simp [jc] at hc
      exact mj_T.ret rfl rfl rfl ⟨V2, c3, 1, h2, hs2, hc2l, hfr2, Or.inr rfl, rfl⟩
    subst y0
    subst c0
    refine mj_T.if0 (a := 0) rfl ⟨by decide, by decide⟩ (fun hc => ?_) (fun hc => ?_)
    rotate_left
    · simp [jc] at hc
    iterate 5 refine mj_T.pl rfl rfl rfl rfl ?_
    refine mj_T.iadd (a := (p : Int)) (b := 1) rfl ?_
    rw [show (p : Int) + 1 = ((p + 1 : Nat) : Int) by omega]
    refine mj_T.pl rfl rfl rfl rfl ?_
    have hsz : ∀ x, x < 13 → (V2 (p * 13 + x) + w * V2 ((p + 1) * 13 + x)).natAbs ≤ 10 ^ 18 + 10 ^ 18 := fun x hx => by
      rw [hf2 _ (by omega) (by omega)]
      have k1 := hb x hx
      have k2 := hb2 x hx
      rcases hw with q | q <;> subst q <;> omega
    refine mj_T.call (ins := .invokevirtual 216) rfl rfl (Nat.le_of_ble_eq_true rfl) (Nat.le_of_ble_eq_true rfl) (by simp [mj_recv, rS_f hs2]) rfl (mj_Ok.up (by omega) (jp_addsPoly (D := 0) (rG (st3 (jvu S 13 0) (c3 : Int) o e) N B T X) (p := p) (a := p) (b := p + 1) (f := w) (by omega) (by omega) (by omega) hw (fun x hx => jnl_of_lt (hsz x hx) rp_small7) hs2)) (fun v' h6 hq' => ?_) (fun i h' hq' => by obtain ⟨_, _, h⟩ := hq'; cases h)
    obtain ⟨_, hs6, hq'⟩ := hq'
    cases hq'
    have q2 : ∀ s, s < p * 13 → jfl V2 p (fun x => V2 (p * 13 + x) + w * V2 ((p + 1) * 13 + x)) 13 s = V2 s := fun s hx => jfl_off _ p _ (by omega)
    generalize jfl V2 p (fun x => V2 (p * 13 + x) + w * V2 ((p + 1) * 13 + x)) 13 = W6 at hs6 q2
    have hfr6 : (∀ s, 299 ≤ s → s < p * 13 → W6 s = V0 s) := fun s s1 s2 => by rw [q2 s s2, hfr2 s s1 s2]
    iterate 2 refine mj_T.pl rfl rfl rfl rfl ?_
    refine mj_T.call (ins := .invokevirtual 383) rfl rfl (Nat.le_of_ble_eq_true rfl) (Nat.le_of_ble_eq_true rfl) (by simp [mj_recv, rS_f hs6]) rfl (mj_Ok.up (by omega) (wk_bounds (D := 0) (p := p) (by omega) hs6)) (fun v' h8 hq' => ?_) (fun i h' hq' => by obtain ⟨_, _, _, _, h⟩ := hq'; cases h)
    obtain ⟨y, _, hs8, hy8, hq'⟩ := hq'
    cases hq'
    have t77 : ∀ (w2 : Int) (a2 : Nat) (h9' : mj_H), (w2 = 0 ∨ w2 = 1 ∨ w2 = -1) → a2 ≤ tm → rS (st3 (jvu S 13 y) (a2 : Int) o e) N B T X W6 h9' → (w2 = 0 → a2 = b) → (w2 ≠ 0 → rpr0 T tm f 2 d a2 = some (true, b)) → mj_T (4 * d + 13) mj_m299 77 [some (.ref 0), some (.int (jn (p : Nat))), some (.int (jn w))] [.int (jn w2)] h9' (wkPost S N B T X V0 tm o e p b) := fun w2 a2 h9' hw2 ha2 hsa hz hnz => by
      iterate 2 refine mj_T.pl rfl rfl rfl rfl ?_
      have fin : (y = 1 ∨ w2 = 0) → wkPost S N B T X V0 tm o e p b (.inl none, h9') := fun hyw => by
        refine ⟨W6, a2, y, h9', hsa, ha2, hfr6, ?_, rfl⟩
        rcases hy8 with ⟨y1, y2⟩ | y1
        · rcases hyw with q | q
          · exact Or.inr q
          · exact Or.inl ⟨y1, hz q, y2⟩
        · exact Or.inr y1
      refine mj_T.if0 (a := w2) rfl ⟨by omega, by omega⟩ (fun hc => ?_) (fun hc => ?_)
      · simp only [jc, decide_eq_true_eq] at hc
        exact mj_T.ret rfl rfl rfl (fin (Or.inr hc))
      simp only [jc, decide_eq_false_iff_not] at hc
      refine mj_T.pl rfl rfl rfl rfl ?_
      refine rT_get hsa rfl st3_g13 ?_
      rcases hy8 with ⟨y1, y2⟩ | y1
      · subst y1
        refine mj_T.if0 (a := 0) rfl ⟨by decide, by decide⟩ (fun hc => ?_) (fun hc => ?_)
        rotate_left
        · simp [jc] at hc
        exact ihf (fun f2 hf2 => ih0 f2 (by omega)) a2 W6 h9' w2 (by omega) ha2 (hnz (by assumption)) hsa hfr6 y2
      · subst y1
        refine mj_T.if0 (a := 1) rfl ⟨by decide, by decide⟩ (fun hc => ?_) (fun hc => ?_)
        · simp [jc] at hc
        exact mj_T.ret rfl rfl rfl (fin (Or.inl rfl))
    have hid := rskp_idem (T := T) hc2l
    have hle := rskp_le (T := T) hc2l
    iterate 2 refine mj_T.pl rfl rfl rfl rfl ?_
    refine mj_T.call (ins := .invokevirtual 354) rfl rfl (Nat.le_of_ble_eq_true rfl) (Nat.le_of_ble_eq_true rfl) (by simp [mj_recv, rS_f hs8]) rfl (mj_Ok.up (by omega) (rd_takes (D := 0) (S := jvu S 13 y) (c := 43) ⟨by decide, by decide⟩ (w9 h9) ht hT hc2l hs8)) (fun v' h10 hq' => ?_) (fun i h' hq' => by rcases hq' with ⟨_, _, _, _, h⟩ | ⟨_, _, _, h⟩ <;> cases h)
    rcases hq' with ⟨c2, _, ⟨b1, b2, b3⟩, hs10, hq'⟩ | ⟨_, b1, hs10, hq'⟩
    · cases hq'
      simp only [b1] at hr
      refine mj_T.if0 (a := 1) rfl ⟨by decide, by decide⟩ (fun hc => ?_) (fun hc => ?_)
      · simp [jc] at hc
      iterate 2 refine mj_T.pl rfl rfl rfl rfl ?_
      exact t77 1 c2 h10 (Or.inr (Or.inl rfl)) b2 hs10 (fun q => absurd q (by decide)) (fun _ => hr)
    cases hq'
    simp only [b1] at hr
    refine mj_T.if0 (a := 0) rfl ⟨by decide, by decide⟩ (fun hc => ?_) (fun hc => ?_)
    rotate_left
    · simp [jc] at hc
    iterate 2 refine mj_T.pl rfl rfl rfl rfl ?_
    refine mj_T.call (ins := .invokevirtual 354) rfl rfl (Nat.le_of_ble_eq_true rfl) (Nat.le_of_ble_eq_true rfl) (by simp [mj_recv, rS_f hs10]) rfl (mj_Ok.up (by omega) (rd_takes (D := 0) (S := jvu S 13 y) (c := 45) ⟨by decide, by decide⟩ (w9 h9) ht hT hle hs10)) (fun v' h11 hq' => ?_) (fun i h' hq' => by rcases hq' with ⟨_, _, _, _, h⟩ | ⟨_, _, _, h⟩ <;> cases h)
    rcases hq' with ⟨c2, _, ⟨d1, d2, d3⟩, hs11, hq'⟩ | ⟨_, d1, hs11, hq'⟩
    · cases hq'
      simp only [d1] at hr
      refine mj_T.if0 (a := 1) rfl ⟨by decide, by decide⟩ (fun hc => ?_) (fun hc => ?_)
      · simp [jc] at hc
      iterate 2 refine mj_T.pl rfl rfl rfl rfl ?_
      exact t77 (-1) c2 h11 (Or.inr (Or.inr rfl)) d2 hs11 (fun q => absurd q (by decide)) (fun _ => hr)
    · cases hq'
      simp only [d1] at hr
      rw [hid] at hs11
      refine mj_T.if0 (a := 0) rfl ⟨by decide, by decide⟩ (fun hc => ?_) (fun hc => ?_)
      rotate_left
      · simp [jc] at hc
      refine mj_T.pl rfl rfl rfl rfl ?_
      exact t77 0 _ h11 (Or.inl rfl) hle hs11 (fun _ => by cases hr; rfl) (fun q => absurd rfl q)
theorem wk_sum (h9 : S 9 = (tm : Int)) (ht : tm ≤ 200) (hT : ∀ j : Nat, j < tm → 1 ≤ T j ∧ T j ≤ 255) {f d a p b : Nat} (hp1 : 23 ≤ p) (hp2 : p + 2 + 3 * d ≤ 49) (ha : a ≤ tm) (hr : rpr0 T tm (f + 1) 3 d a = some (true, b)) (hs : rS (st3 (jvu S 13 0) (a : Int) o e) N B T X V h)
    (ih0 : ∀ f2, f2 ≤ f → ∀ (a b2 : Nat) (V : Nat → Int) (h : mj_H), a ≤ tm → rpr0 T tm f2 1 d a = some (true, b2) → rS (st3 (jvu S 13 0) (a : Int) o e) N B T X V h → mj_Ok (4 * d + 13) 300 [.ref 0, .int (jn ((p + 1 : Nat) : Int))] h (wkPost S N B T X V tm o e (p + 1) b2)) : mj_Ok (4 * d + 14) 299 [.ref 0, .int (jn (p : Nat))] h (wkPost S N B T X V tm o e p b) := by
  refine mj_Ok.of (M := mj_m299) rfl rfl rfl ?_
  unfold rpr0 at hr
  have hle := rskp_le (T := T) ha
  have t14 : ∀ (w : Int) (a2 : Nat) (h2 : mj_H), (w = 1 ∨ w = -1) → a2 ≤ tm → rS (st3 (jvu S 13 0) (a2 : Int) o e) N B T X V h2 → rpr0 T tm f 2 d a2 = some (true, b) → mj_T (4 * d + 13) mj_m299 14 [some (.ref 0), some (.int (jn (p : Nat))), none] [.int (jn w)] h2 (wkPost S N B T X V tm o e p b) := fun w a2 h2 hw ha2 hs2 hr2 => by
    iterate 3 refine mj_T.pl rfl rfl rfl rfl ?_
    refine mj_T.call (ins := .invokevirtual 110) rfl rfl (Nat.le_of_ble_eq_true rfl) (Nat.le_of_ble_eq_true rfl) (by simp [mj_recv, rS_f hs2]) rfl (mj_Ok.up (by omega) (jp_empties (D := 0) (rG (st3 (jvu S 13 0) (a2 : Int) o e) N B T X) (p := p) (by omega) hs2)) (fun v' h3 hq' => ?_) (fun i h' hq' => by obtain ⟨_, _, h⟩ := hq'; cases h)
    obtain ⟨_, hs3, hq'⟩ := hq'
    cases hq'
    have q1 : ∀ x, x < 13 → jfl V p (fun _ => 0) 13 (p * 13 + x) = 0 := fun x hx => jfl_at _ p _ hx
    have q2 : ∀ s, s < p * 13 → jfl V p (fun _ => 0) 13 s = V s := fun s hx => jfl_off _ p _ (by omega)
    generalize jfl V p (fun _ => 0) 13 = W1 at hs3 q1 q2
    exact wk_sum_loop h9 ht hT hp1 hp2 f (fun f2 hf2 => ih0 f2 (by omega)) a2 W1 h3 w hw ha2 hr2 hs3 (fun s s1 s2 => q2 s s2) (fun x hx => by rw [q1 x hx]; exact Nat.zero_le _)
  iterate 2 refine mj_T.pl rfl rfl rfl rfl ?_
  refine mj_T.call (ins := .invokevirtual 354) rfl rfl (Nat.le_of_ble_eq_true rfl) (Nat.le_of_ble_eq_true rfl) (by simp [mj_recv, rS_f hs]) rfl (mj_Ok.up (by omega) (rd_takes (D := 0) (S := jvu S 13 0) (c := 45) ⟨by decide, by decide⟩ (w9 h9) ht hT ha hs)) (fun v' h1 hq' => ?_) (fun i h' hq' => by rcases hq' with ⟨_, _, _, _, h⟩ | ⟨_, _, _, h⟩ <;> cases h)
  rcases hq' with ⟨c2, _, ⟨b1, b2, b3⟩, hs1, hq'⟩ | ⟨_, b1, hs1, hq'⟩
  · cases hq'
    simp only [b1] at hr
    refine mj_T.if0 (a := 1) rfl ⟨by decide, by decide⟩ (fun hc => ?_) (fun hc => ?_)
    · simp [jc] at hc
    iterate 2 refine mj_T.pl rfl rfl rfl rfl ?_
    exact t14 (-1) c2 h1 (Or.inr rfl) b2 hs1 hr
  · cases hq'
    simp only [b1] at hr
    refine mj_T.if0 (a := 0) rfl ⟨by decide, by decide⟩ (fun hc => ?_) (fun hc => ?_)
    rotate_left
    · simp [jc] at hc
    refine mj_T.pl rfl rfl rfl rfl ?_
    exact t14 1 _ h1 (Or.inl rfl) hle hs1 hr
/-- sums, worked out at any depth -/
theorem wk_all (h9 : S 9 = (tm : Int)) (ht : tm ≤ 200) (hT : ∀ j : Nat, j < tm → 1 ≤ T j ∧ T j ≤ 255) : ∀ (d f a p b : Nat) (V : Nat → Int) (h : mj_H), d ≤ 8 → 23 ≤ p → p + 2 + 3 * d ≤ 49 → a ≤ tm → rpr0 T tm f 3 d a = some (true, b) → rS (st3 (jvu S 13 0) (a : Int) o e) N B T X V h → mj_Ok (4 * d + 14) 299 [.ref 0, .int (jn (p : Nat))] h (wkPost S N B T X V tm o e p b) := by
  intro d
  induction d with
  | zero =>
    intro f a p b V h _ hp1 hp2 ha hr hs
    cases f with
    | zero => cases hr
    | succ f =>
    refine wk_sum h9 ht hT hp1 hp2 ha hr hs (fun f2 hf2 a2 b2 V2 h2 ha2 hr2 hs2 => ?_)
    cases f2 with
    | zero => cases hr2
    | succ f2 =>
    refine wk_product h9 ht hT (by omega) (by omega) ha2 hr2 hs2 (fun f3 hf3 a3 b3 V3 h3 ha3 hr3 hs3 => ?_)
    cases f3 with
    | zero => cases hr3
    | succ f3 => exact wk_power_step h9 ht hT (by omega) (by omega) ha3 hr3 hs3 (fun d2 a4 p4 b4 V4 h4 hd => absurd hd (by omega))
  | succ d ihd =>
    intro f a p b V h hd8 hp1 hp2 ha hr hs
    cases f with
    | zero => cases hr
    | succ f =>
    refine wk_sum h9 ht hT hp1 hp2 ha hr hs (fun f2 hf2 a2 b2 V2 h2 ha2 hr2 hs2 => ?_)
    cases f2 with
    | zero => cases hr2
    | succ f2 =>
    refine wk_product h9 ht hT (by omega) (by omega) ha2 hr2 hs2 (fun f3 hf3 a3 b3 V3 h3 ha3 hr3 hs3 => ?_)
    cases f3 with
    | zero => cases hr3
    | succ f3 =>
      refine wk_power_step h9 ht hT (by omega) (by omega) ha3 hr3 hs3 (fun d2 a4 p4 b4 V4 h4 hd hp41 hp42 ha4 hr4 hs4 => ?_)
      have ed : d2 = d := by omega
      subst ed
      exact ihd f3 a4 p4 b4 V4 h4 (by omega) hp41 hp42 ha4 hr4 hs4
end RWX
/-! Calls of the reference: read. -/
theorem jvu13_st3 (S : Nat → Int) (a o e z : Int) : jvu (st3 S a o e) 13 z = st3 (jvu S 13 z) a o e := funext fun x => by
  unfold st3 jvu
  (repeat' split) <;> omega
theorem jK.rd3 {tm er : Int} {S N B T : Nat → Int} (K : jK tm er S N B T) {a o e : Int} (ha : jr a) (ho : jr o) (he : jr e) : jK tm e (st3 S a o e) N B T := by
  unfold st3
  have K2 := (K.put (k := 10) ha (by decide) (by decide) (by decide) (by decide) (by decide)).put (k := 11) ho (by decide) (by decide) (by decide) (by decide) (by decide)
  obtain ⟨k1, k2, k3, k4, k5, k6, k7, k8, k9⟩ := K2
  have e9 : ∀ x, x ≠ 12 → jvu (jvu (jvu S 10 a) 11 o) 12 e x = jvu (jvu S 10 a) 11 o x := fun x hx => jvu_ne _ _ _ hx
  refine ⟨k1, by rw [e9 2 (by decide)]; exact k2, fun j hj => k3 j (by rw [e9 2 (by decide)] at hj; exact hj), by rw [e9 9 (by decide)]; exact k4, jvu_at _ _ _, by rw [e9 15 (by decide)]; exact k6, fun x => ?_, by rw [e9 13 (by decide)]; exact k8, k9⟩
  by_cases hx : x = 12
  · subst hx
    rw [jvu_at]
    exact he
  · rw [e9 x hx]
    exact k7 x
theorem jK.put13 {tm er : Int} {S N B T : Nat → Int} (K : jK tm er S N B T) {y : Int} (hy : y = 0 ∨ y = 1) : jK tm er (jvu S 13 y) N B T := by
  obtain ⟨k1, k2, k3, k4, k5, k6, k7, k8, k9⟩ := K
  have e : ∀ x, x ≠ 13 → jvu S 13 y x = S x := fun x hx => jvu_ne _ _ _ hx
  refine ⟨k1, by rw [e 2 (by decide)]; exact k2, fun j hj => k3 j (by rw [e 2 (by decide)] at hj; exact hj), by rw [e 9 (by decide)]; exact k4, by rw [e 12 (by decide)]; exact k5, by rw [e 15 (by decide)]; exact k6, fun x => ?_, by rw [jvu_at]; exact hy, k9⟩
  by_cases hx : x = 13
  · subst hx
    rw [jvu_at]
    exact ⟨by omega, by omega⟩
  · rw [e x hx]
    exact k7 x
section RRE
variable {S N B T X V : Nat → Int} {h : mj_H} {D tm : Nat} {o e : Int}
theorem rd_end (h9 : S 9 = (tm : Int)) (ht : tm ≤ 200) (hT : ∀ j : Nat, j < tm → 1 ≤ T j ∧ T j ≤ 255) {c : Nat} (hc : c ≤ tm) (hs : rS (st3 S (c : Int) o e) N B T X V h) : mj_Ok (D + 2) 292 [.ref 0] h (fun r => (rskp T tm c = tm ∧ ∃ h2, rS (st3 S (tm : Int) o e) N B T X V h2 ∧ r = (.inl (some (.int (jn 1))), h2)) ∨ ((rskp T tm c ≠ tm ∧ rskp T tm c ≤ tm) ∧ ∃ h2, rS (st3 S (rskp T tm c : Nat) o ((rskp T tm c : Nat) : Int)) N B T X V h2 ∧ r = (.inl (some (.int (jn 0))), h2))) := by
  refine mj_Ok.of (M := mj_m292) rfl rfl rfl ?_
  have hle := rskp_le (T := T) hc
  refine mj_T.pl rfl rfl rfl rfl ?_
  refine mj_T.call (ins := .invokevirtual 348) rfl rfl (Nat.le_of_ble_eq_true rfl) (Nat.le_of_ble_eq_true rfl) (by simp [mj_recv, rS_f hs]) rfl (rd_skips (D := D) h9 ht hT hc hs) (fun v' h1 hq' => ?_) (fun i h' hq' => by obtain ⟨_, _, h⟩ := hq'; cases h)
  obtain ⟨_, hs1, hq'⟩ := hq'
  cases hq'
  obtain ⟨s, hsdef⟩ : ∃ s, rskp T tm c = s := ⟨_, rfl⟩
  rw [hsdef] at hs1 hle ⊢
  refine mj_T.pl rfl rfl rfl rfl ?_
  refine rT_get hs1 rfl st3_g10 ?_
  refine mj_T.pl rfl rfl rfl rfl ?_
  refine rT_get hs1 rfl (st3_g9 h9) ?_
  refine mj_T.icmp (a := (s : Int)) (b := (tm : Int)) rfl ⟨by omega, by omega⟩ ⟨by omega, by omega⟩ (fun hc1 => ?_) (fun hc1 => ?_)
  · simp only [jc, decide_eq_true_eq] at hc1
    have e1 : s = tm := by omega
    subst e1
    iterate 2 refine mj_T.pl rfl rfl rfl rfl ?_
    exact mj_T.ret rfl rfl rfl (Or.inl ⟨rfl, h1, hs1, rfl⟩)
  · simp only [jc, decide_eq_false_iff_not] at hc1
    iterate 2 refine mj_T.pl rfl rfl rfl rfl ?_
    refine rT_get hs1 rfl st3_g10 ?_
    refine mj_T.call (ins := .invokevirtual 351) rfl rfl (Nat.le_of_ble_eq_true rfl) (Nat.le_of_ble_eq_true rfl) (by simp [mj_recv, rS_f hs1]) rfl (mj_Ok.up (by omega) (rd_errs (D := 0) (x := (s : Int)) hs1)) (fun v' h3 hq' => ?_) (fun i h' hq' => by obtain ⟨_, _, h⟩ := hq'; cases h)
    obtain ⟨_, hs3, hq'⟩ := hq'
    cases hq'
    refine mj_T.if0 (a := 0) rfl ⟨by decide, by decide⟩ (fun hc => ?_) (fun hc => ?_)
    · refine mj_T.pl rfl rfl rfl rfl ?_
      exact mj_T.ret rfl rfl rfl (Or.inr ⟨⟨by omega, hle⟩, h3, hs3, rfl⟩)
    · simp [jc] at hc
end RRE
section RPU
variable {h : mj_H} {tm er : Int} {T : Nat → Int}
theorem rp_read {x : Int} (hx : jr x) {tm0 : Nat} (hI : jI (tm0 : Int) er T h) : mj_Ok 60 245 [.ref 0, .int (jn x)] h (fun r => ((0 ≤ x ∧ x ≤ 5) ∧ rI 0 (rdErr T tm0) T r) ∨ (¬ (0 ≤ x ∧ x ≤ 5) ∧ rI tm0 er T r)) := by
  refine mj_Ok.of (M := mj_m245) rfl rfl rfl ?_
  obtain ⟨S, N, B, X, V, hs, K⟩ := hI
  iterate 2 refine mj_T.pl rfl rfl rfl rfl ?_
  refine rT_put (v := 0) hs rfl rfl (by decide) rfl (fun g1 hs1 => ?_)
  have K1 := K.put (k := 3) (v := 0) ⟨by decide, by decide⟩ (by decide) (by decide) (by decide) (by decide) (by decide)
  generalize jvu S 3 0 = S1 at hs1 K1
  refine mj_T.pl rfl rfl rfl rfl ?_
  refine mj_T.call (ins := .invokestatic 181) rfl rfl (Nat.le_of_ble_eq_true rfl) (Nat.le_of_ble_eq_true rfl) rfl rfl (mj_Ok.up (by decide) (rp_isRegister (D := 0) hx)) (fun v' h' hq' => ?_) (fun i h' hq' => by rcases hq' with ⟨_, _, h⟩ | ⟨_, h⟩ <;> cases h)
  rcases hq' with ⟨x1, x2, hq'⟩ | ⟨xn, hq'⟩
  case' inr =>
    cases hq'
    refine mj_T.if0 (a := 0) rfl ⟨by decide, by decide⟩ (fun hc => ?_) (fun hc => ?_)
    · simp [jc] at hc
    iterate 2 refine mj_T.pl rfl rfl rfl rfl ?_
    refine mj_T.call (ins := .invokevirtual 198) rfl rfl (Nat.le_of_ble_eq_true rfl) (Nat.le_of_ble_eq_true rfl) (by simp [mj_recv, rS_f hs1]) rfl (mj_Ok.up (by decide) (rp_fails (D := 0) (c := 1) hs1)) (fun v' g2 hq' => ?_) (fun i h' hq' => by obtain ⟨_, _, h⟩ := hq'; cases h)
    obtain ⟨_, hs2, hq'⟩ := hq'
    cases hq'
    exact mj_T.ret rfl rfl rfl (Or.inr ⟨by omega, 0, g2, ⟨by decide, by decide⟩, rfl, ⟨_, N, B, X, V, hs2, K1.put ⟨by decide, by decide⟩ (by decide) (by decide) (by decide) (by decide) (by decide)⟩⟩)
  cases hq'
  refine mj_T.if0 (a := 1) rfl ⟨by decide, by decide⟩ (fun hc => ?_) (fun hc => ?_)
  rotate_left
  · simp [jc] at hc
  obtain ⟨x, rfl⟩ := Int.eq_ofNat_of_zero_le x1
  have k9 := K1.2.2.2.1
  have hT0 := K1.2.2.2.2.2.2.2.2
  have ht : tm0 ≤ 200 := by omega
  have hT : ∀ j : Nat, j < tm0 → 1 ≤ T j ∧ T j ≤ 255 := fun j hj => hT0 j (by omega)
  iterate 2 refine mj_T.pl rfl rfl rfl rfl ?_
  refine rT_put (v := 0) hs1 rfl rfl (by decide) rfl (fun ha hsa => ?_)
  iterate 2 refine mj_T.pl rfl rfl rfl rfl ?_
  refine rT_put (v := 0) hsa rfl rfl (by decide) rfl (fun hb hsb => ?_)
  iterate 2 refine mj_T.pl rfl rfl rfl rfl ?_
  refine rT_put (v := -1) hsb rfl rfl (by decide) rfl (fun hc hsc => ?_)
  have hsd : rS (st3 S1 ((0 : Nat) : Int) (8 - ((8 : Nat) : Int)) (-1)) N B T X V hc := hsc
  obtain ⟨hre, hrb⟩ := rdR_eq T tm0
  obtain ⟨res, hres⟩ : ∃ z, rdR T tm0 = z := ⟨_, rfl⟩
  rw [hres] at hre hrb
  have t51 : ∀ (a2 o2 x2 : Int) (h2 : mj_H), jr a2 → jr o2 → jr x2 → rdErr T tm0 = x2 → rS (st3 S1 a2 o2 x2) N B T X V h2 → mj_T 59 mj_m245 51 [some (.ref 0), some (.int (jn (x : Int))), none] [] h2 (fun r => ((0 ≤ (x : Int) ∧ (x : Int) ≤ 5) ∧ rI 0 (rdErr T tm0) T r) ∨ (¬ (0 ≤ (x : Int) ∧ (x : Int) ≤ 5) ∧ rI tm0 er T r)) := fun a2 o2 x2 h2 ja jo jx hx2 hs2 => by
    iterate 3 refine mj_T.pl rfl rfl rfl rfl ?_
    refine mj_T.if0 (a := 0) rfl ⟨by decide, by decide⟩ (fun hc => ?_) (fun hc => ?_)
    rotate_left
    · simp [jc] at hc
    iterate 2 refine mj_T.pl rfl rfl rfl rfl ?_
    refine rT_put (v := 0) hs2 rfl rfl (by decide) rfl (fun h3 hs3 => ?_)
    refine mj_T.pl rfl rfl rfl rfl ?_
    refine mj_T.if0 (a := 0) rfl ⟨by decide, by decide⟩ (fun hc => ?_) (fun hc => ?_)
    · simp [jc] at hc
    iterate 2 refine mj_T.pl rfl rfl rfl rfl ?_
    refine mj_T.call (ins := .invokevirtual 198) rfl rfl (Nat.le_of_ble_eq_true rfl) (Nat.le_of_ble_eq_true rfl) (by simp [mj_recv, rS_f hs3]) rfl (mj_Ok.up (by decide) (rp_fails (D := 0) (c := 2) hs3)) (fun v' g3 hq' => ?_) (fun i h' hq' => by obtain ⟨_, _, h⟩ := hq'; cases h)
    obtain ⟨_, hs3, hq'⟩ := hq'
    cases hq'
    exact mj_T.ret rfl rfl rfl (Or.inl ⟨⟨by omega, by omega⟩, 0, g3, ⟨by decide, by decide⟩, rfl, ⟨_, N, B, X, V, hs3, by rw [hx2]; exact ((K1.rd3 ja jo jx).clear).put ⟨by decide, by decide⟩ (by decide) (by decide) (by decide) (by decide) (by decide)⟩⟩)
  refine mj_T.pl rfl rfl rfl rfl ?_
  refine mj_T.call (ins := .invokevirtual 257) rfl rfl (Nat.le_of_ble_eq_true rfl) (Nat.le_of_ble_eq_true rfl) (by simp [mj_recv, rS_f hsc]) rfl (mj_Ok.up (by decide) ((rd_all (er := -1) (S := S1) (N := N) (B := B) (X := X) (V := V) k9.1 ht hT (rdF tm0) 8 (by decide)).2.2.2 0 hc res (Nat.zero_le _) hre hsd)) (fun v' h4 hq' => ?_) (fun i h' hq' => by rcases hq' with ⟨_, _, _, _, h⟩ | ⟨_, _, _, _, _, _, h⟩ <;> cases h)
  rcases hq' with ⟨c, _, ⟨c1, c2, c3⟩, hs4, hq'⟩ | ⟨x3, c, o3, _, ⟨c1, c2, c3, c4⟩, hs4, hq'⟩
  rotate_left
  · cases hq'
    refine mj_T.if0 (a := 0) rfl ⟨by decide, by decide⟩ (fun hc => ?_) (fun hc => ?_)
    rotate_left
    · simp [jc] at hc
    exact t51 _ _ _ h4 ⟨by omega, by omega⟩ c4 ⟨by omega, by omega⟩ (by unfold rdErr; rw [hres, c1]; rfl) hs4
  cases hq'
  refine mj_T.if0 (a := 1) rfl ⟨by decide, by decide⟩ (fun hc => ?_) (fun hc => ?_)
  · simp [jc] at hc
  refine mj_T.pl rfl rfl rfl rfl ?_
  refine mj_T.call (ins := .invokevirtual 261) rfl rfl (Nat.le_of_ble_eq_true rfl) (Nat.le_of_ble_eq_true rfl) (by simp [mj_recv, rS_f hs4]) rfl (mj_Ok.up (by decide) (rd_end (D := 0) (S := S1) k9.1 ht hT c2 hs4)) (fun v' h5 hq' => ?_) (fun i h' hq' => by rcases hq' with ⟨_, _, _, h⟩ | ⟨_, _, _, h⟩ <;> cases h)
  rcases hq' with ⟨e1, _, hs5, hq'⟩ | ⟨⟨e1, e2⟩, _, hs5, hq'⟩
  rotate_left
  · cases hq'
    refine mj_T.if0 (a := 0) rfl ⟨by decide, by decide⟩ (fun hc => ?_) (fun hc => ?_)
    rotate_left
    · simp [jc] at hc
    exact t51 _ _ _ h5 ⟨by omega, by omega⟩ ⟨by decide, by decide⟩ ⟨by omega, by omega⟩ (by unfold rdErr; rw [hres, c1]; exact (if_pos rfl).trans (if_neg e1)) hs5
  cases hq'
  refine mj_T.if0 (a := 1) rfl ⟨by decide, by decide⟩ (fun hc => ?_) (fun hc => ?_)
  · simp [jc] at hc
  have herr : rdErr T tm0 = -1 := by unfold rdErr; rw [hres, c1]; exact (if_pos rfl).trans (if_pos e1)
  iterate 4 refine mj_T.pl rfl rfl rfl rfl ?_
  refine mj_T.if0 (a := 1) rfl ⟨by decide, by decide⟩ (fun hc => ?_) (fun hc => ?_)
  · simp [jc] at hc
  iterate 2 refine mj_T.pl rfl rfl rfl rfl ?_
  refine rT_put (v := ((0 : Nat) : Int)) hs5 rfl rfl (by decide) rfl (fun h6 hs6 => ?_)
  rw [st3_10] at hs6
  iterate 2 refine mj_T.pl rfl rfl rfl rfl ?_
  refine rT_put (v := 0) hs6 rfl rfl (by decide) rfl (fun h7 hs7 => ?_)
  rw [jvu13_st3] at hs7
  iterate 2 refine mj_T.pl rfl rfl rfl rfl ?_
  have hre2 := hre
  rw [c1] at hre2
  refine mj_T.call (ins := .invokevirtual 268) rfl rfl (Nat.le_of_ble_eq_true rfl) (Nat.le_of_ble_eq_true rfl) (by simp [mj_recv, rS_f hs7]) rfl (mj_Ok.up (by decide) (wk_all k9.1 ht hT 8 (rdF tm0) 0 23 c V h7 (by decide) (by decide) (by decide) (Nat.zero_le _) hre2 hs7)) (fun v' h8 hq' => ?_) (fun i h' hq' => by obtain ⟨_, _, _, _, _, _, _, _, h⟩ := hq'; cases h)
  obtain ⟨V8, a8, y8, _, hs8, ha8, _, hy8, hq'⟩ := hq'
  cases hq'
  have hy : y8 = 0 ∨ y8 = 1 := by rcases hy8 with ⟨q, _⟩ | q; exact Or.inl q; exact Or.inr q
  have K9 := ((K1.put13 hy).rd3 (a := (a8 : Int)) (o := 8 - ((8 : Nat) : Int)) (e := -1) ⟨by omega, by omega⟩ ⟨by decide, by decide⟩ ⟨by decide, by decide⟩).clear
  iterate 2 refine mj_T.pl rfl rfl rfl rfl ?_
  refine rT_put (v := 0) hs8 rfl rfl (by decide) rfl (fun h9 hs9 => ?_)
  refine mj_T.pl rfl rfl rfl rfl ?_
  refine mj_T.if0 (a := 1) rfl ⟨by decide, by decide⟩ (fun hc => ?_) (fun hc => ?_)
  rotate_left
  · simp [jc] at hc
  refine mj_T.pl rfl rfl rfl rfl ?_
  refine rT_get (v := .int (jn y8)) hs9 rfl rfl ?_
  refine mj_T.if0 (a := y8) rfl ⟨by omega, by omega⟩ (fun hc9 => ?_) (fun hc9 => ?_)
  · skip
    iterate 4 refine mj_T.pl rfl rfl rfl rfl ?_
    refine mj_T.call (ins := .invokevirtual 219) rfl rfl (Nat.le_of_ble_eq_true rfl) (Nat.le_of_ble_eq_true rfl) (by simp [mj_recv, rS_f hs9]) rfl (mj_Ok.up (by decide) (rp_puts (D := 0) (r := x) (p := 23) (c := 3) (by omega) (by decide) ⟨by decide, by decide⟩ K9 hs9)) (fun v' h10 hq' => ?_) (fun i h' hq' => by obtain ⟨_, _, _, h, _⟩ := hq'; cases h)
    obtain ⟨z9, _, hz9, e9, hI9⟩ := hq'
    cases e9
    exact mj_T.ret rfl rfl rfl (Or.inl ⟨⟨by omega, by omega⟩, z9, _, hz9, rfl, by rw [herr]; exact hI9⟩)
  iterate 2 refine mj_T.pl rfl rfl rfl rfl ?_
  refine mj_T.call (ins := .invokevirtual 198) rfl rfl (Nat.le_of_ble_eq_true rfl) (Nat.le_of_ble_eq_true rfl) (by simp [mj_recv, rS_f hs9]) rfl (mj_Ok.up (by decide) (rp_fails (D := 0) (c := 3) hs9)) (fun v' g4 hq' => ?_) (fun i h' hq' => by obtain ⟨_, _, h⟩ := hq'; cases h)
  obtain ⟨_, hs4, hq'⟩ := hq'
  cases hq'
  refine mj_T.pl rfl rfl rfl rfl ?_
  exact mj_T.ret rfl rfl rfl (Or.inl ⟨⟨by omega, by omega⟩, 0, g4, ⟨by decide, by decide⟩, rfl, ⟨_, N, B, X, V8, hs4, by rw [herr]; exact K9.put ⟨by decide, by decide⟩ (by decide) (by decide) (by decide) (by decide) (by decide)⟩⟩)
end RPU
/-! The reference's constructor, and what it has thrown. -/
section RIN
variable {D pc r1 r2 r3 r4 r5 : Nat} {M : mj_M} {loc : mj_L} {st : List Value} {h : mj_H} {Q : mj_R → Prop}
theorem mj_T.lstj {a n : Nat} (N : Nat → Int) (i z : Int) (hc : M.2.2.2.2.1 pc = some (.lastore, r1, r2, r3, r4, r5)) (ha : h[a]? = some (.inl (1, n, fun j => .long (jl (N j))))) (hi : jr i) (h0 : 0 ≤ i ∧ i < n) (k : mj_T D M (pc + 1) loc st (h.set a (.inl (1, n, fun j => .long (jl (jvu N i.toNat z j))))) Q) : mj_T D M pc loc (.long (jl z) :: .int (jn i) :: .ref a :: st) h Q := by
  refine mj_T.last (g := fun j => jl (N j)) hc ha hi h0 ?_
  have e : (fun j => Value.long (if j = i.toNat then jl z else jl (N j))) = fun j => Value.long (jl (jvu N i.toNat z j)) := funext fun j => by
    unfold jvu
    split <;> rfl
  rw [e]
  exact k
end RIN
def riN : Nat → Int := jvu (jvu (jvu (jvu (jvu (jvu (jvu (fun _ => 0) 0 (-2)) 2 1) 14 (-1)) 16 1) 26 1) 27 (-5)) 28 6
def riS : Nat → Int := fun k => if k = 12 then -1 else 0
theorem riN_1 : ∀ j, j < 91 → -5 ≤ riN j ∧ riN j ≤ 6 ∧ (29 ≤ j → riN j = 0) := by decide
theorem riK : jK 0 (-1) riS riN (fun _ => 0) (fun _ => 0) := by
  refine ⟨⟨fun j hj => ?_, by decide, fun k hk => ?_, fun i j _ hj => ?_⟩, by decide, fun k hk => ?_, by decide, rfl, by decide, fun k => ?_, Or.inl rfl, fun j hj => ?_⟩
  · have := riN_1 j (by omega)
    omega
  · have h1 := (riN_1 (79 + k) (by omega)).2.2 (by omega)
    have h2 := (riN_1 (85 + k) (by omega)).2.2 (by omega)
    omega
  · have : riN 78 = 0 := rfl
    omega
  · have : riS 2 = 0 := rfl
    omega
  · unfold riS
    split
    · exact ⟨by decide, by decide⟩
    · exact ⟨by decide, by decide⟩
  · omega
theorem riV : jV (fun _ => jn 0) (fun _ => 0) := fun s hs => ⟨rfl, by show jn 0 = jn ((jnl 0 : Nat) : Int); rw [jnl_zero]; rfl, fun j hj => by
  have h0 : jnl (0 : Int).natAbs = 0 := jnl_zero
  rw [h0] at hj
  omega, by
  have h0 : jnl (0 : Int).natAbs = 0 := jnl_zero
  rw [h0]
  omega⟩
theorem rp_init {D : Nat} : mj_Ok (D + 2) 174 [.ref 0] [.inr (10, mj_new 10)] (fun r => ∃ h', r = (.inl none, h') ∧ jI 0 (-1) (fun _ => 0) h') := by
  refine mj_Ok.of (M := mj_m174) rfl rfl rfl ?_
  refine mj_T.pl rfl rfl rfl rfl ?_
  refine mj_T.prim rfl rfl rfl ?_
  iterate 31 refine mj_T.pl rfl rfl rfl rfl ?_
  iterate 4 refine mj_T.pl rfl rfl rfl rfl ?_
  refine mj_T.eq (st2 := [.long (jl (-2)), .int (jn 0), .ref 1]) ?_ rfl rfl rfl rfl
  refine mj_T.lstj (fun _ => 0) 0 (-2) rfl rfl ⟨by decide, by decide⟩ ⟨by decide, by decide⟩ ?_
  iterate 4 refine mj_T.pl rfl rfl rfl rfl ?_
  refine mj_T.eq (st2 := [.long (jl (1)), .int (jn 2), .ref 1]) ?_ rfl rfl rfl rfl
  refine mj_T.lstj (jvu (fun _ => 0) 0 (-2)) 2 (1) rfl rfl ⟨by decide, by decide⟩ ⟨by decide, by decide⟩ ?_
  iterate 4 refine mj_T.pl rfl rfl rfl rfl ?_
  refine mj_T.eq (st2 := [.long (jl (-1)), .int (jn 14), .ref 1]) ?_ rfl rfl rfl rfl
  refine mj_T.lstj (jvu (jvu (fun _ => 0) 0 (-2)) 2 (1)) 14 (-1) rfl rfl ⟨by decide, by decide⟩ ⟨by decide, by decide⟩ ?_
  iterate 4 refine mj_T.pl rfl rfl rfl rfl ?_
  refine mj_T.eq (st2 := [.long (jl (1)), .int (jn 16), .ref 1]) ?_ rfl rfl rfl rfl
  refine mj_T.lstj (jvu (jvu (jvu (fun _ => 0) 0 (-2)) 2 (1)) 14 (-1)) 16 (1) rfl rfl ⟨by decide, by decide⟩ ⟨by decide, by decide⟩ ?_
  iterate 4 refine mj_T.pl rfl rfl rfl rfl ?_
  refine mj_T.eq (st2 := [.long (jl (1)), .int (jn 26), .ref 1]) ?_ rfl rfl rfl rfl
  refine mj_T.lstj (jvu (jvu (jvu (jvu (fun _ => 0) 0 (-2)) 2 (1)) 14 (-1)) 16 (1)) 26 (1) rfl rfl ⟨by decide, by decide⟩ ⟨by decide, by decide⟩ ?_
  iterate 4 refine mj_T.pl rfl rfl rfl rfl ?_
  refine mj_T.eq (st2 := [.long (jl (-5)), .int (jn 27), .ref 1]) ?_ rfl rfl rfl rfl
  refine mj_T.lstj (jvu (jvu (jvu (jvu (jvu (fun _ => 0) 0 (-2)) 2 (1)) 14 (-1)) 16 (1)) 26 (1)) 27 (-5) rfl rfl ⟨by decide, by decide⟩ ⟨by decide, by decide⟩ ?_
  iterate 4 refine mj_T.pl rfl rfl rfl rfl ?_
  refine mj_T.eq (st2 := [.long (jl (6)), .int (jn 28), .ref 1]) ?_ rfl rfl rfl rfl
  refine mj_T.lstj (jvu (jvu (jvu (jvu (jvu (jvu (fun _ => 0) 0 (-2)) 2 (1)) 14 (-1)) 16 (1)) 26 (1)) 27 (-5)) 28 (6) rfl rfl ⟨by decide, by decide⟩ ⟨by decide, by decide⟩ ?_
  have hs : ∀ L : mj_H, L = rH riS riN (fun _ => 0) (fun _ => 0) (fun _ => 0) → rS riS riN (fun _ => 0) (fun _ => 0) (fun _ => 0) (fun _ => 0) L := fun L hL => ⟨fun _ => jn 0, fun _ => .int (jn 0), fun _ => .int (jn 0), riV, hL⟩
  refine mj_T.eq (h2 := rH riS riN (fun _ => 0) (fun _ => 0) (fun _ => 0)) ?_ rfl rfl rfl rfl
  have hs0 := hs _ rfl
  generalize rH riS riN (fun _ => 0) (fun _ => 0) (fun _ => 0) = h at hs0
  iterate 3 refine mj_T.pl rfl rfl rfl rfl ?_
  refine mj_T.call (ins := .invokevirtual 45) rfl rfl (Nat.le_of_ble_eq_true rfl) (Nat.le_of_ble_eq_true rfl) (by simp [mj_recv, rS_f hs0]) rfl (jS_sets (D := D) (rG riS riN (fun _ => 0) (fun _ => 0) (fun _ => 0)) (s := 650) (v := 0) (by decide) ⟨by decide, by decide⟩ hs0) (fun v' h1 hq' => ?_) (fun i h' hq' => by obtain ⟨_, _, h⟩ := hq'; cases h)
  obtain ⟨_, hs1, hq'⟩ := hq'
  cases hq'
  iterate 3 refine mj_T.pl rfl rfl rfl rfl ?_
  refine mj_T.call (ins := .invokevirtual 45) rfl rfl (Nat.le_of_ble_eq_true rfl) (Nat.le_of_ble_eq_true rfl) (by simp [mj_recv, jS_a (rG riS riN (fun _ => 0) (fun _ => 0) (fun _ => 0)) hs1]) rfl (jS_sets (D := D) (rG riS riN (fun _ => 0) (fun _ => 0) (fun _ => 0)) (s := 651) (v := 1) (by decide) ⟨by decide, by decide⟩ hs1) (fun v' h2 hq' => ?_) (fun i h' hq' => by obtain ⟨_, _, h⟩ := hq'; cases h)
  obtain ⟨_, hs2, hq'⟩ := hq'
  cases hq'
  exact mj_T.ret rfl rfl rfl ⟨h2, rfl, ⟨_, _, _, _, _, hs2, riK⟩⟩
