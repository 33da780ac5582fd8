/-! The reading of sums and products by the reference, whole. -/
section RPQ
variable {S N B T X V : Nat → Int} {h : mj_H} {tm : Nat} {er : Int}
theorem rd_prod_step (h9 : S 9 = (tm : Int)) (ht : tm ≤ 200) (hT : ∀ j : Nat, j < tm → 1 ≤ T j ∧ T j ≤ 255) {f d : Nat} (hd : d ≤ 8)
    (ih0 : ∀ (a : Nat) (h : mj_H) (res : Bool × Nat), a ≤ tm → rpr0 T tm f 0 d a = some res → rS (st3 S (a : Int) (8 - (d : Int)) er) N B T X V h → mj_Ok (4 * d + 5) 296 [.ref 0] h (rdPost S N B T X V tm er a d res))
    (ih1 : ∀ (a : Nat) (h : mj_H) (res : Bool × Nat) (l1 : Option Value) (Q : mj_R → Prop), a ≤ tm → rpr0 T tm f 1 d a = some res → rS (st3 S (a : Int) (8 - (d : Int)) er) N B T X V h → (∀ r, rdPost S N B T X V tm er a d res r → Q r) → mj_T (4 * d + 5) mj_m294 18 [some (.ref 0), l1] [] h Q)
    (a : Nat) (h : mj_H) (res : Bool × Nat) (l1 : Option Value) (Q : mj_R → Prop) (ha : a ≤ tm) (hr : rpr0 T tm (f + 1) 1 d a = some res) (hs : rS (st3 S (a : Int) (8 - (d : Int)) er) N B T X V h) (hend : ∀ r, rdPost S N B T X V tm er a d res r → Q r) : mj_T (4 * d + 5) mj_m294 0 [some (.ref 0), l1] [] h Q ∧ mj_T (4 * d + 5) mj_m294 18 [some (.ref 0), l1] [] h Q := by
  unfold rpr0 at hr
  obtain ⟨res0, hres0⟩ : ∃ z, rpr0 T tm f 0 d a = some z := by
    rcases hx : rpr0 T tm f 0 d a with _ | z
    · rw [hx] at hr
      cases hr
    · exact ⟨z, rfl⟩
  rw [hres0] at hr
  have t5 : ∀ (h1 : mj_H) (v1 : Option Value), rdPost S N B T X V tm er a d res0 (.inl v1, h1) → ∃ z : Int, v1 = some (.int (jn z)) ∧ mj_T (4 * d + 5) mj_m294 5 [some (.ref 0), some (.int (jn z))] [] h1 Q := fun h1 v1 hq' => by
    rcases hq' with ⟨c, _, ⟨c1, c2, c3⟩, hs1, hq'⟩ | ⟨x, c, o2, _, ⟨c1, c2, c3, c4⟩, hs1, hq'⟩
    · cases hq'
      refine ⟨1, rfl, ?_⟩
      subst c1
      refine mj_T.pl rfl rfl rfl rfl ?_
      refine mj_T.if0 (a := 1) rfl ⟨by decide, by decide⟩ (fun hc => ?_) (fun hc => ?_)
      · simp [jc] at hc
      iterate 2 refine mj_T.pl rfl rfl rfl rfl ?_
      have hcl := rskp_le (T := T) c2
      have hcg := rskp_ge (T := T) (tm := tm) c
      refine mj_T.call (ins := .invokevirtual 354) rfl rfl (Nat.le_of_ble_eq_true rfl) (Nat.le_of_ble_eq_true rfl) (by simp [mj_recv, rS_f hs1]) rfl (mj_Ok.up (by omega) (rd_takes (D := 0) (c := 42) ⟨by decide, by decide⟩ h9 ht hT (by assumption) hs1)) (fun v' h2 hq' => ?_) (fun i h' hq' => by rcases hq' with ⟨_, _, _, _, h⟩ | ⟨_, _, _, h⟩ <;> cases h)
      rcases hq' with ⟨b, _, ⟨b1, b2, b3⟩, hs2, hq'⟩ | ⟨_, b1, hs2, hq'⟩
      · cases hq'
        simp only [b1] at hr
        refine mj_T.if0 (a := 1) rfl ⟨by decide, by decide⟩ (fun hc => ?_) (fun hc => ?_)
        · simp [jc] at hc
        exact ih1 b h2 res _ Q b2 hr hs2 (fun r k => hend r (k.le (by omega)))
      · cases hq'
        simp only [b1] at hr
        refine mj_T.if0 (a := 0) rfl ⟨by decide, by decide⟩ (fun hc => ?_) (fun hc => ?_)
        · refine mj_T.pl rfl rfl rfl rfl ?_
          exact mj_T.ret rfl rfl rfl (hend _ (Or.inl ⟨_, h2, ⟨(Option.some.inj hr).symm, hcl, by omega⟩, hs2, rfl⟩))
        · simp [jc] at hc
    · cases hq'
      refine ⟨0, rfl, ?_⟩
      subst c1
      refine mj_T.pl rfl rfl rfl rfl ?_
      refine mj_T.if0 (a := 0) rfl ⟨by decide, by decide⟩ (fun hc => ?_) (fun hc => ?_)
      · refine mj_T.pl rfl rfl rfl rfl ?_
        exact mj_T.ret rfl rfl rfl (hend _ (Or.inr ⟨x, c, o2, h1, ⟨(Option.some.inj hr).symm, c2, c3, c4⟩, hs1, rfl⟩))
      · simp [jc] at hc
  constructor
  · refine mj_T.pl rfl rfl rfl rfl ?_
    refine mj_T.call (ins := .invokevirtual 360) rfl rfl (Nat.le_of_ble_eq_true rfl) (Nat.le_of_ble_eq_true rfl) (by simp [mj_recv, rS_f hs]) rfl (ih0 a h res0 ha hres0 hs) (fun v' h1 hq' => ?_) (fun i h' hq' => by rcases hq' with ⟨_, _, _, _, h⟩ | ⟨_, _, _, _, _, _, h⟩ <;> cases h)
    obtain ⟨z, hz, k⟩ := t5 h1 v' hq'
    subst hz
    refine mj_T.pl rfl rfl rfl rfl ?_
    exact k
  · refine mj_T.pl rfl rfl rfl rfl ?_
    refine mj_T.call (ins := .invokevirtual 360) rfl rfl (Nat.le_of_ble_eq_true rfl) (Nat.le_of_ble_eq_true rfl) (by simp [mj_recv, rS_f hs]) rfl (ih0 a h res0 ha hres0 hs) (fun v' h1 hq' => ?_) (fun i h' hq' => by rcases hq' with ⟨_, _, _, _, h⟩ | ⟨_, _, _, _, _, _, h⟩ <;> cases h)
    obtain ⟨z, hz, k⟩ := t5 h1 v' hq'
    subst hz
    iterate 2 refine mj_T.pl rfl rfl rfl rfl ?_
    exact k
theorem rd_sum_step (h9 : S 9 = (tm : Int)) (ht : tm ≤ 200) (hT : ∀ j : Nat, j < tm → 1 ≤ T j ∧ T j ≤ 255) {f d : Nat} (hd : d ≤ 8)
    (ih1 : ∀ (a : Nat) (h : mj_H) (res : Bool × Nat), a ≤ tm → rpr0 T tm f 1 d a = some res → rS (st3 S (a : Int) (8 - (d : Int)) er) N B T X V h → mj_Ok (4 * d + 6) 294 [.ref 0] h (rdPost S N B T X V tm er a d res))
    (ih2 : ∀ (a : Nat) (h : mj_H) (res : Bool × Nat) (z1 : Int) (l2 : Option Value) (Q : mj_R → Prop), a ≤ tm → rpr0 T tm f 2 d a = some res → rS (st3 S (a : Int) (8 - (d : Int)) er) N B T X V h → (∀ r, rdPost S N B T X V tm er a d res r → Q r) → mj_T (4 * d + 6) mj_m293 34 [some (.ref 0), some (.int (jn z1)), l2] [] h Q)
    (a : Nat) (h : mj_H) (res : Bool × Nat) (z1 : Int) (l2 : Option Value) (Q : mj_R → Prop) (ha : a ≤ tm) (hr : rpr0 T tm (f + 1) 2 d a = some res) (hs : rS (st3 S (a : Int) (8 - (d : Int)) er) N B T X V h) (hend : ∀ r, rdPost S N B T X V tm er a d res r → Q r) : mj_T (4 * d + 6) mj_m293 7 [some (.ref 0), some (.int (jn z1)), l2] [] h Q ∧ mj_T (4 * d + 6) mj_m293 34 [some (.ref 0), some (.int (jn z1)), l2] [] h Q := by
  unfold rpr0 at hr
  obtain ⟨res0, hres0⟩ : ∃ z, rpr0 T tm f 1 d a = some z := by
    rcases hx : rpr0 T tm f 1 d a with _ | z
    · rw [hx] at hr
      cases hr
    · exact ⟨z, rfl⟩
  rw [hres0] at hr
  have t12 : ∀ (h1 : mj_H) (v1 : Option Value), rdPost S N B T X V tm er a d res0 (.inl v1, h1) → ∃ z : Int, v1 = some (.int (jn z)) ∧ mj_T (4 * d + 6) mj_m293 12 [some (.ref 0), some (.int (jn z1)), some (.int (jn z))] [] h1 Q := fun h1 v1 hq' => by
    rcases hq' with ⟨c, _, ⟨c1, c2, c3⟩, hs1, hq'⟩ | ⟨x, c, o2, _, ⟨c1, c2, c3, c4⟩, hs1, hq'⟩
    · cases hq'
      refine ⟨1, rfl, ?_⟩
      subst c1
      refine mj_T.pl rfl rfl rfl rfl ?_
      refine mj_T.if0 (a := 1) rfl ⟨by decide, by decide⟩ (fun hc => ?_) (fun hc => ?_)
      · simp [jc] at hc
      iterate 2 refine mj_T.pl rfl rfl rfl rfl ?_
      have hcl := rskp_le (T := T) c2
      have hcg := rskp_ge (T := T) (tm := tm) c
      have hid := rskp_idem (T := T) c2
      refine mj_T.call (ins := .invokevirtual 354) rfl rfl (Nat.le_of_ble_eq_true rfl) (Nat.le_of_ble_eq_true rfl) (by simp [mj_recv, rS_f hs1]) rfl (mj_Ok.up (by omega) (rd_takes (D := 0) (c := 43) ⟨by decide, by decide⟩ h9 ht hT (by assumption) hs1)) (fun v' h2 hq' => ?_) (fun i h' hq' => by rcases hq' with ⟨_, _, _, _, h⟩ | ⟨_, _, _, h⟩ <;> cases h)
      rcases hq' with ⟨b, _, ⟨b1, b2, b3⟩, hs2, hq'⟩ | ⟨_, b1, hs2, hq'⟩
      · cases hq'
        simp only [b1] at hr
        refine mj_T.if0 (a := 1) rfl ⟨by decide, by decide⟩ (fun hc => ?_) (fun hc => ?_)
        rotate_left
        · simp [jc] at hc
        exact ih2 b h2 res z1 _ Q b2 hr hs2 (fun r k => hend r (k.le (by omega)))
      · cases hq'
        simp only [b1] at hr
        refine mj_T.if0 (a := 0) rfl ⟨by decide, by decide⟩ (fun hc => ?_) (fun hc => ?_)
        · simp [jc] at hc
        iterate 2 refine mj_T.pl rfl rfl rfl rfl ?_
        refine mj_T.call (ins := .invokevirtual 354) rfl rfl (Nat.le_of_ble_eq_true rfl) (Nat.le_of_ble_eq_true rfl) (by simp [mj_recv, rS_f hs2]) rfl (mj_Ok.up (by omega) (rd_takes (D := 0) (c := 45) ⟨by decide, by decide⟩ h9 ht hT (by assumption) hs2)) (fun v' h3 hq' => ?_) (fun i h' hq' => by rcases hq' with ⟨_, _, _, _, h⟩ | ⟨_, _, _, h⟩ <;> cases h)
        rcases hq' with ⟨b, _, ⟨d1, d2, d3⟩, hs3, hq'⟩ | ⟨_, d1, hs3, hq'⟩
        · cases hq'
          simp only [d1] at hr
          refine mj_T.if0 (a := 1) rfl ⟨by decide, by decide⟩ (fun hc => ?_) (fun hc => ?_)
          · simp [jc] at hc
          exact ih2 b h3 res z1 _ Q d2 hr hs3 (fun r k => hend r (k.le (by omega)))
        · cases hq'
          simp only [d1] at hr
          rw [hid] at hs3
          refine mj_T.if0 (a := 0) rfl ⟨by decide, by decide⟩ (fun hc => ?_) (fun hc => ?_)
          · refine mj_T.pl rfl rfl rfl rfl ?_
            exact mj_T.ret rfl rfl rfl (hend _ (Or.inl ⟨_, h3, ⟨(Option.some.inj hr).symm, hcl, by omega⟩, hs3, rfl⟩))
          · simp [jc] at hc
    · cases hq'
      refine ⟨0, rfl, ?_⟩
      subst c1
      refine mj_T.pl rfl rfl rfl rfl ?_
      refine mj_T.if0 (a := 0) rfl ⟨by decide, by decide⟩ (fun hc => ?_) (fun hc => ?_)
      · refine mj_T.pl rfl rfl rfl rfl ?_
        exact mj_T.ret rfl rfl rfl (hend _ (Or.inr ⟨x, c, o2, h1, ⟨(Option.some.inj hr).symm, c2, c3, c4⟩, hs1, rfl⟩))
      · simp [jc] at hc
  constructor
  · refine mj_T.pl rfl rfl rfl rfl ?_
    refine mj_T.call (ins := .invokevirtual 357) rfl rfl (Nat.le_of_ble_eq_true rfl) (Nat.le_of_ble_eq_true rfl) (by simp [mj_recv, rS_f hs]) rfl (ih1 a h res0 ha hres0 hs) (fun v' h1 hq' => ?_) (fun i h' hq' => by rcases hq' with ⟨_, _, _, _, h⟩ | ⟨_, _, _, _, _, _, h⟩ <;> cases h)
    obtain ⟨z, hz, k⟩ := t12 h1 v' hq'
    subst hz
    refine mj_T.pl rfl rfl rfl rfl ?_
    exact k
  · refine mj_T.pl rfl rfl rfl rfl ?_
    refine mj_T.call (ins := .invokevirtual 357) rfl rfl (Nat.le_of_ble_eq_true rfl) (Nat.le_of_ble_eq_true rfl) (by simp [mj_recv, rS_f hs]) rfl (ih1 a h res0 ha hres0 hs) (fun v' h1 hq' => ?_) (fun i h' hq' => by rcases hq' with ⟨_, _, _, _, h⟩ | ⟨_, _, _, _, _, _, h⟩ <;> cases h)
    obtain ⟨z, hz, k⟩ := t12 h1 v' hq'
    subst hz
    iterate 2 refine mj_T.pl rfl rfl rfl rfl ?_
    exact k
/-- what the four methods do with so much fuel -/
def rdAll (S N B T X V : Nat → Int) (tm : Nat) (er : Int) (f : Nat) : Prop := ∀ d, d ≤ 8 → 
  (∀ (a : Nat) (h : mj_H) (res : Bool × Nat), a ≤ tm → rpr0 T tm f 0 d a = some res → rS (st3 S (a : Int) (8 - (d : Int)) er) N B T X V h → mj_Ok (4 * d + 5) 296 [.ref 0] h (rdPost S N B T X V tm er a d res)) ∧
  (∀ (a : Nat) (h : mj_H) (res : Bool × Nat) (l1 : Option Value) (Q : mj_R → Prop), a ≤ tm → rpr0 T tm f 1 d a = some res → rS (st3 S (a : Int) (8 - (d : Int)) er) N B T X V h → (∀ r, rdPost S N B T X V tm er a d res r → Q r) → mj_T (4 * d + 5) mj_m294 0 [some (.ref 0), l1] [] h Q ∧ mj_T (4 * d + 5) mj_m294 18 [some (.ref 0), l1] [] h Q) ∧
  (∀ (a : Nat) (h : mj_H) (res : Bool × Nat) (z1 : Int) (l2 : Option Value) (Q : mj_R → Prop), a ≤ tm → rpr0 T tm f 2 d a = some res → rS (st3 S (a : Int) (8 - (d : Int)) er) N B T X V h → (∀ r, rdPost S N B T X V tm er a d res r → Q r) → mj_T (4 * d + 6) mj_m293 7 [some (.ref 0), some (.int (jn z1)), l2] [] h Q ∧ mj_T (4 * d + 6) mj_m293 34 [some (.ref 0), some (.int (jn z1)), l2] [] h Q) ∧
  (∀ (a : Nat) (h : mj_H) (res : Bool × Nat), a ≤ tm → rpr0 T tm f 3 d a = some res → rS (st3 S (a : Int) (8 - (d : Int)) er) N B T X V h → mj_Ok (4 * d + 7) 293 [.ref 0] h (rdPost S N B T X V tm er a d res))
theorem rd_all (h9 : S 9 = (tm : Int)) (ht : tm ≤ 200) (hT : ∀ j : Nat, j < tm → 1 ≤ T j ∧ T j ≤ 255) : ∀ f, rdAll S N B T X V tm er f
  | 0 => fun d hd => ⟨fun a h res _ hr => (by cases hr), fun a h res l1 Q _ hr => (by cases hr), fun a h res z1 l2 Q _ hr => (by cases hr), fun a h res _ hr => (by cases hr)⟩
  | f + 1 => fun d hd => by
    have IH := rd_all h9 ht hT f
    obtain ⟨i0, i1, i2, i3⟩ := IH d hd
    refine ⟨fun a h res ha hr hs => ?_, fun a h res l1 Q ha hr hs hend => ?_, fun a h res z1 l2 Q ha hr hs hend => ?_, fun a h res ha hr hs => ?_⟩
    · exact rd_power_step h9 ht hT hd ha hr hs (fun d2 a2 h2 res2 hd2 ha2 hr2 hs2 => (IH d2 (by omega)).2.2.2 a2 h2 res2 ha2 hr2 hs2)
    · exact rd_prod_step h9 ht hT hd i0 (fun a2 h2 res2 l2 Q2 ha2 hr2 hs2 he2 => (i1 a2 h2 res2 l2 Q2 ha2 hr2 hs2 he2).2) a h res l1 Q ha hr hs hend
    · refine rd_sum_step h9 ht hT hd (fun a2 h2 res2 ha2 hr2 hs2 => ?_) (fun a2 h2 res2 z2 l3 Q2 ha2 hr2 hs2 he2 => (i2 a2 h2 res2 z2 l3 Q2 ha2 hr2 hs2 he2).2) a h res z1 l2 Q ha hr hs hend
      refine mj_Ok.of (M := mj_m294) rfl rfl rfl ?_
      exact (i1 a2 h2 res2 none _ ha2 hr2 hs2 (fun r k => k)).1
    · refine mj_Ok.of (M := mj_m293) rfl rfl rfl ?_
      unfold rpr0 at hr
      have hle := rskp_le (T := T) ha
      have hge := rskp_ge (T := T) (tm := tm) a
      iterate 2 refine mj_T.pl rfl rfl rfl rfl ?_
      refine mj_T.call (ins := .invokevirtual 354) rfl rfl (Nat.le_of_ble_eq_true rfl) (Nat.le_of_ble_eq_true rfl) (by simp [mj_recv, rS_f hs]) rfl (mj_Ok.up (by omega) (rd_takes (D := 0) (c := 45) ⟨by decide, by decide⟩ h9 ht hT (by assumption) hs)) (fun v' h1 hq' => ?_) (fun i h' hq' => by rcases hq' with ⟨_, _, _, _, h⟩ | ⟨_, _, _, h⟩ <;> cases h)
      rcases hq' with ⟨b, _, ⟨b1, b2, b3⟩, hs1, hq'⟩ | ⟨_, b1, hs1, hq'⟩
      · cases hq'
        simp only [b1] at hr
        refine mj_T.pl rfl rfl rfl rfl ?_
        exact (i2 b h1 res 1 none _ b2 hr hs1 (fun r k => k.le (by omega))).1
      · cases hq'
        simp only [b1] at hr
        refine mj_T.pl rfl rfl rfl rfl ?_
        exact (i2 _ h1 res 0 none _ hle hr hs1 (fun r k => k.le (by omega))).1
end RPQ
/-! The reading ends: so much fuel is enough. -/
section RFU
variable {T : Nat → Int} {tm : Nat}
theorem rtk_bd {c : Int} {a b : Nat} (h : rtk T tm c a = some b) : a < b ∧ b ≤ tm := by
  unfold rtk at h
  split at h
  · rename_i q
    have := rskp_ge (T := T) (tm := tm) a
    cases h
    omega
  · cases h
theorem rnm_bd {most : Int} {a : Nat} (ha : a ≤ tm) {z : Bool × Nat} (h : rnm T tm most a = z) (hz : z.1 = true) : a < z.2 ∧ z.2 ≤ tm := by
  have h1 := rskp_ge (T := T) (tm := tm) a
  have h2 := rskp_le (T := T) ha
  have h3 := rdg_le (T := T) (tm - rskp T tm a) (rskp T tm a)
  have h3 : rdgp T tm (rskp T tm a) ≤ rskp T tm a + (tm - rskp T tm a) := h3
  unfold rnm at h
  split at h
  · rename_i q
    subst h
    show a < rdgp T tm (rskp T tm a) ∧ rdgp T tm (rskp T tm a) ≤ tm
    have q1 := q.1.1
    omega
  · subst h
    cases hz
theorem rex_bd {a : Nat} (ha : a ≤ tm) (hz : (rex T tm a).1 = true) : a ≤ (rex T tm a).2 ∧ (rex T tm a).2 ≤ tm := by
  unfold rex at hz ⊢
  rcases hx : rtk T tm 94 a with _ | c
  · exact ⟨rskp_ge a, rskp_le ha⟩
  · rw [hx] at hz
    have h1 := rtk_bd hx
    have h2 := rnm_bd (T := T) h1.2 rfl hz
    exact ⟨by show a ≤ (rnm T tm 12 c).2; omega, h2.2⟩
def rok (tm a : Nat) (z : Option (Bool × Nat)) : Prop := ∃ r, z = some r ∧ (r.1 = true → a < r.2 ∧ r.2 ≤ tm)
abbrev rPd (tm d : Nat) : Nat := 1 + d * (2 * tm + 8)
theorem rok_power {f d a : Nat} (ha : a ≤ tm) (ih : ∀ d2 a2, d = d2 + 1 → a2 ≤ tm → rok tm a2 (rpr0 T tm f 3 d2 a2)) : rok tm a (rpr0 T tm (f + 1) 0 d a) := by
  unfold rpr0
  have hge := rskp_ge (T := T) (tm := tm) a
  have hle := rskp_le (T := T) ha
  split
  · rename_i q
    refine ⟨_, rfl, fun hz => ?_⟩
    have := rex_bd (T := T) (tm := tm) (a := rskp T tm a + 1) (by omega) hz
    omega
  · split
    · rename_i q1 q2
      split
      · exact ⟨_, rfl, fun hz => by cases hz⟩
      · rename_i q3
        obtain ⟨r, hr, hb⟩ := ih (d - 1) (rskp T tm a + 1) (by omega) (by omega)
        rw [hr]
        obtain ⟨b1, b2⟩ := r
        cases b1 with
        | false => exact ⟨_, rfl, fun hz => by cases hz⟩
        | true =>
          have hb := hb rfl
          rcases hx : rtk T tm 41 b2 with _ | e
          · exact ⟨(false, rskp T tm b2), by simp only [hx], fun hz => by cases hz⟩
          · have h1 := rtk_bd hx
            refine ⟨rex T tm e, by simp only [hx], fun hz => ?_⟩
            have := rex_bd (T := T) h1.2 hz
            have hb1 : rskp T tm a + 1 < b2 := hb.1
            omega
    · rcases hx : rnm T tm 9223372036854775807 (rskp T tm a) with ⟨b1, b2⟩
      cases b1 with
      | false => exact ⟨_, rfl, fun hz => by cases hz⟩
      | true =>
        have h1 : rskp T tm a < b2 ∧ b2 ≤ tm := rnm_bd (T := T) hle hx rfl
        refine ⟨rex T tm b2, rfl, fun hz => ?_⟩
        have := rex_bd (T := T) h1.2 hz
        omega
theorem rok_prod {d : Nat} (ih : ∀ f a, a ≤ tm → rPd tm d ≤ f → rok tm a (rpr0 T tm f 0 d a)) : ∀ n a f, a + n = tm → rPd tm d + n + 1 ≤ f → rok tm a (rpr0 T tm f 1 d a) := by
  intro n
  induction n using Nat.strongRecOn with
  | _ n ihn =>
    intro a f ha hf
    obtain ⟨f, rfl⟩ : ∃ g, f = g + 1 := ⟨f - 1, by omega⟩
    unfold rpr0
    obtain ⟨r, hr, hb⟩ := ih f a (by omega) (by omega)
    rw [hr]
    obtain ⟨b1, b2⟩ := r
    cases b1 with
    | false => exact ⟨_, rfl, fun hz => by cases hz⟩
    | true =>
      have hb : a < b2 ∧ b2 ≤ tm := hb rfl
      rcases hx : rtk T tm 42 b2 with _ | e
      · have h1 := rskp_ge (T := T) (tm := tm) b2
        have h2 := rskp_le (T := T) hb.2
        exact ⟨(true, rskp T tm b2), by simp only [hx], fun _ => ⟨by show a < rskp T tm b2; omega, h2⟩⟩
      · have h1 := rtk_bd hx
        obtain ⟨r2, hr2, hb2⟩ := ihn (tm - e) (by omega) e f (by omega) (by omega)
        exact ⟨r2, by simp only [hx]; exact hr2, fun hz => by have := hb2 hz; omega⟩
theorem rok_sum {d : Nat} (ih : ∀ a f, a ≤ tm → rPd tm d + tm + 1 ≤ f → rok tm a (rpr0 T tm f 1 d a)) : ∀ n a f, a + n = tm → rPd tm d + tm + n + 2 ≤ f → rok tm a (rpr0 T tm f 2 d a) := by
  intro n
  induction n using Nat.strongRecOn with
  | _ n ihn =>
    intro a f ha hf
    obtain ⟨f, rfl⟩ : ∃ g, f = g + 1 := ⟨f - 1, by omega⟩
    unfold rpr0
    obtain ⟨r, hr, hb⟩ := ih a f (by omega) (by omega)
    rw [hr]
    obtain ⟨b1, b2⟩ := r
    cases b1 with
    | false => exact ⟨_, rfl, fun hz => by cases hz⟩
    | true =>
      have hb : a < b2 ∧ b2 ≤ tm := hb rfl
      have h1 := rskp_ge (T := T) (tm := tm) b2
      have h2 := rskp_le (T := T) hb.2
      rcases hx : rtk T tm 43 b2 with _ | e
      · rcases hy : rtk T tm 45 (rskp T tm b2) with _ | e
        · exact ⟨(true, rskp T tm b2), by simp only [hx, hy], fun _ => ⟨by show a < rskp T tm b2; omega, h2⟩⟩
        · have h3 := rtk_bd hy
          obtain ⟨r2, hr2, hb2⟩ := ihn (tm - e) (by omega) e f (by omega) (by omega)
          exact ⟨r2, by simp only [hx, hy]; exact hr2, fun hz => by have := hb2 hz; omega⟩
      · have h3 := rtk_bd hx
        obtain ⟨r2, hr2, hb2⟩ := ihn (tm - e) (by omega) e f (by omega) (by omega)
        exact ⟨r2, by simp only [hx]; exact hr2, fun hz => by have := hb2 hz; omega⟩
theorem rok_all : ∀ d, (∀ f a, a ≤ tm → rPd tm d ≤ f → rok tm a (rpr0 T tm f 0 d a)) ∧ (∀ f a, a ≤ tm → rPd tm d + 2 * tm + 3 ≤ f → rok tm a (rpr0 T tm f 3 d a)) := by
  intro d
  induction d with
  | zero =>
    have hP0 : rPd tm 0 = 1 := by
      show 1 + 0 * (2 * tm + 8) = 1
      omega
    have h0 : ∀ f a, a ≤ tm → rPd tm 0 ≤ f → rok tm a (rpr0 T tm f 0 0 a) := fun f a ha hf => by
      obtain ⟨f, rfl⟩ : ∃ g, f = g + 1 := ⟨f - 1, by omega⟩
      exact rok_power ha (fun d2 a2 e => absurd e (by omega))
    refine ⟨h0, fun f a ha hf => ?_⟩
    have h1 := rok_prod (T := T) h0
    have h2 := rok_sum (T := T) (d := 0) (fun a f ha hf => h1 (tm - a) a f (by omega) (by omega))
    obtain ⟨f, rfl⟩ : ∃ g, f = g + 1 := ⟨f - 1, by omega⟩
    unfold rpr0
    rcases hx : rtk T tm 45 a with _ | e
    · have g1 := rskp_ge (T := T) (tm := tm) a
      have g2 := rskp_le (T := T) ha
      obtain ⟨r2, hr2, hb2⟩ := h2 (tm - rskp T tm a) (rskp T tm a) f (by omega) (by omega)
      exact ⟨r2, hr2, fun hz => by have := hb2 hz; omega⟩
    · have g1 := rtk_bd hx
      obtain ⟨r2, hr2, hb2⟩ := h2 (tm - e) e f (by omega) (by omega)
      exact ⟨r2, hr2, fun hz => by have := hb2 hz; omega⟩
  | succ d ih =>
    have hP : rPd tm (d + 1) = rPd tm d + (2 * tm + 8) := by
      show 1 + (d + 1) * (2 * tm + 8) = 1 + d * (2 * tm + 8) + (2 * tm + 8)
      rw [Nat.succ_mul]
      omega
    have h0 : ∀ f a, a ≤ tm → rPd tm (d + 1) ≤ f → rok tm a (rpr0 T tm f 0 (d + 1) a) := fun f a ha hf => by
      obtain ⟨f, rfl⟩ : ∃ g, f = g + 1 := ⟨f - 1, by omega⟩
      exact rok_power ha (fun d2 a2 e ha2 => by
        have e2 : d2 = d := by omega
        subst e2
        exact ih.2 f a2 ha2 (by omega))
    refine ⟨h0, fun f a ha hf => ?_⟩
    have h1 := rok_prod (T := T) h0
    have h2 := rok_sum (T := T) (d := d + 1) (fun a f ha hf => h1 (tm - a) a f (by omega) (by omega))
    obtain ⟨f, rfl⟩ : ∃ g, f = g + 1 := ⟨f - 1, by omega⟩
    unfold rpr0
    rcases hx : rtk T tm 45 a with _ | e
    · have g1 := rskp_ge (T := T) (tm := tm) a
      have g2 := rskp_le (T := T) ha
      obtain ⟨r2, hr2, hb2⟩ := h2 (tm - rskp T tm a) (rskp T tm a) f (by omega) (by omega)
      exact ⟨r2, hr2, fun hz => by have := hb2 hz; omega⟩
    · have g1 := rtk_bd hx
      obtain ⟨r2, hr2, hb2⟩ := h2 (tm - e) e f (by omega) (by omega)
      exact ⟨r2, hr2, fun hz => by have := hb2 hz; omega⟩
end RFU
/-- the whole reading: whether the text is a sum up to where, or where the error is -/
def rdF (tm : Nat) : Nat := rPd tm 8 + 2 * tm + 3
def rdR (T : Nat → Int) (tm : Nat) : Bool × Nat := (rpr0 T tm (rdF tm) 3 8 0).getD (false, 0)
theorem rdR_eq (T : Nat → Int) (tm : Nat) : rpr0 T tm (rdF tm) 3 8 0 = some (rdR T tm) ∧ ((rdR T tm).1 = true → (rdR T tm).2 ≤ tm) := by
  obtain ⟨r, h1, h2⟩ := (rok_all (T := T) (tm := tm) 8).2 (rdF tm) 0 (Nat.zero_le _) (Nat.le_refl _)
  unfold rdR
  rw [h1]
  exact ⟨rfl, fun hz => (h2 hz).2⟩
/-- the error's place of a text, -1 if there is none -/
def rdErr (T : Nat → Int) (tm : Nat) : Int := if (rdR T tm).1 = true then (if rskp T tm (rdR T tm).2 = tm then -1 else ((rskp T tm (rdR T tm).2 : Nat) : Int)) else (((rdR T tm).2 : Nat) : Int)
/-! The reference works a text out. -/
theorem w9 {S : Nat → Int} {y : Int} {tm : Nat} (h9 : S 9 = (tm : Int)) : jvu S 13 y 9 = (tm : Int) := by rw [jvu_ne _ _ _ (by decide), h9]
theorem st3_13 (S : Nat → Int) (a o e y z : Int) : jvu (st3 (jvu S 13 y) a o e) 13 z = st3 (jvu S 13 z) a o e := funext fun x => by
  unfold st3 jvu
  (repeat' split) <;> omega
theorem st3_g13 {S : Nat → Int} {a o e y : Int} : (rF (st3 (jvu S 13 y) a o e))[13]? = some (.int (jn y)) := rfl
def wkPost (S N B T X V0 : Nat → Int) (tm : Nat) (o e : Int) (p b : Nat) (r : mj_R) : Prop := ∃ (V2 : Nat → Int) (a2 : Nat) (y : Int) (h2 : mj_H), rS (st3 (jvu S 13 y) (a2 : Int) o e) N B T X V2 h2 ∧ a2 ≤ tm ∧ (∀ s, 299 ≤ s → s < p * 13 → V2 s = V0 s) ∧ ((y = 0 ∧ a2 = b ∧ (∀ x, x < 13 → (V2 (p * 13 + x)).natAbs ≤ 10 ^ 18)) ∨ y = 1) ∧ r = (.inl none, h2)
section RWK
variable {S N B T X V : Nat → Int} {h : mj_H} {D tm : Nat} {o e : Int}
theorem wk_bounds {a p : Nat} (hp : p ≤ 50) (hs : rS (st3 (jvu S 13 0) (a : Int) o e) N B T X V h) : mj_Ok (D + 3) 297 [.ref 0, .int (jn (p : Nat))] h (fun r => ∃ (y : Int) (h2 : mj_H), rS (st3 (jvu S 13 y) (a : Int) o e) N B T X V h2 ∧ ((y = 0 ∧ (∀ x, x < 13 → (V (p * 13 + x)).natAbs ≤ 10 ^ 18)) ∨ y = 1) ∧ r = (.inl none, h2)) := by
  refine mj_Ok.of (M := mj_m297) rfl rfl rfl ?_
  iterate 2 refine mj_T.pl rfl rfl rfl rfl ?_
  refine rT_get hs rfl st3_g13 ?_
  refine mj_T.if0 (a := 0) rfl ⟨by decide, by decide⟩ (fun hc => ?_) (fun hc => ?_)
  · simp [jc] at hc
  iterate 2 refine mj_T.pl rfl rfl rfl rfl ?_
  refine mj_T.call (ins := .invokevirtual 195) rfl rfl (Nat.le_of_ble_eq_true rfl) (Nat.le_of_ble_eq_true rfl) (by simp [mj_recv, rS_f hs]) rfl (mj_Ok.up (by omega) (jp_isInBounds (D := 0) (rG (st3 (jvu S 13 0) (a : Int) o e) N B T X) (p := p) hp (fun x hx => jS_700 hs (by omega)) hs)) (fun v' h' hq' => ?_) (fun i h' hq' => by cases hq')
  cases hq'
  have hb := jib_le V p 13
  refine mj_T.if0 (a := ((jib V p 13 : Nat) : Int)) rfl ⟨by omega, by omega⟩ (fun hc => ?_) (fun hc => ?_)
  · simp only [jc, Bool.not_eq_true', decide_eq_false_iff_not] at hc
    have hsh := jib_short (V := V) (p := p) (by omega)
    refine mj_T.pl rfl rfl rfl rfl ?_
    refine rT_put (v := 0) hs rfl rfl (by decide) rfl (fun h1 hs1 => ?_)
    rw [st3_13] at hs1
    exact mj_T.ret rfl rfl rfl ⟨0, h1, hs1, Or.inl ⟨rfl, fun x hx => jR_of_short (hsh x hx)⟩, rfl⟩
  · iterate 2 refine mj_T.pl rfl rfl rfl rfl ?_
    refine rT_put (v := 1) hs rfl rfl (by decide) rfl (fun h1 hs1 => ?_)
    rw [st3_13] at hs1
    exact mj_T.ret rfl rfl rfl ⟨1, h1, hs1, Or.inr rfl, rfl⟩
theorem wk_num_loop (h9 : S 9 = (tm : Int)) (ht : tm ≤ 200) (hT : ∀ j : Nat, j < tm → 1 ≤ T j ∧ T j ≤ 255) {s : Nat} {Q : mj_R → Prop} :
    ∀ (n k : Nat) (h : mj_H), s + k + n = tm → rS (st3 (jvu S 13 0) ((s + k : Nat) : Int) o e) N B T X V h → (∀ (k2 : Nat) (h2 : mj_H), s + k2 = rdg T n (s + k) → rS (st3 (jvu S 13 0) ((s + k2 : Nat) : Int) o e) N B T X V h2 → Q (.inl (some (.long (jl (rvl T s k2)))), h2)) → mj_T (D + 1) mj_m298 6 [some (.ref 0), some (.long (jl (rvl T s k))), none] [] h Q := by
  intro n
  induction n with
  | zero =>
    intro k h hk hs hend
    refine mj_T.pl rfl rfl rfl rfl ?_
    refine rT_get hs rfl st3_g10 ?_
    refine mj_T.pl rfl rfl rfl rfl ?_
    refine rT_get hs rfl (st3_g9 (w9 h9)) ?_
    refine mj_T.icmp (a := ((s + k : Nat) : Int)) (b := (tm : Int)) rfl ⟨by omega, by omega⟩ ⟨by omega, by omega⟩ (fun hc => ?_) (fun hc => ?_)
    · refine mj_T.pl rfl rfl rfl rfl ?_
      exact mj_T.ret rfl rfl rfl (hend k h rfl hs)
    · simp only [jc, decide_eq_false_iff_not] at hc
      omega
  | succ n ih =>
    intro k h hk hs hend
    have hTa := hT (s + k) (by omega)
    refine mj_T.pl rfl rfl rfl rfl ?_
    refine rT_get hs rfl st3_g10 ?_
    refine mj_T.pl rfl rfl rfl rfl ?_
    refine rT_get hs rfl (st3_g9 (w9 h9)) ?_
    refine mj_T.icmp (a := ((s + k : Nat) : Int)) (b := (tm : Int)) rfl ⟨by omega, by omega⟩ ⟨by omega, by omega⟩ (fun hc => ?_) (fun hc => ?_)
    · simp only [jc, decide_eq_true_eq] at hc
      omega
    refine mj_T.pl rfl rfl rfl rfl ?_
    refine rT_get hs rfl rfl ?_
    refine mj_T.pl rfl rfl rfl rfl ?_
    refine rT_get hs rfl st3_g10 ?_
    refine rT_ldT hs rfl ⟨by omega, by omega⟩ ?_
    rw [Int.toNat_natCast]
    refine mj_T.call (ins := .invokestatic 363) rfl rfl (Nat.le_of_ble_eq_true rfl) (Nat.le_of_ble_eq_true rfl) rfl rfl (mj_Ok.up (by omega) (rd_isDigit (D := 0) (v := T (s + k)) ⟨by omega, by omega⟩)) (fun v' h' hq' => ?_) (fun i h' hq' => by rcases hq' with ⟨_, h⟩ | ⟨_, h⟩ <;> cases h)
    rcases hq' with ⟨hd, hq'⟩ | ⟨hd, hq'⟩
    · cases hq'
      rw [show rdg T (n + 1) (s + k) = rdg T n (s + k + 1) from if_pos hd] at hend
      refine mj_T.if0 (a := 1) rfl ⟨by decide, by decide⟩ (fun hc2 => ?_) (fun hc2 => ?_)
      · simp [jc] at hc2
      iterate 2 refine mj_T.pl rfl rfl rfl rfl ?_
      refine mj_T.lmul (a := 10) rfl ?_
      refine mj_T.pl rfl rfl rfl rfl ?_
      refine rT_get hs rfl rfl ?_
      refine mj_T.pl rfl rfl rfl rfl ?_
      refine rT_get hs rfl st3_g10 ?_
      refine rT_ldT hs rfl ⟨by omega, by omega⟩ ?_
      rw [Int.toNat_natCast]
      refine mj_T.i2l rfl ⟨by omega, by omega⟩ ?_
      refine mj_T.ladd rfl ?_
      refine mj_T.pl rfl rfl rfl rfl ?_
      refine mj_T.lsub (b := 48) rfl ?_
      refine mj_T.pl rfl rfl rfl rfl ?_
      iterate 2 refine mj_T.pl rfl rfl rfl rfl ?_
      refine rT_get hs rfl st3_g10 ?_
      refine mj_T.pl rfl rfl rfl rfl ?_
      refine mj_T.iadd (a := ((s + k : Nat) : Int)) (b := 1) rfl ?_
      rw [show ((s + k : Nat) : Int) + 1 = ((s + (k + 1) : Nat) : Int) by omega]
      refine rT_put (v := ((s + (k + 1) : Nat) : Int)) hs rfl rfl (by decide) rfl (fun h1 hs1 => ?_)
      rw [st3_10] at hs1
      refine mj_T.pl rfl rfl rfl rfl ?_
      exact ih (k + 1) h1 (by omega) hs1 hend
    · cases hq'
      rw [show rdg T (n + 1) (s + k) = s + k from if_neg hd] at hend
      refine mj_T.if0 (a := 0) rfl ⟨by decide, by decide⟩ (fun hc2 => ?_) (fun hc2 => ?_)
      · refine mj_T.pl rfl rfl rfl rfl ?_
        exact mj_T.ret rfl rfl rfl (hend k h rfl hs)
      · simp [jc] at hc2
theorem wk_number (h9 : S 9 = (tm : Int)) (ht : tm ≤ 200) (hT : ∀ j : Nat, j < tm → 1 ≤ T j ∧ T j ≤ 255) {a : Nat} (ha : a ≤ tm) (hs : rS (st3 (jvu S 13 0) (a : Int) o e) N B T X V h) : mj_Ok (D + 2) 298 [.ref 0] h (fun r => ∃ (k : Nat) (h2 : mj_H), (rskp T tm a + k = rdgp T tm (rskp T tm a) ∧ rskp T tm a + k ≤ tm) ∧ rS (st3 (jvu S 13 0) ((rskp T tm a + k : Nat) : Int) o e) N B T X V h2 ∧ r = (.inl (some (.long (jl (rvl T (rskp T tm a) k)))), h2)) := by
  refine mj_Ok.of (M := mj_m298) rfl rfl rfl ?_
  have hle := rskp_le (T := T) ha
  refine mj_T.pl rfl rfl rfl rfl ?_
  refine mj_T.call (ins := .invokevirtual 348) rfl rfl (Nat.le_of_ble_eq_true rfl) (Nat.le_of_ble_eq_true rfl) (by simp [mj_recv, rS_f hs]) rfl (mj_Ok.up (by omega) (rd_skips (D := 0) (S := jvu S 13 0) (w9 h9) ht hT ha hs)) (fun v' h1 hq' => ?_) (fun i h' hq' => by obtain ⟨_, _, h⟩ := hq'; cases h)
  obtain ⟨_, hs1, hq'⟩ := hq'
  cases hq'
  obtain ⟨s, hsdef⟩ : ∃ s, rskp T tm a = s := ⟨_, rfl⟩
  rw [hsdef] at hs1 hle ⊢
  iterate 2 refine mj_T.pl rfl rfl rfl rfl ?_
  refine wk_num_loop (D := D) h9 ht hT (tm - s) 0 h1 (by omega) hs1 (fun k h2 hk hs2 => ?_)
  have hdl := rdg_le (T := T) (tm - s) (s + 0)
  exact ⟨k, h2, ⟨hk, by omega⟩, hs2, rfl⟩
theorem wk_tail (h9 : S 9 = (tm : Int)) (ht : tm ≤ 200) (hT : ∀ j : Nat, j < tm → 1 ≤ T j ∧ T j ≤ 255) {E c p b : Nat} {l2 : Option Value} (hE : 8 ≤ E) (hp1 : 23 ≤ p) (hp2 : p ≤ 49) (hc : c ≤ tm) (hr : rex T tm c = (true, b)) {V0 : Nat → Int} (hfr : ∀ s, 299 ≤ s → s < p * 13 → V s = V0 s) (hb : (∀ x, x < 13 → (V (p * 13 + x)).natAbs ≤ 10 ^ 18)) (hs : rS (st3 (jvu S 13 0) (c : Int) o e) N B T X V h) : mj_T E mj_m301 121 [some (.ref 0), some (.int (jn (p : Nat))), l2] [] h (wkPost S N B T X V0 tm o e p b) := by
  have hle := rskp_le (T := T) hc
  iterate 2 refine mj_T.pl rfl rfl rfl rfl ?_
  refine mj_T.call (ins := .invokevirtual 354) rfl rfl (Nat.le_of_ble_eq_true rfl) (Nat.le_of_ble_eq_true rfl) (by simp [mj_recv, rS_f hs]) rfl (mj_Ok.up (by omega) (rd_takes (D := 0) (S := jvu S 13 0) (c := 94) ⟨by decide, by decide⟩ (w9 h9) ht hT hc hs)) (fun v' h1 hq' => ?_) (fun i h' hq' => by rcases hq' with ⟨_, _, _, _, h⟩ | ⟨_, _, _, h⟩ <;> cases h)
  rcases hq' with ⟨c2, _, ⟨b1, b2, b3⟩, hs1, hq'⟩ | ⟨_, b1, hs1, hq'⟩
  rotate_left
  · cases hq'
    have ee : b = rskp T tm c := by
      unfold rex at hr
      simp only [b1] at hr
      cases hr
      rfl
    refine mj_T.if0 (a := 0) rfl ⟨by decide, by decide⟩ (fun hc => ?_) (fun hc => ?_)
    · simp [jc] at hc
    exact mj_T.ret rfl rfl rfl ⟨V, _, 0, h1, hs1, hle, hfr, Or.inl ⟨rfl, ee.symm, hb⟩, rfl⟩
  cases hq'
  have hnm : rnm T tm 12 c2 = (true, b) := by
    unfold rex at hr
    simp only [b1] at hr
    exact hr
  refine mj_T.if0 (a := 1) rfl ⟨by decide, by decide⟩ (fun hc => ?_) (fun hc => ?_)
  rotate_left
  · simp [jc] at hc
  iterate 3 refine mj_T.pl rfl rfl rfl rfl ?_
  refine mj_T.call (ins := .invokevirtual 124) rfl rfl (Nat.le_of_ble_eq_true rfl) (Nat.le_of_ble_eq_true rfl) (by simp [mj_recv, rS_f hs1]) rfl (mj_Ok.up (by omega) (jp_copiesPoly (D := 0) (rG (st3 (jvu S 13 0) (c2 : Int) o e) N B T X) (p := 0) (q := p) (by decide) (by omega) (by omega) hs1)) (fun v' h2 hq' => ?_) (fun i h' hq' => by obtain ⟨_, _, h⟩ := hq'; cases h)
  obtain ⟨_, hs2, hq'⟩ := hq'
  cases hq'
  have q1 : ∀ x, x < 13 → jfl V 0 (fun x => V (p * 13 + x)) 13 (0 * 13 + x) = V (p * 13 + x) := fun x hx => jfl_at _ 0 _ hx
  have q2 : ∀ s, 13 ≤ s → jfl V 0 (fun x => V (p * 13 + x)) 13 s = V s := fun s hx => jfl_off _ 0 _ (by omega)
  generalize jfl V 0 (fun x => V (p * 13 + x)) 13 = W2 at hs2 q1 q2
  iterate 5 refine mj_T.pl rfl rfl rfl rfl ?_
  refine mj_T.call (ins := .invokevirtual 389) rfl rfl (Nat.le_of_ble_eq_true rfl) (Nat.le_of_ble_eq_true rfl) (by simp [mj_recv, rS_f hs2]) rfl (mj_Ok.up (by omega) (wk_number (D := 0) h9 ht hT b2 hs2)) (fun v' h3 hq' => ?_) (fun i h' hq' => by obtain ⟨_, _, _, _, h⟩ := hq'; cases h)
  obtain ⟨k, _, ⟨k1, k2⟩, hs3, hq'⟩ := hq'
  cases hq'
  have hin : ∀ j, rskp T tm c2 ≤ j → j < rskp T tm c2 + k → 48 ≤ T j ∧ T j ≤ 57 := fun j j1 j2 => rdg_in (T := T) (tm - rskp T tm c2) (rskp T tm c2) j j1 (by show j < rdgp T tm (rskp T tm c2); omega)
  have hbd := rvl_bd (T := T) (s := rskp T tm c2) k hin
  unfold rnm at hnm
  rw [← k1, Nat.add_sub_cancel_left] at hnm
  split at hnm
  rotate_left
  · cases hnm
  rename_i hq
  cases hnm
  obtain ⟨n, hn⟩ := Int.eq_ofNat_of_zero_le hbd.1
  have hn12 : n ≤ 12 := by have := hq.2; omega
  refine mj_T.l2i rfl ?_
  rw [hn]
  refine mj_T.call (ins := .invokevirtual 229) rfl rfl (Nat.le_of_ble_eq_true rfl) (Nat.le_of_ble_eq_true rfl) (by simp [mj_recv, rS_f hs3]) rfl (mj_Ok.up (by omega) (jp_raises (D := 0) (rG (st3 (jvu S 13 0) ((rskp T tm c2 + k : Nat) : Int) o e) N B T X) (p := p) (a := 0) (al := 10 ^ 18) (n := n) (by omega) (by omega) (by decide) (by decide) (by omega) (by decide) (fun x hx => by rw [q1 x hx]; exact hb x hx) hn12 rp_small3 hs3)) (fun v' h4 hq' => ?_) (fun i h' hq' => by obtain ⟨_, _, _, _, ⟨h, _⟩ | ⟨h, _⟩⟩ := hq' <;> cases h)
  obtain ⟨W4, _, hs4, f4, ⟨hq', _⟩ | ⟨hq', _⟩⟩ := hq'
  · cases hq'
    refine mj_T.if0 (a := 0) rfl ⟨by decide, by decide⟩ (fun hc => ?_) (fun hc => ?_)
    · simp [jc] at hc
    iterate 2 refine mj_T.pl rfl rfl rfl rfl ?_
    refine rT_put (v := 1) hs4 rfl rfl (by decide) rfl (fun h5 hs5 => ?_)
    rw [st3_13] at hs5
    refine mj_T.pl rfl rfl rfl rfl ?_
    refine rT_get hs5 rfl st3_g13 ?_
    refine mj_T.if0 (a := 1) rfl ⟨by decide, by decide⟩ (fun hc => ?_) (fun hc => ?_)
    · exact mj_T.ret rfl rfl rfl ⟨W4, _, 1, h5, hs5, k2, fun s s1 s2 => by rw [f4 s (by omega) (by omega) (by omega), q2 s (by omega), hfr s s1 s2], Or.inr rfl, rfl⟩
    · simp [jc] at hc
  · cases hq'
    refine mj_T.if0 (a := 1) rfl ⟨by decide, by decide⟩ (fun hc => ?_) (fun hc => ?_)
    rotate_left
    · simp [jc] at hc
    refine mj_T.pl rfl rfl rfl rfl ?_
    refine rT_put (v := 0) hs4 rfl rfl (by decide) rfl (fun h5 hs5 => ?_)
    rw [st3_13] at hs5
    refine mj_T.pl rfl rfl rfl rfl ?_
    refine rT_get hs5 rfl st3_g13 ?_
    refine mj_T.if0 (a := 0) rfl ⟨by decide, by decide⟩ (fun hc => ?_) (fun hc => ?_)
    · simp [jc] at hc
    iterate 2 refine mj_T.pl rfl rfl rfl rfl ?_
    refine mj_T.call (ins := .invokevirtual 383) rfl rfl (Nat.le_of_ble_eq_true rfl) (Nat.le_of_ble_eq_true rfl) (by simp [mj_recv, rS_f hs5]) rfl (mj_Ok.up (by omega) (wk_bounds (D := 0) (p := p) (by omega) hs5)) (fun v' h6 hq' => ?_) (fun i h' hq' => by obtain ⟨_, _, _, _, h⟩ := hq'; cases h)
    obtain ⟨y, _, hs6, hy, hq'⟩ := hq'
    cases hq'
    exact mj_T.ret rfl rfl rfl ⟨W4, _, y, h6, hs6, k2, fun s s1 s2 => by rw [f4 s (by omega) (by omega) (by omega), q2 s (by omega), hfr s s1 s2], by rcases hy with ⟨y1, y2⟩ | y1; exact Or.inl ⟨y1, rfl, y2⟩; exact Or.inr y1, rfl⟩
end RWK
/-! The reference works a text out, whole. -/
section RWW
variable {S N B T X V : Nat → Int} {h : mj_H} {tm : Nat} {o e : Int}
theorem wk_power_step (h9 : S 9 = (tm : Int)) (ht : tm ≤ 200) (hT : ∀ j : Nat, j < tm → 1 ≤ T j ∧ T j ≤ 255) {f d a p b : Nat} (hp1 : 23 ≤ p) (hp2 : p + 3 * d ≤ 49) (ha : a ≤ tm) (hr : rpr0 T tm (f + 1) 0 d a = some (true, b)) (hs : rS (st3 (jvu S 13 0) (a : Int) o e) N B T X V h)
    (ih : ∀ (d2 a2 p2 b2 : Nat) (V : Nat → Int) (h : mj_H), d = d2 + 1 → 23 ≤ p2 → p2 + 2 + 3 * d2 ≤ 49 → a2 ≤ tm → rpr0 T tm f 3 d2 a2 = some (true, b2) → rS (st3 (jvu S 13 0) (a2 : Int) o e) N B T X V h → mj_Ok (4 * d2 + 14) 299 [.ref 0, .int (jn (p2 : Nat))] h (wkPost S N B T X V tm o e p2 b2)) : mj_Ok (4 * d + 12) 301 [.ref 0, .int (jn (p : Nat))] h (wkPost S N B T X V tm o e p b) := by
  refine mj_Ok.of (M := mj_m301) rfl rfl rfl ?_
  have hle := rskp_le (T := T) ha
  have hge := rskp_ge (T := T) (tm := tm) a
  refine mj_T.pl rfl rfl rfl rfl ?_
  refine mj_T.call (ins := .invokevirtual 348) rfl rfl (Nat.le_of_ble_eq_true rfl) (Nat.le_of_ble_eq_true rfl) (by simp [mj_recv, rS_f hs]) rfl (mj_Ok.up (by omega) (rd_skips (D := 0) (S := jvu S 13 0) (w9 h9) ht hT ha hs)) (fun v' h1 hq' => ?_) (fun i h' hq' => by obtain ⟨_, _, h⟩ := hq'; cases h)
  obtain ⟨_, hs1, hq'⟩ := hq'
  cases hq'
  have hid := rskp_idem (T := T) ha
  unfold rpr0 at hr
  obtain ⟨s, hsdef⟩ : ∃ s, rskp T tm a = s := ⟨_, rfl⟩
  rw [hsdef] at hs1 hle hge hr hid
  have hst : s < tm := by
    by_cases q : s < tm
    · exact q
    · rw [if_neg (fun z => q z.1), if_neg (fun z => q z.1)] at hr
      rcases hx : rnm T tm 9223372036854775807 s with ⟨z1, z2⟩
      rw [hx] at hr
      cases z1 with
      | false => cases hr
      | true =>
        have := rnm_bd (T := T) hle hx rfl
        have h2 : s < z2 ∧ z2 ≤ tm := this
        omega
  have hTs := hT s hst
  refine mj_T.pl rfl rfl rfl rfl ?_
  refine rT_get hs1 rfl rfl ?_
  refine mj_T.pl rfl rfl rfl rfl ?_
  refine rT_get hs1 rfl st3_g10 ?_
  refine rT_ldT hs1 rfl ⟨by omega, by omega⟩ ?_
  rw [Int.toNat_natCast]
  refine mj_T.pl rfl rfl rfl rfl ?_
  refine mj_T.icmp (a := T s) (b := 120) rfl ⟨by omega, by omega⟩ ⟨by decide, by decide⟩ (fun hc2 => ?_) (fun hc2 => ?_)
  rotate_left
  · simp only [jc, Bool.not_eq_false', decide_eq_true_eq] at hc2
    rw [if_pos ⟨hst, hc2⟩] at hr
    iterate 2 refine mj_T.pl rfl rfl rfl rfl ?_
    refine rT_get hs1 rfl st3_g10 ?_
    refine mj_T.pl rfl rfl rfl rfl ?_
    refine mj_T.iadd (a := (s : Int)) (b := 1) rfl ?_
    rw [show (s : Int) + 1 = ((s + 1 : Nat) : Int) by omega]
    refine rT_put (v := ((s + 1 : Nat) : Int)) hs1 rfl rfl (by decide) rfl (fun h2 hs2 => ?_)
    rw [st3_10] at hs2
    iterate 2 refine mj_T.pl rfl rfl rfl rfl ?_
    refine mj_T.call (ins := .invokevirtual 110) rfl rfl (Nat.le_of_ble_eq_true rfl) (Nat.le_of_ble_eq_true rfl) (by simp [mj_recv, rS_f hs2]) rfl (mj_Ok.up (by omega) (jp_empties (D := 0) (rG (st3 (jvu S 13 0) ((s + 1 : Nat) : Int) o e) N B T X) (p := p) (by omega) hs2)) (fun v' h3 hq' => ?_) (fun i h' hq' => by obtain ⟨_, _, h⟩ := hq'; cases h)
    obtain ⟨_, hs3, hq'⟩ := hq'
    cases hq'
    have q1 : ∀ x, x < 13 → jfl V p (fun _ => 0) 13 (p * 13 + x) = 0 := fun x hx => jfl_at _ p _ hx
    have q2 : ∀ s, s < p * 13 → jfl V p (fun _ => 0) 13 s = V s := fun s hx => jfl_off _ p _ (by omega)
    generalize jfl V p (fun _ => 0) 13 = W1 at hs3 q1 q2
    iterate 3 refine mj_T.pl rfl rfl rfl rfl ?_
    refine mj_T.call (ins := .invokestatic 104) rfl rfl (Nat.le_of_ble_eq_true rfl) (Nat.le_of_ble_eq_true rfl) rfl rfl (mj_Ok.up (by omega) (jq_slot (D := 0) (p := p) (i := 1))) (fun v' h' hq' => ?_) (fun i h' hq' => by cases hq')
    cases hq'
    refine mj_T.pl rfl rfl rfl rfl ?_
    refine mj_T.call (ins := .invokevirtual 45) rfl rfl (Nat.le_of_ble_eq_true rfl) (Nat.le_of_ble_eq_true rfl) (by simp [mj_recv, rS_f hs3]) rfl (mj_Ok.up (by omega) (jS_sets (D := 0) (rG (st3 (jvu S 13 0) ((s + 1 : Nat) : Int) o e) N B T X) (s := p * 13 + 1) (v := 1) (by omega) ⟨by decide, by decide⟩ hs3)) (fun v' h4 hq' => ?_) (fun i h' hq' => by obtain ⟨_, _, h⟩ := hq'; cases h)
    obtain ⟨_, hs4, hq'⟩ := hq'
    cases hq'
    refine mj_T.pl rfl rfl rfl rfl ?_
    refine wk_tail (E := 4 * d + 11) h9 ht hT (by omega) hp1 (by omega) (by omega : s + 1 ≤ tm) (Option.some.inj hr) (fun s s1 s2 => by rw [jvu_ne _ _ _ (by omega), q2 s s2]) (fun x hx => ?_) hs4
    by_cases x1 : x = 1
    · subst x1
      rw [jvu_at]
      decide
    · rw [jvu_ne _ _ _ (by omega), q1 x hx]
      exact Nat.zero_le _
  simp only [jc, Bool.not_eq_true', decide_eq_false_iff_not] at hc2
  rw [if_neg (fun z => hc2 z.2)] at hr
  refine mj_T.pl rfl rfl rfl rfl ?_
  refine rT_get hs1 rfl rfl ?_
  refine mj_T.pl rfl rfl rfl rfl ?_
  refine rT_get hs1 rfl st3_g10 ?_
  refine rT_ldT hs1 rfl ⟨by omega, by omega⟩ ?_
  rw [Int.toNat_natCast]
  refine mj_T.pl rfl rfl rfl rfl ?_
  refine mj_T.icmp (a := T s) (b := 40) rfl ⟨by omega, by omega⟩ ⟨by decide, by decide⟩ (fun hc3 => ?_) (fun hc3 => ?_)
  · simp only [jc, Bool.not_eq_true', decide_eq_false_iff_not] at hc3
    rw [if_neg (fun z => hc3 z.2)] at hr
    rcases hx : rnm T tm 9223372036854775807 s with ⟨z1, z2⟩
    rw [hx] at hr
    cases z1 with
    | false => cases hr
    | true =>
    have hzb : s < z2 ∧ z2 ≤ tm := rnm_bd (T := T) hle hx rfl
    iterate 2 refine mj_T.pl rfl rfl rfl rfl ?_
    refine mj_T.call (ins := .invokevirtual 110) rfl rfl (Nat.le_of_ble_eq_true rfl) (Nat.le_of_ble_eq_true rfl) (by simp [mj_recv, rS_f hs1]) rfl (mj_Ok.up (by omega) (jp_empties (D := 0) (rG (st3 (jvu S 13 0) (s : Int) o e) N B T X) (p := p) (by omega) hs1)) (fun v' h3 hq' => ?_) (fun i h' hq' => by obtain ⟨_, _, h⟩ := hq'; cases h)
    obtain ⟨_, hs3, hq'⟩ := hq'
    cases hq'
    have q1 : ∀ x, x < 13 → jfl V p (fun _ => 0) 13 (p * 13 + x) = 0 := fun x hx => jfl_at _ p _ hx
    have q2 : ∀ s, s < p * 13 → jfl V p (fun _ => 0) 13 s = V s := fun s hx => jfl_off _ p _ (by omega)
    generalize jfl V p (fun _ => 0) 13 = W1 at hs3 q1 q2
    iterate 3 refine mj_T.pl rfl rfl rfl rfl ?_
    refine mj_T.call (ins := .invokestatic 104) rfl rfl (Nat.le_of_ble_eq_true rfl) (Nat.le_of_ble_eq_true rfl) rfl rfl (mj_Ok.up (by omega) (jq_slot (D := 0) (p := p) (i := 0))) (fun v' h' hq' => ?_) (fun i h' hq' => by cases hq')
    cases hq'
    refine mj_T.pl rfl rfl rfl rfl ?_
    refine mj_T.call (ins := .invokevirtual 389) rfl rfl (Nat.le_of_ble_eq_true rfl) (Nat.le_of_ble_eq_true rfl) (by simp [mj_recv, rS_f hs3]) rfl (mj_Ok.up (by omega) (wk_number (D := 0) h9 ht hT hle hs3)) (fun v' h4 hq' => ?_) (fun i h' hq' => by obtain ⟨_, _, _, _, h⟩ := hq'; cases h)
    obtain ⟨k, _, ⟨k1, k2⟩, hs4, hq'⟩ := hq'
    cases hq'
    rw [hid] at k1 k2 hs4
    have hin : ∀ j, s ≤ j → j < s + k → 48 ≤ T j ∧ T j ≤ 57 := fun j j1 j2 => rdg_in (T := T) (tm - s) s j j1 (by show j < rdgp T tm s; omega)
    have hbd := rvl_bd (T := T) (s := s) k hin
    have hz2 : z2 = s + k ∧ k ≤ 18 := by
      unfold rnm at hx
      rw [hid, ← k1, Nat.add_sub_cancel_left] at hx
      split at hx
      · rename_i q
        cases hx
        exact ⟨rfl, q.1.2⟩
      · cases hx
    have hpw : 10 ^ k ≤ 10 ^ 18 := Nat.pow_le_pow_right (by decide) hz2.2
    rw [hid]
    refine mj_T.call (ins := .invokevirtual 45) rfl rfl (Nat.le_of_ble_eq_true rfl) (Nat.le_of_ble_eq_true rfl) (by simp [mj_recv, rS_f hs4]) rfl (mj_Ok.up (by omega) (jS_sets (D := 0) (rG (st3 (jvu S 13 0) ((s + k : Nat) : Int) o e) N B T X) (s := p * 13 + 0) (v := rvl T s k) (by omega) ⟨by omega, by omega⟩ hs4)) (fun v' h5 hq' => ?_) (fun i h' hq' => by obtain ⟨_, _, h⟩ := hq'; cases h)
    obtain ⟨_, hs5, hq'⟩ := hq'
    cases hq'
    have hr2 : rex T tm z2 = (true, b) := Option.some.inj hr
    rw [hz2.1] at hr2
    refine wk_tail (E := 4 * d + 11) h9 ht hT (by omega) hp1 (by omega) k2 hr2 (fun s s1 s2 => by rw [jvu_ne _ _ _ (by omega), q2 s s2]) (fun x hx => ?_) hs5
    by_cases x1 : x = 0
    · subst x1
      rw [jvu_at]
      omega
    · rw [jvu_ne _ _ _ (by omega), q1 x hx]
      exact Nat.zero_le _
  simp only [jc, Bool.not_eq_false', decide_eq_true_eq] at hc3
  rw [if_pos ⟨hst, hc3⟩] at hr
  by_cases hd0 : d = 0
  · rw [if_pos hd0] at hr
    cases hr
  rw [if_neg hd0] at hr
  obtain ⟨d2, rfl⟩ : ∃ d2, d = d2 + 1 := ⟨d - 1, by omega⟩
  rw [Nat.add_sub_cancel] at hr
  rcases hy : rpr0 T tm f 3 d2 (s + 1) with _ | ⟨z1, z2⟩
  · rw [hy] at hr
    cases hr
  rw [hy] at hr
  cases z1 with
  | false => cases hr
  | true =>
  iterate 2 refine mj_T.pl rfl rfl rfl rfl ?_
  refine rT_get hs1 rfl st3_g10 ?_
  refine mj_T.pl rfl rfl rfl rfl ?_
  refine mj_T.iadd (a := (s : Int)) (b := 1) rfl ?_
  rw [show (s : Int) + 1 = ((s + 1 : Nat) : Int) by omega]
  refine rT_put (v := ((s + 1 : Nat) : Int)) hs1 rfl rfl (by decide) rfl (fun h2 hs2 => ?_)
  rw [st3_10] at hs2
  iterate 3 refine mj_T.pl rfl rfl rfl rfl ?_
  refine mj_T.iadd (a := (p : Int)) (b := 1) rfl ?_
  rw [show (p : Int) + 1 = ((p + 1 : Nat) : Int) by omega]
  refine mj_T.call (ins := .invokevirtual 268) rfl rfl (Nat.le_of_ble_eq_true rfl) (Nat.le_of_ble_eq_true rfl) (by simp [mj_recv, rS_f hs2]) rfl (mj_Ok.up (by omega) (ih d2 (s + 1) (p + 1) z2 V h2 rfl (by omega) (by omega) (by omega) hy hs2)) (fun v' h3 hq' => ?_) (fun i h' hq' => by obtain ⟨_, _, _, _, _, _, _, _, h⟩ := hq'; cases h)
  obtain ⟨V3, c3, y3, _, hs3, hc3l, hf3, hy3, hq'⟩ := hq'
  cases hq'
  refine mj_T.pl rfl rfl rfl rfl ?_
  refine rT_get hs3 rfl st3_g13 ?_
  rcases hy3 with ⟨y0, c0, hb3⟩ | y1
  rotate_left
  · subst y1
    refine mj_T.if0 (a := 1) rfl ⟨by decide, by decide⟩ (fun hc => ?_) (fun hc => ?_)
    · simp [jc] at hc
    exact mj_T.ret rfl rfl rfl ⟨V3, c3, 1, h3, hs3, hc3l, fun s s1 s2 => hf3 s s1 (by omega), Or.inr rfl, rfl⟩
  subst y0
  subst c0
  refine mj_T.if0 (a := 0) rfl ⟨by decide, by decide⟩ (fun hc => ?_) (fun hc => ?_)
  rotate_left
  · simp [jc] at hc
  iterate 4 refine mj_T.pl rfl rfl rfl rfl ?_
  refine mj_T.iadd (a := (p : Int)) (b := 1) rfl ?_
  rw [show (p : Int) + 1 = ((p + 1 : Nat) : Int) by omega]
  refine mj_T.call (ins := .invokevirtual 124) rfl rfl (Nat.le_of_ble_eq_true rfl) (Nat.le_of_ble_eq_true rfl) (by simp [mj_recv, rS_f hs3]) rfl (mj_Ok.up (by omega) (jp_copiesPoly (D := 0) (rG (st3 (jvu S 13 0) (c3 : Int) o e) N B T X) (p := p) (q := p + 1) (by omega) (by omega) (by omega) hs3)) (fun v' h4 hq' => ?_) (fun i h' hq' => by obtain ⟨_, _, h⟩ := hq'; cases h)
  obtain ⟨_, hs4, hq'⟩ := hq'
  cases hq'
  have q1 : ∀ x, x < 13 → jfl V3 p (fun x => V3 ((p + 1) * 13 + x)) 13 (p * 13 + x) = V3 ((p + 1) * 13 + x) := fun x hx => jfl_at _ p _ hx
  have q2 : ∀ s, s < p * 13 → jfl V3 p (fun x => V3 ((p + 1) * 13 + x)) 13 s = V3 s := fun s hx => jfl_off _ p _ (by omega)
  generalize jfl V3 p (fun x => V3 ((p + 1) * 13 + x)) 13 = W4 at hs4 q1 q2
  iterate 2 refine mj_T.pl rfl rfl rfl rfl ?_
  refine mj_T.call (ins := .invokevirtual 354) rfl rfl (Nat.le_of_ble_eq_true rfl) (Nat.le_of_ble_eq_true rfl) (by simp [mj_recv, rS_f hs4]) rfl (mj_Ok.up (by omega) (rd_takes (D := 0) (S := jvu S 13 0) (c := 41) ⟨by decide, by decide⟩ (w9 h9) ht hT hc3l hs4)) (fun v' h5 hq' => ?_) (fun i h' hq' => by rcases hq' with ⟨_, _, _, _, h⟩ | ⟨_, _, _, h⟩ <;> cases h)
  rcases hq' with ⟨c5, _, ⟨b1, b2, b3⟩, hs5, hq'⟩ | ⟨_, b1, hs5, hq'⟩
  rotate_left
  · simp only [b1] at hr
    cases hr
  cases hq'
  simp only [b1] at hr
  iterate 2 refine mj_T.pl rfl rfl rfl rfl ?_
  exact wk_tail (E := 4 * (d2 + 1) + 11) h9 ht hT (by omega) hp1 (by omega) b2 (Option.some.inj hr) (fun s s1 s2 => by rw [q2 s s2, hf3 s s1 (by omega)]) (fun x hx => by rw [q1 x hx]; exact hb3 x hx) hs5
theorem wk_prod_loop (h9 : S 9 = (tm : Int)) (ht : tm ≤ 200) (hT : ∀ j : Nat, j < tm → 1 ≤ T j ∧ T j ≤ 255) {d p b : Nat} {V0 : Nat → Int} (hp1 : 23 ≤ p) (hp2 : p + 1 + 3 * d ≤ 49) :
    ∀ f, (∀ f2, f2 < f → ∀ (a b2 : Nat) (V : Nat → Int) (h : mj_H), a ≤ tm → rpr0 T tm f2 0 d a = some (true, b2) → rS (st3 (jvu S 13 0) (a : Int) o e) N B T X V h → mj_Ok (4 * d + 12) 301 [.ref 0, .int (jn ((p + 1 : Nat) : Int))] h (wkPost S N B T X V tm o e (p + 1) b2)) →
    ∀ (c : Nat) (V : Nat → Int) (h : mj_H), c ≤ tm → (match rtk T tm 42 c with
      | none => some (true, rskp T tm c)
      | some e => rpr0 T tm f 1 d e) = some (true, b) → rS (st3 (jvu S 13 0) (c : Int) o e) N B T X V h → (∀ s, 299 ≤ s → s < p * 13 → V s = V0 s) → (∀ x, x < 13 → (V (p * 13 + x)).natAbs ≤ 10 ^ 18) → mj_T (4 * d + 12) mj_m300 23 [some (.ref 0), some (.int (jn (p : Nat)))] [] h (wkPost S N B T X V0 tm o e p b) := by
  intro f
  induction f with
  | zero =>
    intro _ c V h hc hr hs hfr hb
    have hle := rskp_le (T := T) hc
    iterate 2 refine mj_T.pl rfl rfl rfl rfl ?_
    refine mj_T.call (ins := .invokevirtual 354) rfl rfl (Nat.le_of_ble_eq_true rfl) (Nat.le_of_ble_eq_true rfl) (by simp [mj_recv, rS_f hs]) rfl (mj_Ok.up (by omega) (rd_takes (D := 0) (S := jvu S 13 0) (c := 42) ⟨by decide, by decide⟩ (w9 h9) ht hT hc hs)) (fun v' h1 hq' => ?_) (fun i h' hq' => by rcases hq' with ⟨_, _, _, _, h⟩ | ⟨_, _, _, h⟩ <;> cases h)
    rcases hq' with ⟨c2, _, ⟨b1, b2, b3⟩, hs1, hq'⟩ | ⟨_, b1, hs1, hq'⟩
    · simp only [b1] at hr
      cases hr
    · cases hq'
      simp only [b1] at hr
      cases hr
      refine mj_T.if0 (a := 0) rfl ⟨by decide, by decide⟩ (fun hc => ?_) (fun hc => ?_)
      · exact mj_T.ret rfl rfl rfl ⟨V, _, 0, h1, hs1, hle, hfr, Or.inl ⟨rfl, rfl, hb⟩, rfl⟩
      · simp [jc] at hc
  | succ f ihf =>
    intro ih0 c V h hc hr hs hfr hb
    have hle := rskp_le (T := T) hc
    iterate 2 refine mj_T.pl rfl rfl rfl rfl ?_
    refine mj_T.call (ins := .invokevirtual 354) rfl rfl (Nat.le_of_ble_eq_true rfl) (Nat.le_of_ble_eq_true rfl) (by simp [mj_recv, rS_f hs]) rfl (mj_Ok.up (by omega) (rd_takes (D := 0) (S := jvu S 13 0) (c := 42) ⟨by decide, by decide⟩ (w9 h9) ht hT hc hs)) (fun v' h1 hq' => ?_) (fun i h' hq' => by rcases hq' with ⟨_, _, _, _, h⟩ | ⟨_, _, _, h⟩ <;> cases h)
    rcases hq' with ⟨c2, _, ⟨b1, b2, b3⟩, hs1, hq'⟩ | ⟨_, b1, hs1, hq'⟩
    rotate_left
    · cases hq'
      simp only [b1] at hr
      cases hr
      refine mj_T.if0 (a := 0) rfl ⟨by decide, by decide⟩ (fun hc => ?_) (fun hc => ?_)
      · exact mj_T.ret rfl rfl rfl ⟨V, _, 0, h1, hs1, hle, hfr, Or.inl ⟨rfl, rfl, hb⟩, rfl⟩
      · simp [jc] at hc
    cases hq'
    simp only [b1] at hr
    unfold rpr0 at hr
    rcases hy : rpr0 T tm f 0 d c2 with _ | ⟨z1, z2⟩
    · rw [hy] at hr
      cases hr
    rw [hy] at hr
    cases z1 with
    | false => cases hr
    | true =>
    refine mj_T.if0 (a := 1) rfl ⟨by decide, by decide⟩ (fun hc => ?_) (fun hc => ?_)
    · simp [jc] at hc
    iterate 3 refine mj_T.pl rfl rfl rfl rfl ?_
    refine mj_T.iadd (a := (p : Int)) (b := 1) rfl ?_
    rw [show (p : Int) + 1 = ((p + 1 : Nat) : Int) by omega]
    refine mj_T.call (ins := .invokevirtual 386) rfl rfl (Nat.le_of_ble_eq_true rfl) (Nat.le_of_ble_eq_true rfl) (by simp [mj_recv, rS_f hs1]) rfl (mj_Ok.up (by omega) (ih0 f (by omega) c2 z2 V h1 b2 hy hs1)) (fun v' h2 hq' => ?_) (fun i h' hq' => by obtain ⟨_, _, _, _, _, _, _, _, h⟩ := hq'; cases h)
    obtain ⟨V2, c3, y2, _, hs2, hc2l, hf2, hy2, hq'⟩ := hq'
    cases hq'
    have hfr2 : (∀ s, 299 ≤ s → s < p * 13 → V2 s = V0 s) := fun s s1 s2 => by rw [hf2 s s1 (by omega), hfr s s1 s2]
    iterate 2 refine mj_T.pl rfl rfl rfl rfl ?_
    refine rT_get hs2 rfl st3_g13 ?_
    have t58 : ∀ y, rS (st3 (jvu S 13 y) (c3 : Int) o e) N B T X V2 h2 → mj_T (4 * d + 12) mj_m300 58 [some (.ref 0), some (.int (jn (p : Nat)))] [.ref 0] h2 (wkPost S N B T X V0 tm o e p b) := fun y hsy => by
      iterate 2 refine mj_T.pl rfl rfl rfl rfl ?_
      refine rT_put (v := 1) hsy rfl rfl (by decide) rfl (fun h5 hs5 => ?_)
      rw [st3_13] at hs5
      refine mj_T.pl rfl rfl rfl rfl ?_
      refine rT_get hs5 rfl st3_g13 ?_
      refine mj_T.if0 (a := 1) rfl ⟨by decide, by decide⟩ (fun hc => ?_) (fun hc => ?_)
      · simp [jc] at hc
      exact mj_T.ret rfl rfl rfl ⟨V2, c3, 1, h5, hs5, hc2l, hfr2, Or.inr rfl, rfl⟩
    rcases hy2 with ⟨y0, c0, hb2⟩ | y1
    rotate_left
    · subst y1
      refine mj_T.if0 (a := 1) rfl ⟨by decide, by decide⟩ (fun hc => ?_) (fun hc => ?_)
      · exact t58 1 hs2
      · simp [jc] at hc
    subst y0
    subst c0
    refine mj_T.if0 (a := 0) rfl ⟨by decide, by decide⟩ (fun hc => ?_) (fun hc => ?_)
    · simp [jc] at hc
    iterate 4 refine mj_T.pl rfl rfl rfl rfl ?_
    refine mj_T.iadd (a := (p : Int)) (b := 1) rfl ?_
    rw [show (p : Int) + 1 = ((p + 1 : Nat) : Int) by omega]
    have hbp : (∀ x, x < 13 → (V2 (p * 13 + x)).natAbs ≤ 10 ^ 18) := fun x hx => by rw [hf2 _ (by omega) (by omega)]; exact hb x hx
    refine mj_T.call (ins := .invokevirtual 223) rfl rfl (Nat.le_of_ble_eq_true rfl) (Nat.le_of_ble_eq_true rfl) (by simp [mj_recv, rS_f hs2]) rfl (mj_Ok.up (by omega) (jp_isTooHigh (D := 0) (rG (st3 (jvu S 13 0) (c3 : Int) o e) N B T X) (a := p) (b := p + 1) (by omega) (by omega) hs2)) (fun v' h' hq' => ?_) (fun i h' hq' => by rcases hq' with ⟨_, _, _, h⟩ | ⟨_, h⟩ <;> cases h)
    rcases hq' with ⟨_, _, _, hq'⟩ | ⟨hdeg, hq'⟩
    · cases hq'
      refine mj_T.if0 (a := 1) rfl ⟨by decide, by decide⟩ (fun hc => ?_) (fun hc => ?_)
      · simp [jc] at hc
      exact t58 0 hs2
    cases hq'
    refine mj_T.if0 (a := 0) rfl ⟨by decide, by decide⟩ (fun hc => ?_) (fun hc => ?_)
    rotate_left
    · simp [jc] at hc
    refine mj_T.pl rfl rfl rfl rfl ?_
    refine rT_put (v := 0) hs2 rfl rfl (by decide) rfl (fun h5 hs5 => ?_)
    rw [st3_13] at hs5
    refine mj_T.pl rfl rfl rfl rfl ?_
    refine rT_get hs5 rfl st3_g13 ?_
    refine mj_T.if0 (a := 0) rfl ⟨by decide, by decide⟩ (fun hc => ?_) (fun hc => ?_)
    rotate_left
    · simp [jc] at hc
    iterate 5 refine mj_T.pl rfl rfl rfl rfl ?_
    refine mj_T.iadd (a := (p : Int)) (b := 1) rfl ?_
    rw [show (p : Int) + 1 = ((p + 1 : Nat) : Int) by omega]
    refine mj_T.call (ins := .invokevirtual 121) rfl rfl (Nat.le_of_ble_eq_true rfl) (Nat.le_of_ble_eq_true rfl) (by simp [mj_recv, rS_f hs5]) rfl (mj_Ok.up (by omega) (jp_multipliesPoly (D := 0) (V := V2) (rG (st3 (jvu S 13 0) (c3 : Int) o e) N B T X) (to := 7) (a := p) (b := p + 1) (by decide) (by omega) (by omega) (by omega) (by omega) hbp hb2 hdeg rp_small2 hs5)) (fun v' h6 hq' => ?_) (fun i h' hq' => by obtain ⟨_, _, _, _, _, _, h⟩ := hq'; cases h)
    obtain ⟨V6, _, hs6, m1, m2, _, hq'⟩ := hq'
    cases hq'
    iterate 3 refine mj_T.pl rfl rfl rfl rfl ?_
    refine mj_T.call (ins := .invokevirtual 124) rfl rfl (Nat.le_of_ble_eq_true rfl) (Nat.le_of_ble_eq_true rfl) (by simp [mj_recv, rS_f hs6]) rfl (mj_Ok.up (by omega) (jp_copiesPoly (D := 0) (rG (st3 (jvu S 13 0) (c3 : Int) o e) N B T X) (p := p) (q := 7) (by omega) (by decide) (by omega) hs6)) (fun v' h7 hq' => ?_) (fun i h' hq' => by obtain ⟨_, _, h⟩ := hq'; cases h)
    obtain ⟨_, hs7, hq'⟩ := hq'
    cases hq'
    have q2 : ∀ s, s < p * 13 → jfl V6 p (fun x => V6 (7 * 13 + x)) 13 s = V6 s := fun s hx => jfl_off _ p _ (by omega)
    generalize jfl V6 p (fun x => V6 (7 * 13 + x)) 13 = W7 at hs7 q2
    have hfr7 : (∀ s, 299 ≤ s → s < p * 13 → W7 s = V0 s) := fun s s1 s2 => by rw [q2 s s2, m1 s (by omega) (by omega), hfr2 s s1 s2]
    iterate 2 refine mj_T.pl rfl rfl rfl rfl ?_
    refine mj_T.call (ins := .invokevirtual 383) rfl rfl (Nat.le_of_ble_eq_true rfl) (Nat.le_of_ble_eq_true rfl) (by simp [mj_recv, rS_f hs7]) rfl (mj_Ok.up (by omega) (wk_bounds (D := 0) (p := p) (by omega) hs7)) (fun v' h8 hq' => ?_) (fun i h' hq' => by obtain ⟨_, _, _, _, h⟩ := hq'; cases h)
    obtain ⟨y, _, hs8, hy8, hq'⟩ := hq'
    cases hq'
    refine mj_T.pl rfl rfl rfl rfl ?_
    refine rT_get hs8 rfl st3_g13 ?_
    rcases hy8 with ⟨y1, y2⟩ | y1
    · subst y1
      refine mj_T.if0 (a := 0) rfl ⟨by decide, by decide⟩ (fun hc => ?_) (fun hc => ?_)
      rotate_left
      · simp [jc] at hc
      exact ihf (fun f2 hf2 => ih0 f2 (by omega)) c3 W7 h8 hc2l hr hs8 hfr7 y2
    · subst y1
      refine mj_T.if0 (a := 1) rfl ⟨by decide, by decide⟩ (fun hc => ?_) (fun hc => ?_)
      · simp [jc] at hc
      exact mj_T.ret rfl rfl rfl ⟨W7, c3, 1, h8, hs8, hc2l, hfr7, Or.inr rfl, rfl⟩
end RWW
/-! The reference works a text out: sums; and reads. -/
section RWX
variable {S N B T X V : Nat → Int} {h : mj_H} {tm : Nat} {o e : Int}
theorem wk_product (h9 : S 9 = (tm : Int)) (ht : tm ≤ 200) (hT : ∀ j : Nat, j < tm → 1 ≤ T j ∧ T j ≤ 255) {f d a p b : Nat} (hp1 : 23 ≤ p) (hp2 : p + 1 + 3 * d ≤ 49) (ha : a ≤ tm) (hr : rpr0 T tm (f + 1) 1 d a = some (true, b)) (hs : rS (st3 (jvu S 13 0) (a : Int) o e) N B T X V h)
    (ih0 : ∀ f2, f2 ≤ f → ∀ (a b2 : Nat) (V : Nat → Int) (h : mj_H), a ≤ tm → rpr0 T tm f2 0 d a = some (true, b2) → rS (st3 (jvu S 13 0) (a : Int) o e) N B T X V h → mj_Ok (4 * d + 12) 301 [.ref 0, .int (jn ((p + 1 : Nat) : Int))] h (wkPost S N B T X V tm o e (p + 1) b2)) : mj_Ok (4 * d + 13) 300 [.ref 0, .int (jn (p : Nat))] h (wkPost S N B T X V tm o e p b) := by
  refine mj_Ok.of (M := mj_m300) rfl rfl rfl ?_
  unfold rpr0 at hr
  rcases hy : rpr0 T tm f 0 d a with _ | ⟨z1, z2⟩
  · rw [hy] at hr
    cases hr
  rw [hy] at hr
  cases z1 with
  | false => cases hr
  | true =>
  iterate 3 refine mj_T.pl rfl rfl rfl rfl ?_
  refine mj_T.iadd (a := (p : Int)) (b := 1) rfl ?_
  rw [show (p : Int) + 1 = ((p + 1 : Nat) : Int) by omega]
  refine mj_T.call (ins := .invokevirtual 386) rfl rfl (Nat.le_of_ble_eq_true rfl) (Nat.le_of_ble_eq_true rfl) (by simp [mj_recv, rS_f hs]) rfl (mj_Ok.up (by omega) (ih0 f (Nat.le_refl _) a z2 V h ha hy hs)) (fun v' h2 hq' => ?_) (fun i h' hq' => by obtain ⟨_, _, _, _, _, _, _, _, h⟩ := hq'; cases h)
  obtain ⟨V2, c3, y2, _, hs2, hc2l, hf2, hy2, hq'⟩ := hq'
  cases hq'
  refine mj_T.pl rfl rfl rfl rfl ?_
  refine rT_get hs2 rfl st3_g13 ?_
  rcases hy2 with ⟨y0, c0, hb2⟩ | y1
  rotate_left
  · subst y1
    refine mj_T.if0 (a := 1) rfl ⟨by decide, by decide⟩ (fun hc => ?_) (fun hc => ?_)
    · simp [jc] at hc
    exact mj_T.ret rfl rfl rfl ⟨V2, c3, 1, h2, hs2, hc2l, fun s s1 s2 => hf2 s s1 (by omega), Or.inr rfl, rfl⟩
  subst y0
  subst c0
  refine mj_T.if0 (a := 0) rfl ⟨by decide, by decide⟩ (fun hc => ?_) (fun hc => ?_)
  rotate_left
  · simp [jc] at hc
  iterate 4 refine mj_T.pl rfl rfl rfl rfl ?_
  refine mj_T.iadd (a := (p : Int)) (b := 1) rfl ?_
  rw [show (p : Int) + 1 = ((p + 1 : Nat) : Int) by omega]
  refine mj_T.call (ins := .invokevirtual 124) rfl rfl (Nat.le_of_ble_eq_true rfl) (Nat.le_of_ble_eq_true rfl) (by simp [mj_recv, rS_f hs2]) rfl (mj_Ok.up (by omega) (jp_copiesPoly (D := 0) (rG (st3 (jvu S 13 0) (c3 : Int) o e) N B T X) (p := p) (q := p + 1) (by omega) (by omega) (by omega) hs2)) (fun v' h4 hq' => ?_) (fun i h' hq' => by obtain ⟨_, _, h⟩ := hq'; cases h)
  obtain ⟨_, hs4, hq'⟩ := hq'
  cases hq'
  have q1 : ∀ x, x < 13 → jfl V2 p (fun x => V2 ((p + 1) * 13 + x)) 13 (p * 13 + x) = V2 ((p + 1) * 13 + x) := fun x hx => jfl_at _ p _ hx
  have q2 : ∀ s, s < p * 13 → jfl V2 p (fun x => V2 ((p + 1) * 13 + x)) 13 s = V2 s := fun s hx => jfl_off _ p _ (by omega)
  generalize jfl V2 p (fun x => V2 ((p + 1) * 13 + x)) 13 = W4 at hs4 q1 q2
  exact wk_prod_loop h9 ht hT hp1 hp2 f (fun f2 hf2 => ih0 f2 (by omega)) c3 W4 h4 hc2l hr hs4 (fun s s1 s2 => by rw [q2 s s2, hf2 s s1 (by omega)]) (fun x hx => by rw [q1 x hx]; exact hb2 x hx)
theorem rp_small7 : 10 ^ 18 + 10 ^ 18 < jB ^ 698 := by decide +kernel
theorem wk_sum_loop (h9 : S 9 = (tm : Int)) (ht : tm ≤ 200) (hT : ∀ j : Nat, j < tm → 1 ≤ T j ∧ T j ≤ 255) {d p b : Nat} {V0 : Nat → Int} (hp1 : 23 ≤ p) (hp2 : p + 2 + 3 * d ≤ 49) :
    ∀ f, (∀ f2, f2 < f → ∀ (a b2 : Nat) (V : Nat → Int) (h : mj_H), a ≤ tm → rpr0 T tm f2 1 d a = some (true, b2) → rS (st3 (jvu S 13 0) (a : Int) o e) N B T X V h → mj_Ok (4 * d + 13) 300 [.ref 0, .int (jn ((p + 1 : Nat) : Int))] h (wkPost S N B T X V tm o e (p + 1) b2)) →
    ∀ (a : Nat) (V : Nat → Int) (h : mj_H) (w : Int), (w = 1 ∨ w = -1) → a ≤ tm → rpr0 T tm f 2 d a = some (true, b) → rS (st3 (jvu S 13 0) (a : Int) o e) N B T X V h → (∀ s, 299 ≤ s → s < p * 13 → V s = V0 s) → (∀ x, x < 13 → (V (p * 13 + x)).natAbs ≤ 10 ^ 18) → mj_T (4 * d + 13) mj_m299 20 [some (.ref 0), some (.int (jn (p : Nat))), some (.int (jn w))] [] h (wkPost S N B T X V0 tm o e p b) := by
  intro f
  induction f with
  | zero =>
    intro _ a V h w _ _ hr
    cases hr
  | succ f ihf =>
    intro ih0 a V h w hw ha hr hs hfr hb
    unfold rpr0 at hr
    rcases hy : rpr0 T tm f 1 d a with _ | ⟨z1, z2⟩
    · rw [hy] at hr
      cases hr
    rw [hy] at hr
    cases z1 with
    | false => cases hr
    | true =>
    iterate 3 refine mj_T.pl rfl rfl rfl rfl ?_
    refine mj_T.iadd (a := (p : Int)) (b := 1) rfl ?_
    rw [show (p : Int) + 1 = ((p + 1 : Nat) : Int) by omega]
    refine mj_T.call (ins := .invokevirtual 380) rfl rfl (Nat.le_of_ble_eq_true rfl) (Nat.le_of_ble_eq_true rfl) (by simp [mj_recv, rS_f hs]) rfl (mj_Ok.up (by omega) (ih0 f (by omega) a z2 V h ha hy hs)) (fun v' h2 hq' => ?_) (fun i h' hq' => by obtain ⟨_, _, _, _, _, _, _, _, h⟩ := hq'; cases h)
    obtain ⟨V2, c3, y2, _, hs2, hc2l, hf2, hy2, hq'⟩ := hq'
    cases hq'
    have hfr2 : (∀ s, 299 ≤ s → s < p * 13 → V2 s = V0 s) := fun s s1 s2 => by rw [hf2 s s1 (by omega), hfr s s1 s2]
    refine mj_T.pl rfl rfl rfl rfl ?_
    refine rT_get hs2 rfl st3_g13 ?_
    rcases hy2 with ⟨y0, c0, hb2⟩ | y1
    rotate_left
    · subst y1
      refine mj_T.if0 (a := 1) rfl ⟨by decide, by decide⟩ (fun hc => ?_) (fun hc => ?_)
      · simp [jc] at hc
      exact mj_T.ret rfl rfl rfl ⟨V2, c3, 1, h2, hs2, hc2l, hfr2, Or.inr rfl, rfl⟩
    subst y0
    subst c0
    refine mj_T.if0 (a := 0) rfl ⟨by decide, by decide⟩ (fun hc => ?_) (fun hc => ?_)
    rotate_left
    · simp [jc] at hc
    iterate 5 refine mj_T.pl rfl rfl rfl rfl ?_
    refine mj_T.iadd (a := (p : Int)) (b := 1) rfl ?_
    rw [show (p : Int) + 1 = ((p + 1 : Nat) : Int) by omega]
    refine mj_T.pl rfl rfl rfl rfl ?_
    have hsz : ∀ x, x < 13 → (V2 (p * 13 + x) + w * V2 ((p + 1) * 13 + x)).natAbs ≤ 10 ^ 18 + 10 ^ 18 := fun x hx => by
      rw [hf2 _ (by omega) (by omega)]
      have k1 := hb x hx
      have k2 := hb2 x hx
      rcases hw with q | q <;> subst q <;> omega
    refine mj_T.call (ins := .invokevirtual 216) rfl rfl (Nat.le_of_ble_eq_true rfl) (Nat.le_of_ble_eq_true rfl) (by simp [mj_recv, rS_f hs2]) rfl (mj_Ok.up (by omega) (jp_addsPoly (D := 0) (rG (st3 (jvu S 13 0) (c3 : Int) o e) N B T X) (p := p) (a := p) (b := p + 1) (f := w) (by omega) (by omega) (by omega) hw (fun x hx => jnl_of_lt (hsz x hx) rp_small7) hs2)) (fun v' h6 hq' => ?_) (fun i h' hq' => by obtain ⟨_, _, h⟩ := hq'; cases h)
    obtain ⟨_, hs6, hq'⟩ := hq'
    cases hq'
    have q2 : ∀ s, s < p * 13 → jfl V2 p (fun x => V2 (p * 13 + x) + w * V2 ((p + 1) * 13 + x)) 13 s = V2 s := fun s hx => jfl_off _ p _ (by omega)
    generalize jfl V2 p (fun x => V2 (p * 13 + x) + w * V2 ((p + 1) * 13 + x)) 13 = W6 at hs6 q2
    have hfr6 : (∀ s, 299 ≤ s → s < p * 13 → W6 s = V0 s) := fun s s1 s2 => by rw [q2 s s2, hfr2 s s1 s2]
    iterate 2 refine mj_T.pl rfl rfl rfl rfl ?_
    refine mj_T.call (ins := .invokevirtual 383) rfl rfl (Nat.le_of_ble_eq_true rfl) (Nat.le_of_ble_eq_true rfl) (by simp [mj_recv, rS_f hs6]) rfl (mj_Ok.up (by omega) (wk_bounds (D := 0) (p := p) (by omega) hs6)) (fun v' h8 hq' => ?_) (fun i h' hq' => by obtain ⟨_, _, _, _, h⟩ := hq'; cases h)
    obtain ⟨y, _, hs8, hy8, hq'⟩ := hq'
    cases hq'
    have t77 : ∀ (w2 : Int) (a2 : Nat) (h9' : mj_H), (w2 = 0 ∨ w2 = 1 ∨ w2 = -1) → a2 ≤ tm → rS (st3 (jvu S 13 y) (a2 : Int) o e) N B T X W6 h9' → (w2 = 0 → a2 = b) → (w2 ≠ 0 → rpr0 T tm f 2 d a2 = some (true, b)) → mj_T (4 * d + 13) mj_m299 77 [some (.ref 0), some (.int (jn (p : Nat))), some (.int (jn w))] [.int (jn w2)] h9' (wkPost S N B T X V0 tm o e p b) := fun w2 a2 h9' hw2 ha2 hsa hz hnz => by
      iterate 2 refine mj_T.pl rfl rfl rfl rfl ?_
      have fin : (y = 1 ∨ w2 = 0) → wkPost S N B T X V0 tm o e p b (.inl none, h9') := fun hyw => by
        refine ⟨W6, a2, y, h9', hsa, ha2, hfr6, ?_, rfl⟩
        rcases hy8 with ⟨y1, y2⟩ | y1
        · rcases hyw with q | q
          · exact Or.inr q
          · exact Or.inl ⟨y1, hz q, y2⟩
        · exact Or.inr y1
      refine mj_T.if0 (a := w2) rfl ⟨by omega, by omega⟩ (fun hc => ?_) (fun hc => ?_)
      · simp only [jc, decide_eq_true_eq] at hc
        exact mj_T.ret rfl rfl rfl (fin (Or.inr hc))
      simp only [jc, decide_eq_false_iff_not] at hc
      refine mj_T.pl rfl rfl rfl rfl ?_
      refine rT_get hsa rfl st3_g13 ?_
      rcases hy8 with ⟨y1, y2⟩ | y1
      · subst y1
        refine mj_T.if0 (a := 0) rfl ⟨by decide, by decide⟩ (fun hc => ?_) (fun hc => ?_)
        rotate_left
        · simp [jc] at hc
        exact ihf (fun f2 hf2 => ih0 f2 (by omega)) a2 W6 h9' w2 (by omega) ha2 (hnz (by assumption)) hsa hfr6 y2
      · subst y1
        refine mj_T.if0 (a := 1) rfl ⟨by decide, by decide⟩ (fun hc => ?_) (fun hc => ?_)
        · simp [jc] at hc
        exact mj_T.ret rfl rfl rfl (fin (Or.inl rfl))
    have hid := rskp_idem (T := T) hc2l
    have hle := rskp_le (T := T) hc2l
    iterate 2 refine mj_T.pl rfl rfl rfl rfl ?_
    refine mj_T.call (ins := .invokevirtual 354) rfl rfl (Nat.le_of_ble_eq_true rfl) (Nat.le_of_ble_eq_true rfl) (by simp [mj_recv, rS_f hs8]) rfl (mj_Ok.up (by omega) (rd_takes (D := 0) (S := jvu S 13 y) (c := 43) ⟨by decide, by decide⟩ (w9 h9) ht hT hc2l hs8)) (fun v' h10 hq' => ?_) (fun i h' hq' => by rcases hq' with ⟨_, _, _, _, h⟩ | ⟨_, _, _, h⟩ <;> cases h)
    rcases hq' with ⟨c2, _, ⟨b1, b2, b3⟩, hs10, hq'⟩ | ⟨_, b1, hs10, hq'⟩
    · cases hq'
      simp only [b1] at hr
      refine mj_T.if0 (a := 1) rfl ⟨by decide, by decide⟩ (fun hc => ?_) (fun hc => ?_)
      · simp [jc] at hc
      iterate 2 refine mj_T.pl rfl rfl rfl rfl ?_
      exact t77 1 c2 h10 (Or.inr (Or.inl rfl)) b2 hs10 (fun q => absurd q (by decide)) (fun _ => hr)
    cases hq'
    simp only [b1] at hr
    refine mj_T.if0 (a := 0) rfl ⟨by decide, by decide⟩ (fun hc => ?_) (fun hc => ?_)
    rotate_left
    · simp [jc] at hc
    iterate 2 refine mj_T.pl rfl rfl rfl rfl ?_
    refine mj_T.call (ins := .invokevirtual 354) rfl rfl (Nat.le_of_ble_eq_true rfl) (Nat.le_of_ble_eq_true rfl) (by simp [mj_recv, rS_f hs10]) rfl (mj_Ok.up (by omega) (rd_takes (D := 0) (S := jvu S 13 y) (c := 45) ⟨by decide, by decide⟩ (w9 h9) ht hT hle hs10)) (fun v' h11 hq' => ?_) (fun i h' hq' => by rcases hq' with ⟨_, _, _, _, h⟩ | ⟨_, _, _, h⟩ <;> cases h)
    rcases hq' with ⟨c2, _, ⟨d1, d2, d3⟩, hs11, hq'⟩ | ⟨_, d1, hs11, hq'⟩
    · cases hq'
      simp only [d1] at hr
      refine mj_T.if0 (a := 1) rfl ⟨by decide, by decide⟩ (fun hc => ?_) (fun hc => ?_)
      · simp [jc] at hc
      iterate 2 refine mj_T.pl rfl rfl rfl rfl ?_
      exact t77 (-1) c2 h11 (Or.inr (Or.inr rfl)) d2 hs11 (fun q => absurd q (by decide)) (fun _ => hr)
    · cases hq'
      simp only [d1] at hr
      rw [hid] at hs11
      refine mj_T.if0 (a := 0) rfl ⟨by decide, by decide⟩ (fun hc => ?_) (fun hc => ?_)
      rotate_left
      · simp [jc] at hc
      refine mj_T.pl rfl rfl rfl rfl ?_
      exact t77 0 _ h11 (Or.inl rfl) hle hs11 (fun _ => by cases hr; rfl) (fun q => absurd rfl q)
theorem wk_sum (h9 : S 9 = (tm : Int)) (ht : tm ≤ 200) (hT : ∀ j : Nat, j < tm → 1 ≤ T j ∧ T j ≤ 255) {f d a p b : Nat} (hp1 : 23 ≤ p) (hp2 : p + 2 + 3 * d ≤ 49) (ha : a ≤ tm) (hr : rpr0 T tm (f + 1) 3 d a = some (true, b)) (hs : rS (st3 (jvu S 13 0) (a : Int) o e) N B T X V h)
    (ih0 : ∀ f2, f2 ≤ f → ∀ (a b2 : Nat) (V : Nat → Int) (h : mj_H), a ≤ tm → rpr0 T tm f2 1 d a = some (true, b2) → rS (st3 (jvu S 13 0) (a : Int) o e) N B T X V h → mj_Ok (4 * d + 13) 300 [.ref 0, .int (jn ((p + 1 : Nat) : Int))] h (wkPost S N B T X V tm o e (p + 1) b2)) : mj_Ok (4 * d + 14) 299 [.ref 0, .int (jn (p : Nat))] h (wkPost S N B T X V tm o e p b) := by
  refine mj_Ok.of (M := mj_m299) rfl rfl rfl ?_
  unfold rpr0 at hr
  have hle := rskp_le (T := T) ha
  have t14 : ∀ (w : Int) (a2 : Nat) (h2 : mj_H), (w = 1 ∨ w = -1) → a2 ≤ tm → rS (st3 (jvu S 13 0) (a2 : Int) o e) N B T X V h2 → rpr0 T tm f 2 d a2 = some (true, b) → mj_T (4 * d + 13) mj_m299 14 [some (.ref 0), some (.int (jn (p : Nat))), none] [.int (jn w)] h2 (wkPost S N B T X V tm o e p b) := fun w a2 h2 hw ha2 hs2 hr2 => by
    iterate 3 refine mj_T.pl rfl rfl rfl rfl ?_
    refine mj_T.call (ins := .invokevirtual 110) rfl rfl (Nat.le_of_ble_eq_true rfl) (Nat.le_of_ble_eq_true rfl) (by simp [mj_recv, rS_f hs2]) rfl (mj_Ok.up (by omega) (jp_empties (D := 0) (rG (st3 (jvu S 13 0) (a2 : Int) o e) N B T X) (p := p) (by omega) hs2)) (fun v' h3 hq' => ?_) (fun i h' hq' => by obtain ⟨_, _, h⟩ := hq'; cases h)
    obtain ⟨_, hs3, hq'⟩ := hq'
    cases hq'
    have q1 : ∀ x, x < 13 → jfl V p (fun _ => 0) 13 (p * 13 + x) = 0 := fun x hx => jfl_at _ p _ hx
    have q2 : ∀ s, s < p * 13 → jfl V p (fun _ => 0) 13 s = V s := fun s hx => jfl_off _ p _ (by omega)
    generalize jfl V p (fun _ => 0) 13 = W1 at hs3 q1 q2
    exact wk_sum_loop h9 ht hT hp1 hp2 f (fun f2 hf2 => ih0 f2 (by omega)) a2 W1 h3 w hw ha2 hr2 hs3 (fun s s1 s2 => q2 s s2) (fun x hx => by rw [q1 x hx]; exact Nat.zero_le _)
  iterate 2 refine mj_T.pl rfl rfl rfl rfl ?_
  refine mj_T.call (ins := .invokevirtual 354) rfl rfl (Nat.le_of_ble_eq_true rfl) (Nat.le_of_ble_eq_true rfl) (by simp [mj_recv, rS_f hs]) rfl (mj_Ok.up (by omega) (rd_takes (D := 0) (S := jvu S 13 0) (c := 45) ⟨by decide, by decide⟩ (w9 h9) ht hT ha hs)) (fun v' h1 hq' => ?_) (fun i h' hq' => by rcases hq' with ⟨_, _, _, _, h⟩ | ⟨_, _, _, h⟩ <;> cases h)
  rcases hq' with ⟨c2, _, ⟨b1, b2, b3⟩, hs1, hq'⟩ | ⟨_, b1, hs1, hq'⟩
  · cases hq'
    simp only [b1] at hr
    refine mj_T.if0 (a := 1) rfl ⟨by decide, by decide⟩ (fun hc => ?_) (fun hc => ?_)
    · simp [jc] at hc
    iterate 2 refine mj_T.pl rfl rfl rfl rfl ?_
    exact t14 (-1) c2 h1 (Or.inr rfl) b2 hs1 hr
  · cases hq'
    simp only [b1] at hr
    refine mj_T.if0 (a := 0) rfl ⟨by decide, by decide⟩ (fun hc => ?_) (fun hc => ?_)
    rotate_left
    · simp [jc] at hc
    refine mj_T.pl rfl rfl rfl rfl ?_
    exact t14 1 _ h1 (Or.inl rfl) hle hs1 hr
/-- sums, worked out at any depth -/
theorem wk_all (h9 : S 9 = (tm : Int)) (ht : tm ≤ 200) (hT : ∀ j : Nat, j < tm → 1 ≤ T j ∧ T j ≤ 255) : ∀ (d f a p b : Nat) (V : Nat → Int) (h : mj_H), d ≤ 8 → 23 ≤ p → p + 2 + 3 * d ≤ 49 → a ≤ tm → rpr0 T tm f 3 d a = some (true, b) → rS (st3 (jvu S 13 0) (a : Int) o e) N B T X V h → mj_Ok (4 * d + 14) 299 [.ref 0, .int (jn (p : Nat))] h (wkPost S N B T X V tm o e p b) := by
  intro d
  induction d with
  | zero =>
    intro f a p b V h _ hp1 hp2 ha hr hs
    cases f with
    | zero => cases hr
    | succ f =>
    refine wk_sum h9 ht hT hp1 hp2 ha hr hs (fun f2 hf2 a2 b2 V2 h2 ha2 hr2 hs2 => ?_)
    cases f2 with
    | zero => cases hr2
    | succ f2 =>
    refine wk_product h9 ht hT (by omega) (by omega) ha2 hr2 hs2 (fun f3 hf3 a3 b3 V3 h3 ha3 hr3 hs3 => ?_)
    cases f3 with
    | zero => cases hr3
    | succ f3 => exact wk_power_step h9 ht hT (by omega) (by omega) ha3 hr3 hs3 (fun d2 a4 p4 b4 V4 h4 hd => absurd hd (by omega))
  | succ d ihd =>
    intro f a p b V h hd8 hp1 hp2 ha hr hs
    cases f with
    | zero => cases hr
    | succ f =>
    refine wk_sum h9 ht hT hp1 hp2 ha hr hs (fun f2 hf2 a2 b2 V2 h2 ha2 hr2 hs2 => ?_)
    cases f2 with
    | zero => cases hr2
    | succ f2 =>
    refine wk_product h9 ht hT (by omega) (by omega) ha2 hr2 hs2 (fun f3 hf3 a3 b3 V3 h3 ha3 hr3 hs3 => ?_)
    cases f3 with
    | zero => cases hr3
    | succ f3 =>
      refine wk_power_step h9 ht hT (by omega) (by omega) ha3 hr3 hs3 (fun d2 a4 p4 b4 V4 h4 hd hp41 hp42 ha4 hr4 hs4 => ?_)
      have ed : d2 = d := by omega
      subst ed
      exact ihd f3 a4 p4 b4 V4 h4 (by omega) hp41 hp42 ha4 hr4 hs4
end RWX
/-! Calls of the reference: read. -/
theorem jvu13_st3 (S : Nat → Int) (a o e z : Int) : jvu (st3 S a o e) 13 z = st3 (jvu S 13 z) a o e := funext fun x => by
  unfold st3 jvu
  (repeat' split) <;> omega
theorem jK.rd3 {tm er : Int} {S N B T : Nat → Int} (K : jK tm er S N B T) {a o e : Int} (ha : jr a) (ho : jr o) (he : jr e) : jK tm e (st3 S a o e) N B T := by
  unfold st3
  have K2 := (K.put (k := 10) ha (by decide) (by decide) (by decide) (by decide) (by decide)).put (k := 11) ho (by decide) (by decide) (by decide) (by decide) (by decide)
  obtain ⟨k1, k2, k3, k4, k5, k6, k7, k8, k9⟩ := K2
  have e9 : ∀ x, x ≠ 12 → jvu (jvu (jvu S 10 a) 11 o) 12 e x = jvu (jvu S 10 a) 11 o x := fun x hx => jvu_ne _ _ _ hx
  refine ⟨k1, by rw [e9 2 (by decide)]; exact k2, fun j hj => k3 j (by rw [e9 2 (by decide)] at hj; exact hj), by rw [e9 9 (by decide)]; exact k4, jvu_at _ _ _, by rw [e9 15 (by decide)]; exact k6, fun x => ?_, by rw [e9 13 (by decide)]; exact k8, k9⟩
  by_cases hx : x = 12
  · subst hx
    rw [jvu_at]
    exact he
  · rw [e9 x hx]
    exact k7 x
theorem jK.put13 {tm er : Int} {S N B T : Nat → Int} (K : jK tm er S N B T) {y : Int} (hy : y = 0 ∨ y = 1) : jK tm er (jvu S 13 y) N B T := by
  obtain ⟨k1, k2, k3, k4, k5, k6, k7, k8, k9⟩ := K
  have e : ∀ x, x ≠ 13 → jvu S 13 y x = S x := fun x hx => jvu_ne _ _ _ hx
  refine ⟨k1, by rw [e 2 (by decide)]; exact k2, fun j hj => k3 j (by rw [e 2 (by decide)] at hj; exact hj), by rw [e 9 (by decide)]; exact k4, by rw [e 12 (by decide)]; exact k5, by rw [e 15 (by decide)]; exact k6, fun x => ?_, by rw [jvu_at]; exact hy, k9⟩
  by_cases hx : x = 13
  · subst hx
    rw [jvu_at]
    exact ⟨by omega, by omega⟩
  · rw [e x hx]
    exact k7 x
section RRE
variable {S N B T X V : Nat → Int} {h : mj_H} {D tm : Nat} {o e : Int}
theorem rd_end (h9 : S 9 = (tm : Int)) (ht : tm ≤ 200) (hT : ∀ j : Nat, j < tm → 1 ≤ T j ∧ T j ≤ 255) {c : Nat} (hc : c ≤ tm) (hs : rS (st3 S (c : Int) o e) N B T X V h) : mj_Ok (D + 2) 292 [.ref 0] h (fun r => (rskp T tm c = tm ∧ ∃ h2, rS (st3 S (tm : Int) o e) N B T X V h2 ∧ r = (.inl (some (.int (jn 1))), h2)) ∨ ((rskp T tm c ≠ tm ∧ rskp T tm c ≤ tm) ∧ ∃ h2, rS (st3 S (rskp T tm c : Nat) o ((rskp T tm c : Nat) : Int)) N B T X V h2 ∧ r = (.inl (some (.int (jn 0))), h2))) := by
  refine mj_Ok.of (M := mj_m292) rfl rfl rfl ?_
  have hle := rskp_le (T := T) hc
  refine mj_T.pl rfl rfl rfl rfl ?_
  refine mj_T.call (ins := .invokevirtual 348) rfl rfl (Nat.le_of_ble_eq_true rfl) (Nat.le_of_ble_eq_true rfl) (by simp [mj_recv, rS_f hs]) rfl (rd_skips (D := D) h9 ht hT hc hs) (fun v' h1 hq' => ?_) (fun i h' hq' => by obtain ⟨_, _, h⟩ := hq'; cases h)
  obtain ⟨_, hs1, hq'⟩ := hq'
  cases hq'
  obtain ⟨s, hsdef⟩ : ∃ s, rskp T tm c = s := ⟨_, rfl⟩
  rw [hsdef] at hs1 hle ⊢
  refine mj_T.pl rfl rfl rfl rfl ?_
  refine rT_get hs1 rfl st3_g10 ?_
  refine mj_T.pl rfl rfl rfl rfl ?_
  refine rT_get hs1 rfl (st3_g9 h9) ?_
  refine mj_T.icmp (a := (s : Int)) (b := (tm : Int)) rfl ⟨by omega, by omega⟩ ⟨by omega, by omega⟩ (fun hc1 => ?_) (fun hc1 => ?_)
  · simp only [jc, decide_eq_true_eq] at hc1
    have e1 : s = tm := by omega
    subst e1
    iterate 2 refine mj_T.pl rfl rfl rfl rfl ?_
    exact mj_T.ret rfl rfl rfl (Or.inl ⟨rfl, h1, hs1, rfl⟩)
  · simp only [jc, decide_eq_false_iff_not] at hc1
    iterate 2 refine mj_T.pl rfl rfl rfl rfl ?_
    refine rT_get hs1 rfl st3_g10 ?_
    refine mj_T.call (ins := .invokevirtual 351) rfl rfl (Nat.le_of_ble_eq_true rfl) (Nat.le_of_ble_eq_true rfl) (by simp [mj_recv, rS_f hs1]) rfl (mj_Ok.up (by omega) (rd_errs (D := 0) (x := (s : Int)) hs1)) (fun v' h3 hq' => ?_) (fun i h' hq' => by obtain ⟨_, _, h⟩ := hq'; cases h)
    obtain ⟨_, hs3, hq'⟩ := hq'
    cases hq'
    refine mj_T.if0 (a := 0) rfl ⟨by decide, by decide⟩ (fun hc => ?_) (fun hc => ?_)
    · refine mj_T.pl rfl rfl rfl rfl ?_
      exact mj_T.ret rfl rfl rfl (Or.inr ⟨⟨by omega, hle⟩, h3, hs3, rfl⟩)
    · simp [jc] at hc
end RRE
section RPU
variable {h : mj_H} {tm er : Int} {T : Nat → Int}
theorem rp_read {x : Int} (hx : jr x) {tm0 : Nat} (hI : jI (tm0 : Int) er T h) : mj_Ok 60 245 [.ref 0, .int (jn x)] h (fun r => ((0 ≤ x ∧ x ≤ 5) ∧ rI 0 (rdErr T tm0) T r) ∨ (¬ (0 ≤ x ∧ x ≤ 5) ∧ rI tm0 er T r)) := by
  refine mj_Ok.of (M := mj_m245) rfl rfl rfl ?_
  obtain ⟨S, N, B, X, V, hs, K⟩ := hI
  iterate 2 refine mj_T.pl rfl rfl rfl rfl ?_
  refine rT_put (v := 0) hs rfl rfl (by decide) rfl (fun g1 hs1 => ?_)
  have K1 := K.put (k := 3) (v := 0) ⟨by decide, by decide⟩ (by decide) (by decide) (by decide) (by decide) (by decide)
  generalize jvu S 3 0 = S1 at hs1 K1
  refine mj_T.pl rfl rfl rfl rfl ?_
  refine mj_T.call (ins := .invokestatic 181) rfl rfl (Nat.le_of_ble_eq_true rfl) (Nat.le_of_ble_eq_true rfl) rfl rfl (mj_Ok.up (by decide) (rp_isRegister (D := 0) hx)) (fun v' h' hq' => ?_) (fun i h' hq' => by rcases hq' with ⟨_, _, h⟩ | ⟨_, h⟩ <;> cases h)
  rcases hq' with ⟨x1, x2, hq'⟩ | ⟨xn, hq'⟩
  case' inr =>
    cases hq'
    refine mj_T.if0 (a := 0) rfl ⟨by decide, by decide⟩ (fun hc => ?_) (fun hc => ?_)
    · simp [jc] at hc
    iterate 2 refine mj_T.pl rfl rfl rfl rfl ?_
    refine mj_T.call (ins := .invokevirtual 198) rfl rfl (Nat.le_of_ble_eq_true rfl) (Nat.le_of_ble_eq_true rfl) (by simp [mj_recv, rS_f hs1]) rfl (mj_Ok.up (by decide) (rp_fails (D := 0) (c := 1) hs1)) (fun v' g2 hq' => ?_) (fun i h' hq' => by obtain ⟨_, _, h⟩ := hq'; cases h)
    obtain ⟨_, hs2, hq'⟩ := hq'
    cases hq'
    exact mj_T.ret rfl rfl rfl (Or.inr ⟨by omega, 0, g2, ⟨by decide, by decide⟩, rfl, ⟨_, N, B, X, V, hs2, K1.put ⟨by decide, by decide⟩ (by decide) (by decide) (by decide) (by decide) (by decide)⟩⟩)
  cases hq'
  refine mj_T.if0 (a := 1) rfl ⟨by decide, by decide⟩ (fun hc => ?_) (fun hc => ?_)
  rotate_left
  · simp [jc] at hc
  obtain ⟨x, rfl⟩ := Int.eq_ofNat_of_zero_le x1
  have k9 := K1.2.2.2.1
  have hT0 := K1.2.2.2.2.2.2.2.2
  have ht : tm0 ≤ 200 := by omega
  have hT : ∀ j : Nat, j < tm0 → 1 ≤ T j ∧ T j ≤ 255 := fun j hj => hT0 j (by omega)
  iterate 2 refine mj_T.pl rfl rfl rfl rfl ?_
  refine rT_put (v := 0) hs1 rfl rfl (by decide) rfl (fun ha hsa => ?_)
  iterate 2 refine mj_T.pl rfl rfl rfl rfl ?_
  refine rT_put (v := 0) hsa rfl rfl (by decide) rfl (fun hb hsb => ?_)
  iterate 2 refine mj_T.pl rfl rfl rfl rfl ?_
  refine rT_put (v := -1) hsb rfl rfl (by decide) rfl (fun hc hsc => ?_)
  have hsd : rS (st3 S1 ((0 : Nat) : Int) (8 - ((8 : Nat) : Int)) (-1)) N B T X V hc := hsc
  obtain ⟨hre, hrb⟩ := rdR_eq T tm0
  obtain ⟨res, hres⟩ : ∃ z, rdR T tm0 = z := ⟨_, rfl⟩
  rw [hres] at hre hrb
  have t51 : ∀ (a2 o2 x2 : Int) (h2 : mj_H), jr a2 → jr o2 → jr x2 → rdErr T tm0 = x2 → rS (st3 S1 a2 o2 x2) N B T X V h2 → mj_T 59 mj_m245 51 [some (.ref 0), some (.int (jn (x : Int))), none] [] h2 (fun r => ((0 ≤ (x : Int) ∧ (x : Int) ≤ 5) ∧ rI 0 (rdErr T tm0) T r) ∨ (¬ (0 ≤ (x : Int) ∧ (x : Int) ≤ 5) ∧ rI tm0 er T r)) := fun a2 o2 x2 h2 ja jo jx hx2 hs2 => by
    iterate 3 refine mj_T.pl rfl rfl rfl rfl ?_
    refine mj_T.if0 (a := 0) rfl ⟨by decide, by decide⟩ (fun hc => ?_) (fun hc => ?_)
    rotate_left
    · simp [jc] at hc
    iterate 2 refine mj_T.pl rfl rfl rfl rfl ?_
    refine rT_put (v := 0) hs2 rfl rfl (by decide) rfl (fun h3 hs3 => ?_)
    refine mj_T.pl rfl rfl rfl rfl ?_
    refine mj_T.if0 (a := 0) rfl ⟨by decide, by decide⟩ (fun hc => ?_) (fun hc => ?_)
    · simp [jc] at hc
    iterate 2 refine mj_T.pl rfl rfl rfl rfl ?_
    refine mj_T.call (ins := .invokevirtual 198) rfl rfl (Nat.le_of_ble_eq_true rfl) (Nat.le_of_ble_eq_true rfl) (by simp [mj_recv, rS_f hs3]) rfl (mj_Ok.up (by decide) (rp_fails (D := 0) (c := 2) hs3)) (fun v' g3 hq' => ?_) (fun i h' hq' => by obtain ⟨_, _, h⟩ := hq'; cases h)
    obtain ⟨_, hs3, hq'⟩ := hq'
    cases hq'
    exact mj_T.ret rfl rfl rfl (Or.inl ⟨⟨by omega, by omega⟩, 0, g3, ⟨by decide, by decide⟩, rfl, ⟨_, N, B, X, V, hs3, by rw [hx2]; exact ((K1.rd3 ja jo jx).clear).put ⟨by decide, by decide⟩ (by decide) (by decide) (by decide) (by decide) (by decide)⟩⟩)
  refine mj_T.pl rfl rfl rfl rfl ?_
  refine mj_T.call (ins := .invokevirtual 257) rfl rfl (Nat.le_of_ble_eq_true rfl) (Nat.le_of_ble_eq_true rfl) (by simp [mj_recv, rS_f hsc]) rfl (mj_Ok.up (by decide) ((rd_all (er := -1) (S := S1) (N := N) (B := B) (X := X) (V := V) k9.1 ht hT (rdF tm0) 8 (by decide)).2.2.2 0 hc res (Nat.zero_le _) hre hsd)) (fun v' h4 hq' => ?_) (fun i h' hq' => by rcases hq' with ⟨_, _, _, _, h⟩ | ⟨_, _, _, _, _, _, h⟩ <;> cases h)
  rcases hq' with ⟨c, _, ⟨c1, c2, c3⟩, hs4, hq'⟩ | ⟨x3, c, o3, _, ⟨c1, c2, c3, c4⟩, hs4, hq'⟩
  rotate_left
  · cases hq'
    refine mj_T.if0 (a := 0) rfl ⟨by decide, by decide⟩ (fun hc => ?_) (fun hc => ?_)
    rotate_left
    · simp [jc] at hc
    exact t51 _ _ _ h4 ⟨by omega, by omega⟩ c4 ⟨by omega, by omega⟩ (by unfold rdErr; rw [hres, c1]; rfl) hs4
  cases hq'
  refine mj_T.if0 (a := 1) rfl ⟨by decide, by decide⟩ (fun hc => ?_) (fun hc => ?_)
  · simp [jc] at hc
  refine mj_T.pl rfl rfl rfl rfl ?_
  refine mj_T.call (ins := .invokevirtual 261) rfl rfl (Nat.le_of_ble_eq_true rfl) (Nat.le_of_ble_eq_true rfl) (by simp [mj_recv, rS_f hs4]) rfl (mj_Ok.up (by decide) (rd_end (D := 0) (S := S1) k9.1 ht hT c2 hs4)) (fun v' h5 hq' => ?_) (fun i h' hq' => by rcases hq' with ⟨_, _, _, h⟩ | ⟨_, _, _, h⟩ <;> cases h)
  rcases hq' with ⟨e1, _, hs5, hq'⟩ | ⟨⟨e1, e2⟩, _, hs5, hq'⟩
  rotate_left
  · cases hq'
    refine mj_T.if0 (a := 0) rfl ⟨by decide, by decide⟩ (fun hc => ?_) (fun hc => ?_)
    rotate_left
    · simp [jc] at hc
    exact t51 _ _ _ h5 ⟨by omega, by omega⟩ ⟨by decide, by decide⟩ ⟨by omega, by omega⟩ (by unfold rdErr; rw [hres, c1]; exact (if_pos rfl).trans (if_neg e1)) hs5
  cases hq'
  refine mj_T.if0 (a := 1) rfl ⟨by decide, by decide⟩ (fun hc => ?_) (fun hc => ?_)
  · simp [jc] at hc
  have herr : rdErr T tm0 = -1 := by unfold rdErr; rw [hres, c1]; exact (if_pos rfl).trans (if_pos e1)
  iterate 4 refine mj_T.pl rfl rfl rfl rfl ?_
  refine mj_T.if0 (a := 1) rfl ⟨by decide, by decide⟩ (fun hc => ?_) (fun hc => ?_)
  · simp [jc] at hc
  iterate 2 refine mj_T.pl rfl rfl rfl rfl ?_
  refine rT_put (v := ((0 : Nat) : Int)) hs5 rfl rfl (by decide) rfl (fun h6 hs6 => ?_)
  rw [st3_10] at hs6
  iterate 2 refine mj_T.pl rfl rfl rfl rfl ?_
  refine rT_put (v := 0) hs6 rfl rfl (by decide) rfl (fun h7 hs7 => ?_)
  rw [jvu13_st3] at hs7
  iterate 2 refine mj_T.pl rfl rfl rfl rfl ?_
  have hre2 := hre
  rw [c1] at hre2
  refine mj_T.call (ins := .invokevirtual 268) rfl rfl (Nat.le_of_ble_eq_true rfl) (Nat.le_of_ble_eq_true rfl) (by simp [mj_recv, rS_f hs7]) rfl (mj_Ok.up (by decide) (wk_all k9.1 ht hT 8 (rdF tm0) 0 23 c V h7 (by decide) (by decide) (by decide) (Nat.zero_le _) hre2 hs7)) (fun v' h8 hq' => ?_) (fun i h' hq' => by obtain ⟨_, _, _, _, _, _, _, _, h⟩ := hq'; cases h)
  obtain ⟨V8, a8, y8, _, hs8, ha8, _, hy8, hq'⟩ := hq'
  cases hq'
  have hy : y8 = 0 ∨ y8 = 1 := by rcases hy8 with ⟨q, _⟩ | q; exact Or.inl q; exact Or.inr q
  have K9 := ((K1.put13 hy).rd3 (a := (a8 : Int)) (o := 8 - ((8 : Nat) : Int)) (e := -1) ⟨by omega, by omega⟩ ⟨by decide, by decide⟩ ⟨by decide, by decide⟩).clear
  iterate 2 refine mj_T.pl rfl rfl rfl rfl ?_
  refine rT_put (v := 0) hs8 rfl rfl (by decide) rfl (fun h9 hs9 => ?_)
  refine mj_T.pl rfl rfl rfl rfl ?_
  refine mj_T.if0 (a := 1) rfl ⟨by decide, by decide⟩ (fun hc => ?_) (fun hc => ?_)
  rotate_left
  · simp [jc] at hc
  refine mj_T.pl rfl rfl rfl rfl ?_
  refine rT_get (v := .int (jn y8)) hs9 rfl rfl ?_
  refine mj_T.if0 (a := y8) rfl ⟨by omega, by omega⟩ (fun hc9 => ?_) (fun hc9 => ?_)
  · skip
    iterate 4 refine mj_T.pl rfl rfl rfl rfl ?_
    refine mj_T.call (ins := .invokevirtual 219) rfl rfl (Nat.le_of_ble_eq_true rfl) (Nat.le_of_ble_eq_true rfl) (by simp [mj_recv, rS_f hs9]) rfl (mj_Ok.up (by decide) (rp_puts (D := 0) (r := x) (p := 23) (c := 3) (by omega) (by decide) ⟨by decide, by decide⟩ K9 hs9)) (fun v' h10 hq' => ?_) (fun i h' hq' => by obtain ⟨_, _, _, h, _⟩ := hq'; cases h)
    obtain ⟨z9, _, hz9, e9, hI9⟩ := hq'
    cases e9
    exact mj_T.ret rfl rfl rfl (Or.inl ⟨⟨by omega, by omega⟩, z9, _, hz9, rfl, by rw [herr]; exact hI9⟩)
  iterate 2 refine mj_T.pl rfl rfl rfl rfl ?_
  refine mj_T.call (ins := .invokevirtual 198) rfl rfl (Nat.le_of_ble_eq_true rfl) (Nat.le_of_ble_eq_true rfl) (by simp [mj_recv, rS_f hs9]) rfl (mj_Ok.up (by decide) (rp_fails (D := 0) (c := 3) hs9)) (fun v' g4 hq' => ?_) (fun i h' hq' => by obtain ⟨_, _, h⟩ := hq'; cases h)
  obtain ⟨_, hs4, hq'⟩ := hq'
  cases hq'
  refine mj_T.pl rfl rfl rfl rfl ?_
  exact mj_T.ret rfl rfl rfl (Or.inl ⟨⟨by omega, by omega⟩, 0, g4, ⟨by decide, by decide⟩, rfl, ⟨_, N, B, X, V8, hs4, by rw [herr]; exact K9.put ⟨by decide, by decide⟩ (by decide) (by decide) (by decide) (by decide) (by decide)⟩⟩)
end RPU
/-! The reference's constructor, and what it has thrown. -/
section RIN
variable {D pc r1 r2 r3 r4 r5 : Nat} {M : mj_M} {loc : mj_L} {st : List Value} {h : mj_H} {Q : mj_R → Prop}
theorem mj_T.lstj {a n : Nat} (N : Nat → Int) (i z : Int) (hc : M.2.2.2.2.1 pc = some (.lastore, r1, r2, r3, r4, r5)) (ha : h[a]? = some (.inl (1, n, fun j => .long (jl (N j))))) (hi : jr i) (h0 : 0 ≤ i ∧ i < n) (k : mj_T D M (pc + 1) loc st (h.set a (.inl (1, n, fun j => .long (jl (jvu N i.toNat z j))))) Q) : mj_T D M pc loc (.long (jl z) :: .int (jn i) :: .ref a :: st) h Q := by
  refine mj_T.last (g := fun j => jl (N j)) hc ha hi h0 ?_
  have e : (fun j => Value.long (if j = i.toNat then jl z else jl (N j))) = fun j => Value.long (jl (jvu N i.toNat z j)) := funext fun j => by
    unfold jvu
    split <;> rfl
  rw [e]
  exact k
end RIN
def riN : Nat → Int := jvu (jvu (jvu (jvu (jvu (jvu (jvu (fun _ => 0) 0 (-2)) 2 1) 14 (-1)) 16 1) 26 1) 27 (-5)) 28 6
def riS : Nat → Int := fun k => if k = 12 then -1 else 0
theorem riN_1 : ∀ j, j < 91 → -5 ≤ riN j ∧ riN j ≤ 6 ∧ (29 ≤ j → riN j = 0) := by decide
theorem riK : jK 0 (-1) riS riN (fun _ => 0) (fun _ => 0) := by
  refine ⟨⟨fun j hj => ?_, by decide, fun k hk => ?_, fun i j _ hj => ?_⟩, by decide, fun k hk => ?_, by decide, rfl, by decide, fun k => ?_, Or.inl rfl, fun j hj => ?_⟩
  · have := riN_1 j (by omega)
    omega
  · have h1 := (riN_1 (79 + k) (by omega)).2.2 (by omega)
    have h2 := (riN_1 (85 + k) (by omega)).2.2 (by omega)
    omega
  · have : riN 78 = 0 := rfl
    omega
  · have : riS 2 = 0 := rfl
    omega
  · unfold riS
    split
    · exact ⟨by decide, by decide⟩
    · exact ⟨by decide, by decide⟩
  · omega
theorem riV : jV (fun _ => jn 0) (fun _ => 0) := fun s hs => ⟨rfl, by show jn 0 = jn ((jnl 0 : Nat) : Int); rw [jnl_zero]; rfl, fun j hj => by
  have h0 : jnl (0 : Int).natAbs = 0 := jnl_zero
  rw [h0] at hj
  omega, by
  have h0 : jnl (0 : Int).natAbs = 0 := jnl_zero
  rw [h0]
  omega⟩
theorem rp_init {D : Nat} : mj_Ok (D + 2) 174 [.ref 0] [.inr (10, mj_new 10)] (fun r => ∃ h', r = (.inl none, h') ∧ jI 0 (-1) (fun _ => 0) h') := by
  refine mj_Ok.of (M := mj_m174) rfl rfl rfl ?_
  refine mj_T.pl rfl rfl rfl rfl ?_
  refine mj_T.prim rfl rfl rfl ?_
  iterate 31 refine mj_T.pl rfl rfl rfl rfl ?_
  iterate 4 refine mj_T.pl rfl rfl rfl rfl ?_
  refine mj_T.eq (st2 := [.long (jl (-2)), .int (jn 0), .ref 1]) ?_ rfl rfl rfl rfl
  refine mj_T.lstj (fun _ => 0) 0 (-2) rfl rfl ⟨by decide, by decide⟩ ⟨by decide, by decide⟩ ?_
  iterate 4 refine mj_T.pl rfl rfl rfl rfl ?_
  refine mj_T.eq (st2 := [.long (jl (1)), .int (jn 2), .ref 1]) ?_ rfl rfl rfl rfl
  refine mj_T.lstj (jvu (fun _ => 0) 0 (-2)) 2 (1) rfl rfl ⟨by decide, by decide⟩ ⟨by decide, by decide⟩ ?_
  iterate 4 refine mj_T.pl rfl rfl rfl rfl ?_
  refine mj_T.eq (st2 := [.long (jl (-1)), .int (jn 14), .ref 1]) ?_ rfl rfl rfl rfl
  refine mj_T.lstj (jvu (jvu (fun _ => 0) 0 (-2)) 2 (1)) 14 (-1) rfl rfl ⟨by decide, by decide⟩ ⟨by decide, by decide⟩ ?_
  iterate 4 refine mj_T.pl rfl rfl rfl rfl ?_
  refine mj_T.eq (st2 := [.long (jl (1)), .int (jn 16), .ref 1]) ?_ rfl rfl rfl rfl
  refine mj_T.lstj (jvu (jvu (jvu (fun _ => 0) 0 (-2)) 2 (1)) 14 (-1)) 16 (1) rfl rfl ⟨by decide, by decide⟩ ⟨by decide, by decide⟩ ?_
  iterate 4 refine mj_T.pl rfl rfl rfl rfl ?_
  refine mj_T.eq (st2 := [.long (jl (1)), .int (jn 26), .ref 1]) ?_ rfl rfl rfl rfl
  refine mj_T.lstj (jvu (jvu (jvu (jvu (fun _ => 0) 0 (-2)) 2 (1)) 14 (-1)) 16 (1)) 26 (1) rfl rfl ⟨by decide, by decide⟩ ⟨by decide, by decide⟩ ?_
  iterate 4 refine mj_T.pl rfl rfl rfl rfl ?_
  refine mj_T.eq (st2 := [.long (jl (-5)), .int (jn 27), .ref 1]) ?_ rfl rfl rfl rfl
  refine mj_T.lstj (jvu (jvu (jvu (jvu (jvu (fun _ => 0) 0 (-2)) 2 (1)) 14 (-1)) 16 (1)) 26 (1)) 27 (-5) rfl rfl ⟨by decide, by decide⟩ ⟨by decide, by decide⟩ ?_
  iterate 4 refine mj_T.pl rfl rfl rfl rfl ?_
  refine mj_T.eq (st2 := [.long (jl (6)), .int (jn 28), .ref 1]) ?_ rfl rfl rfl rfl
  refine mj_T.lstj (jvu (jvu (jvu (jvu (jvu (jvu (fun _ => 0) 0 (-2)) 2 (1)) 14 (-1)) 16 (1)) 26 (1)) 27 (-5)) 28 (6) rfl rfl ⟨by decide, by decide⟩ ⟨by decide, by decide⟩ ?_
  have hs : ∀ L : mj_H, L = rH riS riN (fun _ => 0) (fun _ => 0) (fun _ => 0) → rS riS riN (fun _ => 0) (fun _ => 0) (fun _ => 0) (fun _ => 0) L := fun L hL => ⟨fun _ => jn 0, fun _ => .int (jn 0), fun _ => .int (jn 0), riV, hL⟩
  refine mj_T.eq (h2 := rH riS riN (fun _ => 0) (fun _ => 0) (fun _ => 0)) ?_ rfl rfl rfl rfl
  have hs0 := hs _ rfl
  generalize rH riS riN (fun _ => 0) (fun _ => 0) (fun _ => 0) = h at hs0
  iterate 3 refine mj_T.pl rfl rfl rfl rfl ?_
  refine mj_T.call (ins := .invokevirtual 45) rfl rfl (Nat.le_of_ble_eq_true rfl) (Nat.le_of_ble_eq_true rfl) (by simp [mj_recv, rS_f hs0]) rfl (jS_sets (D := D) (rG riS riN (fun _ => 0) (fun _ => 0) (fun _ => 0)) (s := 650) (v := 0) (by decide) ⟨by decide, by decide⟩ hs0) (fun v' h1 hq' => ?_) (fun i h' hq' => by obtain ⟨_, _, h⟩ := hq'; cases h)
  obtain ⟨_, hs1, hq'⟩ := hq'
  cases hq'
  iterate 3 refine mj_T.pl rfl rfl rfl rfl ?_
  refine mj_T.call (ins := .invokevirtual 45) rfl rfl (Nat.le_of_ble_eq_true rfl) (Nat.le_of_ble_eq_true rfl) (by simp [mj_recv, jS_a (rG riS riN (fun _ => 0) (fun _ => 0) (fun _ => 0)) hs1]) rfl (jS_sets (D := D) (rG riS riN (fun _ => 0) (fun _ => 0) (fun _ => 0)) (s := 651) (v := 1) (by decide) ⟨by decide, by decide⟩ hs1) (fun v' h2 hq' => ?_) (fun i h' hq' => by obtain ⟨_, _, h⟩ := hq'; cases h)
  obtain ⟨_, hs2, hq'⟩ := hq'
  cases hq'
  exact mj_T.ret rfl rfl rfl ⟨h2, rfl, ⟨_, _, _, _, _, hs2, riK⟩⟩
/-! The class's cells by kinds: 1 ints, 2 a row of longs, 3 bytes, 4 to 7 arrays of Wide, Poly, rows, Bench, 10 + c an object of class c, 27 the buffer's Text. Rules for the steps over such a heap. -/
/-- the codes of the fields: 0 int, 1 long, 2 boolean, 4 the Reader's text, 5 a length, 6 a degree, 7 the buffer's length, 8 the divisor's size, 9 how many points, 10 a Wide's size; 100 + k: a cell of kind k, for good -/
def jfs : Nat → List Nat
  | 10 => [106, 101, 101, 9]
  | 11 => [113, 113, 113, 113, 118, 118, 118, 112]
  | 12 => [101, 8, 0, 1]
  | 13 => [104, 118, 6]
  | 14 => [111, 4, 0, 0, 2, 106, 106, 102]
  | 15 => [111, 116, 2, 0, 0, 1, 118, 2, 118, 118, 118, 118]
  | 16 => [111, 105, 0, 118, 118, 118]
  | 17 => [103, 5]
  | 18 => [101, 10, 0]
  | 19 => [110, 107, 0, 0, 127, 117, 117, 111, 116, 115, 114, 118, 118, 102, 102, 0]
  | 27 => [103, 7]
  | _ => []
def jkc (k : Nat) : Nat := if k = 27 then 7 else k - 10
/-- the machine's kind of an array, its least and its greatest length, what it holds -/
def jak : Nat → Nat
  | 1 => 0
  | 2 => 1
  | 3 => 2
  | 4 => 5
  | 5 => 4
  | 6 => 6
  | _ => 3
def jal : Nat → Int
  | 2 => 13
  | 4 => 1
  | 5 => 14
  | 6 => 6
  | 7 => 8
  | _ => 0
def jah : Nat → Int
  | 2 => 13
  | 4 => 25
  | 5 => 14
  | 6 => 9
  | 7 => 8
  | _ => 1000
def jae : Nat → Nat
  | 4 => 18
  | 5 => 13
  | 6 => 2
  | _ => 10
def jlo (tm : Int) : Nat → Int
  | 2 => 0
  | 8 => 0
  | 9 => 0
  | 10 => 0
  | 5 => 0
  | 6 => -1
  | 7 => tm
  | _ => -2147483648
def jhi (tm : Int) : Nat → Int
  | 2 => 1
  | 5 => 340
  | 6 => 30
  | 7 => tm
  | 8 => 60
  | 10 => 1000
  | _ => 2147483647
/-- a field of that code is an int -/
def jci (c : Nat) : Bool := decide (c < 100 ∧ c ≠ 1 ∧ c ≠ 4)
section JTY
variable (K L : Nat → Nat) (R : Nat → Nat → Nat)
/-- the kinds fit -/
def jTY : Prop := (∀ a i c, (jfs (K a))[i]? = some c → 100 ≤ c → K (R a i) = c - 100) ∧ (∀ a, 1 ≤ K a → K a ≤ 7 → jal (K a) ≤ (L a : Int) ∧ (L a : Int) ≤ jah (K a)) ∧ (∀ a i, 4 ≤ K a → K a ≤ 7 → i < L a → K (R a i) = jae (K a)) ∧ (∀ a, K a = 12 → L (R a 0) = 60) ∧ (∀ a, K a = 27 → L (R a 0) = 200) ∧ (∀ a, K a = 17 → L (R a 0) = 340) ∧ (∀ a b, K a = 27 → K b = 27 → a = b) ∧ (∀ a, K a = 10 → L (R a 0) = 6)
def jfv (tm : Int) (c a i : Nat) (v : Value) : Prop :=
  if 100 ≤ c then v = .ref (R a i) else if c = 1 then ∃ x : Int, jR x ∧ v = .long (jl x) else if c = 4 then ∃ b, (K b = 17 ∨ K b = 27) ∧ v = .ref b else ∃ x : Int, jlo tm c ≤ x ∧ x ≤ jhi tm c ∧ v = .int (jn x)
/-- a cell is of that kind -/
def jCf (tm : Int) (k a : Nat) (e : mj_E) : Prop :=
  if k ≤ 7 then ∃ f : Nat → Value, e = .inl (jak k, L a, f) ∧ (∀ i, if k = 1 ∨ k = 3 then ∃ x : Int, jr x ∧ f i = .int (jn x) else if k = 2 then ∃ x : Int, jR x ∧ f i = .long (jl x) else i < L a → f i = .ref (R a i))
  else ∃ fs : List Value, e = .inr (jkc k, fs) ∧ fs.length = (jfs k).length ∧ ∀ i c, (jfs k)[i]? = some c → ∃ v, fs[i]? = some v ∧ jfv K R tm c a i v
/-- the class's cells are of their kinds, the others as in g -/
def jO (g : mj_H) (n : Nat) (tm : Int) (h : mj_H) : Prop := h.length = n ∧ (0 ≤ tm ∧ tm ≤ 200) ∧ (∀ a, K a = 0 → (a < g.length → h[a]? = g[a]?) ∧ (g.length ≤ a → a < n → h[a]? = some (.inr (99, [.null, .null, .null, .null, .null, .null])))) ∧ (∀ a, K a ≠ 0 → ∃ e, h[a]? = some e ∧ jCf K L R tm (K a) a e)
end JTY
/-- what an int field holds; what a place of an array of ints holds -/
def jfI (h : mj_H) (a i : Nat) : Int := match h[a]? with
  | some (.inr (_, fs)) => (match fs[i]? with
    | some (.int x) => x.toInt
    | _ => 0)
  | _ => 0
def jaI (h : mj_H) (a i : Nat) : Int := match h[a]? with
  | some (.inl (_, _, f)) => (match f i with
    | .int x => x.toInt
    | _ => 0)
  | _ => 0
theorem jlo_r {tm : Int} (ht : 0 ≤ tm ∧ tm ≤ 200) (c : Nat) : -2147483648 ≤ jlo tm c := by
  unfold jlo
  split <;> omega
theorem jhi_r {tm : Int} (ht : 0 ≤ tm ∧ tm ≤ 200) (c : Nat) : jhi tm c ≤ 2147483647 := by
  unfold jhi
  split <;> omega
section JTC
variable {K L : Nat → Nat} {R : Nat → Nat → Nat} {g : mj_H} {n : Nat} {tm : Int} {h : mj_H}
theorem jO.obj (o : jO K L R g n tm h) {a k : Nat} (ka : K a = k) (hk : 7 < k) : ∃ fs : List Value, h[a]? = some (.inr (jkc k, fs)) ∧ fs.length = (jfs k).length ∧ ∀ i c, (jfs k)[i]? = some c → ∃ v, fs[i]? = some v ∧ jfv K R tm c a i v := by
  subst ka
  obtain ⟨e, h1, h2⟩ := o.2.2.2 a (by omega)
  unfold jCf at h2
  rw [if_neg (by omega)] at h2
  obtain ⟨fs, h3, h4⟩ := h2
  exact ⟨fs, by rw [h1, h3], h4⟩
theorem jO.arr (o : jO K L R g n tm h) {a k : Nat} (ka : K a = k) (hk : 1 ≤ k) (hk2 : k ≤ 7) : ∃ f : Nat → Value, h[a]? = some (.inl (jak k, L a, f)) ∧ (∀ i, if k = 1 ∨ k = 3 then ∃ x : Int, jr x ∧ f i = .int (jn x) else if k = 2 then ∃ x : Int, jR x ∧ f i = .long (jl x) else i < L a → f i = .ref (R a i)) := by
  subst ka
  obtain ⟨e, h1, h2⟩ := o.2.2.2 a (by omega)
  unfold jCf at h2
  rw [if_pos hk2] at h2
  obtain ⟨f, h3, h4⟩ := h2
  exact ⟨f, by rw [h1, h3], h4⟩
/-- a cell is exchanged for one of its kind -/
theorem jO.set (o : jO K L R g n tm h) {a : Nat} {e : mj_E} (ka : K a ≠ 0) (he : jCf K L R tm (K a) a e) : jO K L R g n tm (h.set a e) := by
  refine ⟨by rw [List.length_set]; exact o.1, o.2.1, fun b hb => ?_, fun b hb => ?_⟩
  · rw [List.getElem?_set_ne (by intro q; rw [q] at ka; exact ka hb)]
    exact o.2.2.1 b hb
  · by_cases q : a = b
    · subst q
      obtain ⟨e0, h1, _⟩ := o.2.2.2 a ka
      refine ⟨e, ?_, he⟩
      rw [List.getElem?_set_self (by exact (List.getElem?_eq_some_iff.mp h1).1)]
    · rw [List.getElem?_set_ne q]
      exact o.2.2.2 b hb
theorem jO.app (o : jO K L R g n tm h) (hg : g.length ≤ n) : jO K L R g (n + 1) tm (h ++ [(.inr (99, [.null, .null, .null, .null, .null, .null]))]) := by
  refine ⟨by rw [List.length_append, o.1]; rfl, o.2.1, fun b hb => ⟨fun hb2 => ?_, fun h1 h2 => ?_⟩, fun b hb => ?_⟩
  · rw [List.getElem?_append_left (by rw [o.1]; omega)]
    exact (o.2.2.1 b hb).1 hb2
  · by_cases c : b < n
    · rw [List.getElem?_append_left (by rw [o.1]; exact c)]
      exact (o.2.2.1 b hb).2 h1 c
    · have c2 : b = h.length := by rw [o.1]; omega
      subst c2
      rw [List.getElem?_append_right (Nat.le_refl _), Nat.sub_self]
      rfl
  · obtain ⟨e0, h1, h2⟩ := o.2.2.2 b hb
    exact ⟨e0, by rw [List.getElem?_append_left (List.getElem?_eq_some_iff.mp h1).1]; exact h1, h2⟩
theorem jO.recv (o : jO K L R g n tm h) {a k : Nat} (ka : K a = k) (hk : 7 < k) : ∃ fs, h[a]? = some (.inr (jkc k, fs)) := by
  obtain ⟨fs, h1, _⟩ := o.obj ka hk
  exact ⟨fs, h1⟩
end JTC
/-! Rules for the steps over the class's cells. -/
section JTR
variable {D pc : Nat} {M : mj_M} {loc : mj_L} {st : List Value} {h : mj_H} {Q : mj_R → Prop} {r1 r2 r3 r4 r5 : Nat}
variable {K L : Nat → Nat} {R : Nat → Nat → Nat} {g : mj_H} {n : Nat} {tm : Int}
theorem jfv_int {c a i : Nat} {v : Value} (hc : jci c = true) (q : jfv K R tm c a i v) : ∃ x : Int, jlo tm c ≤ x ∧ x ≤ jhi tm c ∧ v = .int (jn x) := by
  have hc := of_decide_eq_true hc
  unfold jfv at q
  rw [if_neg (by omega), if_neg hc.2.1, if_neg hc.2.2] at q
  exact q
theorem jfv_mk {c a i : Nat} {x : Int} (hc : jci c = true) (h1 : jlo tm c ≤ x) (h2 : x ≤ jhi tm c) : jfv K R tm c a i (.int (jn x)) := by
  have hc := of_decide_eq_true hc
  unfold jfv
  rw [if_neg (by omega), if_neg hc.2.1, if_neg hc.2.2]
  exact ⟨x, h1, h2, rfl⟩
theorem jT.getI {a f c i : Nat} (k : Nat) (cd : Nat) (o : jO K L R g n tm h) (hc : M.2.2.2.2.1 pc = some (.getfield f, c, i, r3, r4, r5)) (ka : K a = k) (hk : 7 < k) (hcl : jkc k = c) (hcd : (jfs k)[i]? = some cd) (hci : jci cd = true) (q : ∀ z, jlo tm cd ≤ z → z ≤ jhi tm cd → z = jfI h a i → mj_T D M (pc + 3) loc (.int (jn z) :: st) h Q) : mj_T D M pc loc (.ref a :: st) h Q := by
  obtain ⟨fs, h1, h2, h3⟩ := o.obj ka hk
  obtain ⟨v, h4, h5⟩ := h3 i cd hcd
  obtain ⟨x, h6, h7, h8⟩ := jfv_int hci h5
  subst h8
  have hx : jr x := ⟨by have := jlo_r o.2.1 cd; omega, by have := jhi_r o.2.1 cd; omega⟩
  refine mj_T.step hc rfl (pc' := pc + 3) (loc' := loc) (st' := .int (jn x) :: st) (h' := h) ?_ (q x h6 h7 ?_)
  · simp only [mj_step, h1, hcl, if_true, h4]
  · simp only [jfI, h1, h4, jn_toInt hx]
theorem jT.getL {a f c i : Nat} (k : Nat) (o : jO K L R g n tm h) (hc : M.2.2.2.2.1 pc = some (.getfield f, c, i, r3, r4, r5)) (ka : K a = k) (hk : 7 < k) (hcl : jkc k = c) (hcd : (jfs k)[i]? = some 1) (q : ∀ z, jR z → mj_T D M (pc + 3) loc (.long (jl z) :: st) h Q) : mj_T D M pc loc (.ref a :: st) h Q := by
  obtain ⟨fs, h1, h2, h3⟩ := o.obj ka hk
  obtain ⟨v, h4, h5⟩ := h3 i 1 hcd
  obtain ⟨x, h6, h8⟩ := h5
  subst h8
  exact mj_T.step hc rfl (by simp only [mj_step, h1, hcl, if_true, h4]) (q x h6)
theorem jT.getR {a f c i : Nat} (k cd kk : Nat) (ty : jTY K L R) (o : jO K L R g n tm h) (hc : M.2.2.2.2.1 pc = some (.getfield f, c, i, r3, r4, r5)) (ka : K a = k) (hk : 7 < k) (hcl : jkc k = c) (hcd : (jfs k)[i]? = some cd) (hkk : 100 + kk = cd) (q : K (R a i) = kk → mj_T D M (pc + 3) loc (.ref (R a i) :: st) h Q) : mj_T D M pc loc (.ref a :: st) h Q := by
  obtain ⟨fs, h1, h2, h3⟩ := o.obj ka hk
  obtain ⟨v, h4, h5⟩ := h3 i cd hcd
  unfold jfv at h5
  rw [if_pos (by omega)] at h5
  subst h5
  exact mj_T.step hc rfl (by simp only [mj_step, h1, hcl, if_true, h4]) (q (by rw [ty.1 a i cd (by rw [ka]; exact hcd) (by omega)]; omega))
theorem jT.getT {a f : Nat} (o : jO K L R g n tm h) (hc : M.2.2.2.2.1 pc = some (.getfield f, 4, 1, r3, r4, r5)) (ka : K a = 14) (q : ∀ b, (K b = 17 ∨ K b = 27) → mj_T D M (pc + 3) loc (.ref b :: st) h Q) : mj_T D M pc loc (.ref a :: st) h Q := by
  obtain ⟨fs, h1, h2, h3⟩ := o.obj ka (by decide)
  obtain ⟨v, h4, h5⟩ := h3 1 4 rfl
  obtain ⟨b, h6, h8⟩ := h5
  subst h8
  exact mj_T.step hc rfl (by
    simp only [mj_step, h1, h4]
    rfl) (q b h6)
/-- the length of a Text, whichever it is -/
theorem jT.getE {a f : Nat} (o : jO K L R g n tm h) (hc : M.2.2.2.2.1 pc = some (.getfield f, 7, 1, r3, r4, r5)) (ka : K a = 17 ∨ K a = 27) (q : ∀ z, 0 ≤ z → z ≤ 340 → z = jfI h a 1 → mj_T D M (pc + 3) loc (.int (jn z) :: st) h Q) : mj_T D M pc loc (.ref a :: st) h Q := by
  rcases ka with ka | ka
  · exact jT.getI 17 5 o hc ka (by decide) rfl rfl rfl (fun z h1 h2 h3 => q z h1 h2 h3)
  · refine jT.getI 27 7 o hc ka (by decide) rfl rfl rfl (fun z h1 h2 h3 => q z ?_ ?_ h3)
    · have := o.2.1; simp only [jlo] at h1; omega
    · have := o.2.1; simp only [jhi] at h2; omega
theorem jfI_set {a i : Nat} {c : Nat} {fs : List Value} (h1 : h[a]? = some (.inr (c, fs))) (hi : i < fs.length) (x : Int) (hx : jr x) : jfI (h.set a (.inr (c, fs.set i (.int (jn x))))) a i = x ∧ ∀ a' i', (a' ≠ a ∨ i' ≠ i) → jfI (h.set a (.inr (c, fs.set i (.int (jn x))))) a' i' = jfI h a' i' := by
  have hl := (List.getElem?_eq_some_iff.mp h1).1
  constructor
  · simp only [jfI]
    rw [List.getElem?_set_self hl]
    simp only
    rw [List.getElem?_set_self hi]
    simp only [jn_toInt hx]
  · intro a' i' q
    simp only [jfI]
    by_cases e : a = a'
    · subst e
      rw [List.getElem?_set_self hl, h1]
      simp only
      rw [List.getElem?_set_ne (by rcases q with q | q <;> omega)]
    · rw [List.getElem?_set_ne e]
theorem jCf_set {a k i cd : Nat} {fs : List Value} {v : Value} (hk : 7 < k) (h2 : fs.length = (jfs k).length) (h3 : ∀ i c, (jfs k)[i]? = some c → ∃ v, fs[i]? = some v ∧ jfv K R tm c a i v) (hcd : (jfs k)[i]? = some cd) (hv : jfv K R tm cd a i v) : jCf K L R tm k a (.inr (jkc k, fs.set i v)) := by
  have hi : i < fs.length := by rw [h2]; exact (List.getElem?_eq_some_iff.mp hcd).1
  unfold jCf
  rw [if_neg (by omega)]
  refine ⟨_, rfl, by rw [List.length_set]; exact h2, fun j c hj => ?_⟩
  by_cases e : i = j
  · subst e
    rw [hcd] at hj
    cases hj
    exact ⟨v, by rw [List.getElem?_set_self hi], hv⟩
  · rw [List.getElem?_set_ne e]
    exact h3 j c hj
theorem jT.putI {a f c i : Nat} (k cd : Nat) {x : Int} (o : jO K L R g n tm h) (hc : M.2.2.2.2.1 pc = some (.putfield f, c, i, r3, r4, r5)) (ka : K a = k) (hk : 7 < k) (hcl : jkc k = c) (hcd : (jfs k)[i]? = some cd) (hci : jci cd = true) (hr : r3 = 0 ∨ (r3 = 2 ∧ cd = 2)) (hlo : jlo tm cd ≤ x) (hhi : x ≤ jhi tm cd) (q : ∀ h', jO K L R g n tm h' → jfI h' a i = x → (∀ a' i', (a' ≠ a ∨ i' ≠ i) → jfI h' a' i' = jfI h a' i') → mj_T D M (pc + 3) loc st h' Q) : mj_T D M pc loc (.int (jn x) :: .ref a :: st) h Q := by
  obtain ⟨fs, h1, h2, h3⟩ := o.obj ka hk
  have hx : jr x := ⟨by have := jlo_r o.2.1 cd; omega, by have := jhi_r o.2.1 cd; omega⟩
  have hi : i < fs.length := by rw [h2]; exact (List.getElem?_eq_some_iff.mp hcd).1
  have hf : mj_fit r3 (.int (jn x)) = true := by
    rcases hr with hr | ⟨hr, hr2⟩
    · subst hr; rfl
    · subst hr hr2
      simp only [jlo, jhi] at hlo hhi
      have : x = 0 ∨ x = 1 := by omega
      rcases this with q | q
      · subst q; rfl
      · subst q; rfl
  subst hcl
  obtain ⟨e1, e2⟩ := jfI_set h1 hi x hx
  refine mj_T.step hc rfl (pc' := pc + 3) (loc' := loc) (st' := st) (h' := h.set a (.inr (jkc k, fs.set i (.int (jn x))))) ?_ (q _ ?_ e1 e2)
  · simp only [mj_step, h1, hi, hf, true_and, if_true]
  · refine o.set (by omega) ?_
    rw [ka]
    exact jCf_set hk h2 h3 hcd (jfv_mk hci hlo hhi)
theorem jfI_setv {a i : Nat} {c : Nat} {fs : List Value} (h1 : h[a]? = some (.inr (c, fs))) (hi : i < fs.length) (v : Value) : ∀ a' i', (a' ≠ a ∨ i' ≠ i) → jfI (h.set a (.inr (c, fs.set i v))) a' i' = jfI h a' i' := by
  have hl := (List.getElem?_eq_some_iff.mp h1).1
  intro a' i' q
  simp only [jfI]
  by_cases e : a = a'
  · subst e
    rw [List.getElem?_set_self hl, h1]
    simp only
    rw [List.getElem?_set_ne (by rcases q with q | q <;> omega)]
  · rw [List.getElem?_set_ne e]
theorem jT.putL {a f c i : Nat} (k : Nat) {x : Int} (hx : jR x) (o : jO K L R g n tm h) (hc : M.2.2.2.2.1 pc = some (.putfield f, c, i, 1, r4, r5)) (ka : K a = k) (hk : 7 < k) (hcl : jkc k = c) (hcd : (jfs k)[i]? = some 1) (q : ∀ h', jO K L R g n tm h' → (∀ a' i', (a' ≠ a ∨ i' ≠ i) → jfI h' a' i' = jfI h a' i') → mj_T D M (pc + 3) loc st h' Q) : mj_T D M pc loc (.long (jl x) :: .ref a :: st) h Q := by
  obtain ⟨fs, h1, h2, h3⟩ := o.obj ka hk
  have hi : i < fs.length := by rw [h2]; exact (List.getElem?_eq_some_iff.mp hcd).1
  subst hcl
  refine mj_T.step hc rfl (pc' := pc + 3) (loc' := loc) (st' := st) (h' := h.set a (.inr (jkc k, fs.set i (.long (jl x))))) ?_ (q _ ?_ (jfI_setv h1 hi _))
  · simp only [mj_step, h1, hi, true_and, mj_fit, if_true]
  · refine o.set (by omega) ?_
    rw [ka]
    exact jCf_set hk h2 h3 hcd ⟨x, hx, rfl⟩
theorem jT.putT {a f b : Nat} (o : jO K L R g n tm h) (hc : M.2.2.2.2.1 pc = some (.putfield f, 4, 1, 3, r4, r5)) (ka : K a = 14) (kb : K b = 17 ∨ K b = 27) (q : ∀ h', jO K L R g n tm h' → (∀ a' i', (a' ≠ a ∨ i' ≠ 1) → jfI h' a' i' = jfI h a' i') → mj_T D M (pc + 3) loc st h' Q) : mj_T D M pc loc (.ref b :: .ref a :: st) h Q := by
  obtain ⟨fs, h1, h2, h3⟩ := o.obj ka (by decide)
  have hi : 1 < fs.length := by rw [h2]; decide
  refine mj_T.step hc rfl (pc' := pc + 3) (loc' := loc) (st' := st) (h' := h.set a (.inr (jkc 14, fs.set 1 (.ref b)))) ?_ (q _ ?_ (jfI_setv h1 hi _))
  · simp only [mj_step, h1, hi, true_and, mj_fit, if_true]
    rfl
  · refine o.set (by omega) ?_
    rw [ka]
    exact jCf_set (by decide) h2 h3 rfl ⟨b, kb, rfl⟩
/-- the buffer's length -/
theorem jT.putB {a f : Nat} {x : Int} (u : ∀ b, K b = 27 → b = a) (o : jO K L R g n tm h) (hc : M.2.2.2.2.1 pc = some (.putfield f, 7, 1, 0, r4, r5)) (ka : K a = 27) (hx : 0 ≤ x ∧ x ≤ 200) (q : ∀ h', jO K L R g n x h' → jfI h' a 1 = x → (∀ a' i', (a' ≠ a ∨ i' ≠ 1) → jfI h' a' i' = jfI h a' i') → mj_T D M (pc + 3) loc st h' Q) : mj_T D M pc loc (.int (jn x) :: .ref a :: st) h Q := by
  obtain ⟨fs, h1, h2, h3⟩ := o.obj ka (by decide)
  have hi : 1 < fs.length := by rw [h2]; decide
  have hl := (List.getElem?_eq_some_iff.mp h1).1
  obtain ⟨e1, e2⟩ := jfI_set h1 hi x ⟨by omega, by omega⟩
  have hcf : ∀ {b c i : Nat} {v : Value}, c ≠ 7 → jfv K R tm c b i v → jfv K R x c b i v := by
    intro b c i v hc7 hv
    unfold jfv at hv ⊢
    split
    · rename_i q
      rw [if_pos q] at hv
      exact hv
    · rename_i q
      rw [if_neg q] at hv
      split
      · rename_i q
        rw [if_pos q] at hv
        exact hv
      · rename_i q
        rw [if_neg q] at hv
        split
        · rename_i q
          rw [if_pos q] at hv
          exact hv
        · rename_i q
          rw [if_neg q] at hv
          obtain ⟨y, y1, y2, y3⟩ := hv
          refine ⟨y, ?_, ?_, y3⟩
          · unfold jlo at y1 ⊢
            split <;> first | (exact absurd rfl hc7) | (simp only at y1; exact y1) | omega
          · unfold jhi at y2 ⊢
            split <;> first | (exact absurd rfl hc7) | (simp only at y2; exact y2) | omega
  refine mj_T.step hc rfl (pc' := pc + 3) (loc' := loc) (st' := st) (h' := h.set a (.inr (jkc 27, fs.set 1 (.int (jn x))))) ?_ (q _ ?_ e1 e2)
  · simp only [mj_step, h1, hi, true_and, mj_fit, if_true]
    rfl
  · refine ⟨by rw [List.length_set]; exact o.1, hx, fun b hb => ?_, fun b hb => ?_⟩
    · rw [List.getElem?_set_ne (by intro e; rw [e] at ka; omega)]
      exact o.2.2.1 b hb
    · by_cases e : a = b
      · subst e
        refine ⟨_, by rw [List.getElem?_set_self hl], ?_⟩
        rw [ka]
        unfold jCf
        rw [if_neg (by decide)]
        refine ⟨_, rfl, by rw [List.length_set]; exact h2, fun j c hj => ?_⟩
        by_cases e : 1 = j
        · subst e
          cases hj
          exact ⟨_, by rw [List.getElem?_set_self hi], ⟨x, Int.le_refl _, Int.le_refl _, rfl⟩⟩
        · rw [List.getElem?_set_ne e]
          obtain ⟨v, v1, v2⟩ := h3 j c hj
          refine ⟨v, v1, hcf ?_ v2⟩
          intro q7
          subst q7
          match j, hj, e with
          | 0, hj, _ => exact absurd hj (by decide)
          | 1, _, e => exact e rfl
          | j + 2, hj, _ => exact absurd hj (by simp [jfs])
      · rw [List.getElem?_set_ne e]
        obtain ⟨e0, k1, k2⟩ := o.2.2.2 b hb
        refine ⟨e0, k1, ?_⟩
        have hb27 : K b ≠ 27 := fun q => e (u b q).symm
        unfold jCf at k2 ⊢
        split
        · rename_i q
          rw [if_pos q] at k2
          exact k2
        · rename_i q
          rw [if_neg q] at k2
          obtain ⟨gs, g1, g2, g3⟩ := k2
          refine ⟨gs, g1, g2, fun j c hj => ?_⟩
          obtain ⟨v, v1, v2⟩ := g3 j c hj
          refine ⟨v, v1, hcf ?_ v2⟩
          intro q7
          subst q7
          have hm := List.mem_of_getElem? hj
          revert hm
          generalize K b = kb at hb27
          unfold jfs
          split <;> first | (exact absurd rfl hb27) | (intro hm; exact absurd hm (by decide))
end JTR
/-! Rules for arrays, whole numbers of any size, calls. -/
section JTA
variable {D pc : Nat} {M : mj_M} {loc : mj_L} {st : List Value} {h : mj_H} {Q : mj_R → Prop} {r1 r2 r3 r4 r5 : Nat}
variable {K L : Nat → Nat} {R : Nat → Nat → Nat} {g : mj_H} {n : Nat} {tm : Int}
theorem jT.alen {a : Nat} (k : Nat) (ty : jTY K L R) (o : jO K L R g n tm h) (hc : M.2.2.2.2.1 pc = some (.arraylength, r1, r2, r3, r4, r5)) (ka : K a = k) (hk : 1 ≤ k) (hk2 : k ≤ 7) (q : ∀ z, z = (L a : Int) → jal k ≤ z → z ≤ jah k → mj_T D M (pc + 1) loc (.int (jn z) :: st) h Q) : mj_T D M pc loc (.ref a :: st) h Q := by
  obtain ⟨f, h1, _⟩ := o.arr ka hk hk2
  have h2 := ty.2.1 a (by omega) (by omega)
  rw [ka] at h2
  exact mj_T.alen hc h1 (q _ rfl h2.1 h2.2)
theorem jah_r (k : Nat) : jah k ≤ 1000 := by
  unfold jah
  split <;> omega
theorem jT.iald {a : Nat} {i : Int} (o : jO K L R g n tm h) (hc : M.2.2.2.2.1 pc = some (.iaload, r1, r2, r3, r4, r5)) (ka : K a = 1) (hi : -2147483648 ≤ i ∧ i ≤ 2147483647) (h0 : 0 ≤ i ∧ i < L a) (q : ∀ z, -2147483648 ≤ z ∧ z ≤ 2147483647 → z = jaI h a i.toNat → mj_T D M (pc + 1) loc (.int (jn z) :: st) h Q) : mj_T D M pc loc (.int (jn i) :: .ref a :: st) h Q := by
  obtain ⟨f, h1, h2⟩ := o.arr ka (by decide) (by decide)
  have h3 := h2 i.toNat
  rw [if_pos (Or.inl rfl)] at h3
  obtain ⟨x, hx, h4⟩ := h3
  have hir : jr i := ⟨hi.1, by omega⟩
  have h5 : mj_in (jn i) (L a) = true := by rw [jn_in hir]; exact decide_eq_true h0
  refine mj_T.step hc rfl (pc' := pc + 1) (loc' := loc) (st' := .int (jn x) :: st) (h' := h) ?_ (q x ⟨hx.1, by have := hx.2; omega⟩ ?_)
  · simp only [mj_step, h1, h5, jn_nat h0.1 hir, jak, true_or, true_and, if_true, h4]
  · simp only [jaI, h1, h4, jn_toInt hx]
theorem jT.bald {a : Nat} {i : Int} (o : jO K L R g n tm h) (hc : M.2.2.2.2.1 pc = some (.baload, r1, r2, r3, r4, r5)) (ka : K a = 3) (hi : -2147483648 ≤ i ∧ i ≤ 2147483647) (h0 : 0 ≤ i ∧ i < L a) (q : ∀ z, -2147483648 ≤ z ∧ z ≤ 2147483647 → z = jaI h a i.toNat → mj_T D M (pc + 1) loc (.int (jn z) :: st) h Q) : mj_T D M pc loc (.int (jn i) :: .ref a :: st) h Q := by
  obtain ⟨f, h1, h2⟩ := o.arr ka (by decide) (by decide)
  have h3 := h2 i.toNat
  rw [if_pos (Or.inr rfl)] at h3
  obtain ⟨x, hx, h4⟩ := h3
  have hir : jr i := ⟨hi.1, by omega⟩
  have h5 : mj_in (jn i) (L a) = true := by rw [jn_in hir]; exact decide_eq_true h0
  refine mj_T.step hc rfl (pc' := pc + 1) (loc' := loc) (st' := .int (jn x) :: st) (h' := h) ?_ (q x ⟨hx.1, by have := hx.2; omega⟩ ?_)
  · simp only [mj_step, h1, h5, jn_nat h0.1 hir, jak, true_and, if_true, h4]
  · simp only [jaI, h1, h4, jn_toInt hx]
theorem jT.lald {a : Nat} {i : Int} (o : jO K L R g n tm h) (hc : M.2.2.2.2.1 pc = some (.laload, r1, r2, r3, r4, r5)) (ka : K a = 2) (hi : -2147483648 ≤ i ∧ i ≤ 2147483647) (h0 : 0 ≤ i ∧ i < L a) (q : ∀ z, jR z → mj_T D M (pc + 1) loc (.long (jl z) :: st) h Q) : mj_T D M pc loc (.int (jn i) :: .ref a :: st) h Q := by
  obtain ⟨f, h1, h2⟩ := o.arr ka (by decide) (by decide)
  have h3 := h2 i.toNat
  rw [if_neg (by decide), if_pos rfl] at h3
  obtain ⟨x, hx, h4⟩ := h3
  have hir : jr i := ⟨hi.1, by omega⟩
  have h5 : mj_in (jn i) (L a) = true := by rw [jn_in hir]; exact decide_eq_true h0
  exact mj_T.step hc rfl (by simp only [mj_step, h1, h5, jn_nat h0.1 hir, jak, true_and, if_true, h4]) (q x hx)
theorem jT.aald {a : Nat} {i : Int} (k kk : Nat) (ty : jTY K L R) (o : jO K L R g n tm h) (hc : M.2.2.2.2.1 pc = some (.aaload, r1, r2, r3, r4, r5)) (ka : K a = k) (hk : 4 ≤ k) (hk2 : k ≤ 7) (hkk : jae k = kk) (hi : -2147483648 ≤ i ∧ i ≤ 2147483647) (h0 : 0 ≤ i ∧ i < L a) (q : K (R a i.toNat) = kk → mj_T D M (pc + 1) loc (.ref (R a i.toNat) :: st) h Q) : mj_T D M pc loc (.int (jn i) :: .ref a :: st) h Q := by
  obtain ⟨f, h1, h2⟩ := o.arr ka (by omega) hk2
  have h3 := h2 i.toNat
  rw [if_neg (by omega), if_neg (by omega)] at h3
  have h4 := h3 (by omega)
  have hir : jr i := ⟨hi.1, by omega⟩
  have h5 : mj_in (jn i) (L a) = true := by rw [jn_in hir]; exact decide_eq_true h0
  have h6 : mj_isref (jak k) = true := by
    have : k = 4 ∨ k = 5 ∨ k = 6 ∨ k = 7 := by omega
    rcases this with q | q | q | q <;> (subst q; rfl)
  refine mj_T.step hc rfl (pc' := pc + 1) (loc' := loc) (st' := .ref (R a i.toNat) :: st) (h' := h) ?_ (q ?_)
  · simp only [mj_step, h1, h5, h6, jn_nat h0.1 hir, true_and, if_true, h4]
  · rw [ty.2.2.1 a i.toNat (by omega) (by omega) (by omega), ka, hkk]
theorem jfI_arr {a t m : Nat} {f f' : Nat → Value} (h1 : h[a]? = some (.inl (t, m, f))) : ∀ a' i', jfI (h.set a (.inl (t, m, f'))) a' i' = jfI h a' i' := by
  have hl := (List.getElem?_eq_some_iff.mp h1).1
  intro a' i'
  simp only [jfI]
  by_cases e : a = a'
  · subst e
    rw [List.getElem?_set_self hl, h1]
  · rw [List.getElem?_set_ne e]
theorem jT.iast {a : Nat} {i x : Int} (o : jO K L R g n tm h) (hc : M.2.2.2.2.1 pc = some (.iastore, r1, r2, r3, r4, r5)) (ka : K a = 1) (hi : -2147483648 ≤ i ∧ i ≤ 2147483647) (h0 : 0 ≤ i ∧ i < L a) (hx : -2147483648 ≤ x ∧ x ≤ 2147483647) (q : ∀ h', jO K L R g n tm h' → (∀ a' i', jfI h' a' i' = jfI h a' i') → mj_T D M (pc + 1) loc st h' Q) : mj_T D M pc loc (.int (jn x) :: .int (jn i) :: .ref a :: st) h Q := by
  obtain ⟨f, h1, h2⟩ := o.arr ka (by decide) (by decide)
  have hir : jr i := ⟨hi.1, by omega⟩
  have h5 : mj_in (jn i) (L a) = true := by rw [jn_in hir]; exact decide_eq_true h0
  refine mj_T.step hc rfl (pc' := pc + 1) (loc' := loc) (st' := st) (h' := h.set a (.inl (jak 1, L a, updV f i.toNat (.int (jn x))))) ?_ (q _ ?_ (jfI_arr h1))
  · simp only [mj_step, h1, h5, jn_nat h0.1 hir, jak, true_and, if_true]
  · refine o.set (by omega) ?_
    rw [ka]
    unfold jCf
    rw [if_pos (by decide)]
    refine ⟨_, rfl, fun j => ?_⟩
    rw [if_pos (Or.inl rfl)]
    have h3 := h2 j
    rw [if_pos (Or.inl rfl)] at h3
    unfold updV
    split
    · exact ⟨x, ⟨hx.1, by omega⟩, rfl⟩
    · exact h3
theorem jT.bast {a : Nat} {i x : Int} (o : jO K L R g n tm h) (hc : M.2.2.2.2.1 pc = some (.bastore, r1, r2, r3, r4, r5)) (ka : K a = 3) (hi : -2147483648 ≤ i ∧ i ≤ 2147483647) (h0 : 0 ≤ i ∧ i < L a) (q : ∀ h', jO K L R g n tm h' → (∀ a' i', jfI h' a' i' = jfI h a' i') → mj_T D M (pc + 1) loc st h' Q) : mj_T D M pc loc (.int (jn x) :: .int (jn i) :: .ref a :: st) h Q := by
  obtain ⟨f, h1, h2⟩ := o.arr ka (by decide) (by decide)
  have hir : jr i := ⟨hi.1, by omega⟩
  have h5 : mj_in (jn i) (L a) = true := by rw [jn_in hir]; exact decide_eq_true h0
  refine mj_T.step hc rfl (pc' := pc + 1) (loc' := loc) (st' := st) (h' := h.set a (.inl (jak 3, L a, updV f i.toNat (.int (jn x).toInt8.toInt32)))) ?_ (q _ ?_ (jfI_arr h1))
  · simp only [mj_step, h1, h5, jn_nat h0.1 hir, jak, true_and, if_true]
  · refine o.set (by omega) ?_
    rw [ka]
    unfold jCf
    rw [if_pos (by decide)]
    refine ⟨_, rfl, fun j => ?_⟩
    rw [if_pos (Or.inr rfl)]
    have h3 := h2 j
    rw [if_pos (Or.inr rfl)] at h3
    unfold updV
    split
    · exact ⟨_, jr_of _, by rw [jn_of]⟩
    · exact h3
theorem jT.last {a : Nat} {i x : Int} (o : jO K L R g n tm h) (hc : M.2.2.2.2.1 pc = some (.lastore, r1, r2, r3, r4, r5)) (ka : K a = 2) (hi : -2147483648 ≤ i ∧ i ≤ 2147483647) (h0 : 0 ≤ i ∧ i < L a) (hx : jR x) (q : ∀ h', jO K L R g n tm h' → (∀ a' i', jfI h' a' i' = jfI h a' i') → mj_T D M (pc + 1) loc st h' Q) : mj_T D M pc loc (.long (jl x) :: .int (jn i) :: .ref a :: st) h Q := by
  obtain ⟨f, h1, h2⟩ := o.arr ka (by decide) (by decide)
  have hir : jr i := ⟨hi.1, by omega⟩
  have h5 : mj_in (jn i) (L a) = true := by rw [jn_in hir]; exact decide_eq_true h0
  refine mj_T.step hc rfl (pc' := pc + 1) (loc' := loc) (st' := st) (h' := h.set a (.inl (jak 2, L a, updV f i.toNat (.long (jl x))))) ?_ (q _ ?_ (jfI_arr h1))
  · simp only [mj_step, h1, h5, jn_nat h0.1 hir, jak, true_and, if_true]
  · refine o.set (by omega) ?_
    rw [ka]
    unfold jCf
    rw [if_pos (by decide)]
    refine ⟨_, rfl, fun j => ?_⟩
    rw [if_neg (by decide), if_pos rfl]
    have h3 := h2 j
    rw [if_neg (by decide), if_pos rfl] at h3
    unfold updV
    split
    · exact ⟨x, hx, rfl⟩
    · exact h3
/-- whatever int, whatever long -/
theorem jT.anyI {w : Int32} (q : ∀ z, -2147483648 ≤ z ∧ z ≤ 2147483647 → mj_T D M pc loc (.int (jn z) :: st) h Q) : mj_T D M pc loc (.int w :: st) h Q := by
  have := q w.toInt ⟨(jr_of w).1, by have := (jr_of w).2; omega⟩
  rwa [jn_of] at this
theorem jT.anyL {w : Int64} (q : ∀ z, jR z → mj_T D M pc loc (.long (jl z) :: st) h Q) : mj_T D M pc loc (.long w :: st) h Q := by
  have := q w.toInt (jR_of w)
  rwa [jl_of] at this
theorem jT.wrap (a : Int) (q : ∀ z, -2147483648 ≤ z ∧ z ≤ 2147483647 → (-2147483648 ≤ a ∧ a ≤ 2147483647 → z = a) → mj_T D M pc loc (.int (jn z) :: st) h Q) : mj_T D M pc loc (.int (jn a) :: st) h Q := by
  have := q (jn a).toInt ⟨(jr_of _).1, by have := (jr_of (jn a)).2; omega⟩ (fun r => jn_toInt ⟨r.1, by omega⟩)
  rwa [jn_of] at this
theorem jT.wrapL (a : Int) (q : ∀ z, jR z → (jR a → z = a) → mj_T D M pc loc (.long (jl z) :: st) h Q) : mj_T D M pc loc (.long (jl a) :: st) h Q := by
  have := q (jl a).toInt (jR_of _) (fun r => jl_toInt r)
  rwa [jl_of] at this
theorem jT.iadd {a b : Int} (hc : M.2.2.2.2.1 pc = some (.iadd, r1, r2, r3, r4, r5)) (q : ∀ z, -2147483648 ≤ z ∧ z ≤ 2147483647 → (-2147483648 ≤ a + b ∧ a + b ≤ 2147483647 → z = a + b) → mj_T D M (pc + 1) loc (.int (jn z) :: st) h Q) : mj_T D M pc loc (.int (jn b) :: .int (jn a) :: st) h Q := mj_T.iadd hc (jT.wrap _ q)
theorem jT.isub {a b : Int} (hc : M.2.2.2.2.1 pc = some (.isub, r1, r2, r3, r4, r5)) (q : ∀ z, -2147483648 ≤ z ∧ z ≤ 2147483647 → (-2147483648 ≤ a - b ∧ a - b ≤ 2147483647 → z = a - b) → mj_T D M (pc + 1) loc (.int (jn z) :: st) h Q) : mj_T D M pc loc (.int (jn b) :: .int (jn a) :: st) h Q := mj_T.isub hc (jT.wrap _ q)
theorem jT.imul {a b : Int} (hc : M.2.2.2.2.1 pc = some (.imul, r1, r2, r3, r4, r5)) (q : ∀ z, -2147483648 ≤ z ∧ z ≤ 2147483647 → (-2147483648 ≤ a * b ∧ a * b ≤ 2147483647 → z = a * b) → mj_T D M (pc + 1) loc (.int (jn z) :: st) h Q) : mj_T D M pc loc (.int (jn b) :: .int (jn a) :: st) h Q := mj_T.imul hc (jT.wrap _ q)
theorem jT.ineg {a : Int} (hc : M.2.2.2.2.1 pc = some (.ineg, r1, r2, r3, r4, r5)) (q : ∀ z, -2147483648 ≤ z ∧ z ≤ 2147483647 → (-2147483648 ≤ -a ∧ -a ≤ 2147483647 → z = -a) → mj_T D M (pc + 1) loc (.int (jn z) :: st) h Q) : mj_T D M pc loc (.int (jn a) :: st) h Q := mj_T.ineg hc (jT.wrap _ q)
theorem jn_ne0' {b : Int} (hb : -2147483648 ≤ b ∧ b ≤ 2147483647) (h0 : b ≠ 0) : ¬ (jn b = 0) := by rw [show (0 : Int32) = jn 0 from rfl, jn_eq ⟨hb.1, by omega⟩ ⟨by decide, by decide⟩]; exact h0
theorem jl_ne0' {b : Int} (hb : jR b) (h0 : b ≠ 0) : ¬ (jl b = 0) := by rw [show (0 : Int64) = jl 0 from rfl, jl_eq hb ⟨by decide, by decide⟩]; exact h0
theorem jT.idiv {a b : Int} (hc : M.2.2.2.2.1 pc = some (.idiv, r1, r2, r3, r4, r5)) (hb : -2147483648 ≤ b ∧ b ≤ 2147483647) (h0 : b ≠ 0) (q : ∀ z, -2147483648 ≤ z ∧ z ≤ 2147483647 → mj_T D M (pc + 1) loc (.int (jn z) :: st) h Q) : mj_T D M pc loc (.int (jn b) :: .int (jn a) :: st) h Q := mj_T.step (pc' := pc + 1) (loc' := loc) (st' := .int (jn a / jn b) :: st) (h' := h) hc rfl (by simp only [mj_step, if_neg (jn_ne0' hb h0)]) (jT.anyI q)
theorem jT.irem {a b : Int} (hc : M.2.2.2.2.1 pc = some (.irem, r1, r2, r3, r4, r5)) (hb : -2147483648 ≤ b ∧ b ≤ 2147483647) (h0 : b ≠ 0) (q : ∀ z, -2147483648 ≤ z ∧ z ≤ 2147483647 → mj_T D M (pc + 1) loc (.int (jn z) :: st) h Q) : mj_T D M pc loc (.int (jn b) :: .int (jn a) :: st) h Q := mj_T.step (pc' := pc + 1) (loc' := loc) (st' := .int (jn a - jn a / jn b * jn b) :: st) (h' := h) hc rfl (by simp only [mj_step, if_neg (jn_ne0' hb h0)]) (jT.anyI q)
theorem jT.ldiv {a b : Int} (hc : M.2.2.2.2.1 pc = some (.ldiv, r1, r2, r3, r4, r5)) (hb : jR b) (h0 : b ≠ 0) (q : ∀ z, jR z → mj_T D M (pc + 1) loc (.long (jl z) :: st) h Q) : mj_T D M pc loc (.long (jl b) :: .long (jl a) :: st) h Q := mj_T.step (pc' := pc + 1) (loc' := loc) (st' := .long (jl a / jl b) :: st) (h' := h) hc rfl (by simp only [mj_step, if_neg (jl_ne0' hb h0)]) (jT.anyL q)
theorem jT.lrem {a b : Int} (hc : M.2.2.2.2.1 pc = some (.lrem, r1, r2, r3, r4, r5)) (hb : jR b) (h0 : b ≠ 0) (q : ∀ z, jR z → mj_T D M (pc + 1) loc (.long (jl z) :: st) h Q) : mj_T D M pc loc (.long (jl b) :: .long (jl a) :: st) h Q := mj_T.step (pc' := pc + 1) (loc' := loc) (st' := .long (jl a - jl a / jl b * jl b) :: st) (h' := h) hc rfl (by simp only [mj_step, if_neg (jl_ne0' hb h0)]) (jT.anyL q)
theorem jT.ladd {a b : Int} (hc : M.2.2.2.2.1 pc = some (.ladd, r1, r2, r3, r4, r5)) (q : ∀ z, jR z → (jR (a + b) → z = a + b) → mj_T D M (pc + 1) loc (.long (jl z) :: st) h Q) : mj_T D M pc loc (.long (jl b) :: .long (jl a) :: st) h Q := mj_T.ladd hc (jT.wrapL _ q)
theorem jT.lsub {a b : Int} (hc : M.2.2.2.2.1 pc = some (.lsub, r1, r2, r3, r4, r5)) (q : ∀ z, jR z → (jR (a - b) → z = a - b) → mj_T D M (pc + 1) loc (.long (jl z) :: st) h Q) : mj_T D M pc loc (.long (jl b) :: .long (jl a) :: st) h Q := mj_T.lsub hc (jT.wrapL _ q)
theorem jT.lmul {a b : Int} (hc : M.2.2.2.2.1 pc = some (.lmul, r1, r2, r3, r4, r5)) (q : ∀ z, jR z → (jR (a * b) → z = a * b) → mj_T D M (pc + 1) loc (.long (jl z) :: st) h Q) : mj_T D M pc loc (.long (jl b) :: .long (jl a) :: st) h Q := mj_T.lmul hc (jT.wrapL _ q)
theorem jT.lneg {a : Int} (hc : M.2.2.2.2.1 pc = some (.lneg, r1, r2, r3, r4, r5)) (q : ∀ z, jR z → (jR (-a) → z = -a) → mj_T D M (pc + 1) loc (.long (jl z) :: st) h Q) : mj_T D M pc loc (.long (jl a) :: st) h Q := mj_T.lneg hc (jT.wrapL _ q)
theorem jT.l2i {a : Int} (hc : M.2.2.2.2.1 pc = some (.l2i, r1, r2, r3, r4, r5)) (q : ∀ z, -2147483648 ≤ z ∧ z ≤ 2147483647 → (-2147483648 ≤ a ∧ a ≤ 2147483647 → z = a) → mj_T D M (pc + 1) loc (.int (jn z) :: st) h Q) : mj_T D M pc loc (.long (jl a) :: st) h Q := mj_T.l2i hc (jT.wrap _ q)
theorem jT.i2l {a : Int} (hc : M.2.2.2.2.1 pc = some (.i2l, r1, r2, r3, r4, r5)) (ha : -2147483648 ≤ a ∧ a ≤ 2147483647) (q : mj_T D M (pc + 1) loc (.long (jl a) :: st) h Q) : mj_T D M pc loc (.int (jn a) :: st) h Q := mj_T.i2l hc ⟨ha.1, by omega⟩ q
theorem jT.iinc {i : Nat} {x a : Int} (hc : M.2.2.2.2.1 pc = some (.iinc i x, r1, r2, r3, r4, r5)) (hl : loc[i]? = some (some (.int (jn a)))) (q : ∀ z, -2147483648 ≤ z ∧ z ≤ 2147483647 → (-2147483648 ≤ a + x ∧ a + x ≤ 2147483647 → z = a + x) → mj_T D M (pc + 3) (mj_st1 loc i (.int (jn z))) st h Q) : mj_T D M pc loc st h Q := by
  have := q (jn (a + x)).toInt ⟨(jr_of _).1, by have := (jr_of (jn (a + x))).2; omega⟩ (fun r => jn_toInt ⟨r.1, by omega⟩)
  rw [jn_of] at this
  exact mj_T.iinc hc hl this
theorem jT.imax {a b : Int} {ins : Instr} (hc : M.2.2.2.2.1 pc = some (ins, r1, r2, 2, r4, r5)) (hk : mj_kind ins 2 = 4) (hcat : mj_cat st ≤ 20) (ha : -2147483648 ≤ a ∧ a ≤ 2147483647) (hb : -2147483648 ≤ b ∧ b ≤ 2147483647) (q : ∀ z, z = max a b → mj_T D M (pc + 3) loc (.int (jn z) :: st) h Q) : mj_T D M pc loc (.int (jn b) :: .int (jn a) :: st) h Q := mj_T.imax hc hk hcat ⟨ha.1, by omega⟩ ⟨hb.1, by omega⟩ (q _ rfl)
theorem jT.imin {a b : Int} {ins : Instr} (hc : M.2.2.2.2.1 pc = some (ins, r1, r2, 3, r4, r5)) (hk : mj_kind ins 3 = 4) (hcat : mj_cat st ≤ 20) (ha : -2147483648 ≤ a ∧ a ≤ 2147483647) (hb : -2147483648 ≤ b ∧ b ≤ 2147483647) (q : ∀ z, z = min a b → mj_T D M (pc + 3) loc (.int (jn z) :: st) h Q) : mj_T D M pc loc (.int (jn b) :: .int (jn a) :: st) h Q := mj_T.imin hc hk hcat ⟨ha.1, by omega⟩ ⟨hb.1, by omega⟩ (q _ rfl)
theorem jT.icmp {c : ClassFile.Cond} {o : Int} {a b : Int} (hc : M.2.2.2.2.1 pc = some (.if_icmp c o, r1, r2, r3, r4, r5)) (ha : -2147483648 ≤ a ∧ a ≤ 2147483647) (hb : -2147483648 ≤ b ∧ b ≤ 2147483647) (k1 : jc c a b = true → mj_T D M r1 loc st h Q) (k2 : jc c a b = false → mj_T D M (pc + 3) loc st h Q) : mj_T D M pc loc (.int (jn b) :: .int (jn a) :: st) h Q := mj_T.icmp hc ⟨ha.1, by omega⟩ ⟨hb.1, by omega⟩ k1 k2
theorem jT.if0 {c : ClassFile.Cond} {o : Int} {a : Int} (hc : M.2.2.2.2.1 pc = some (.ifCond c o, r1, r2, r3, r4, r5)) (ha : -2147483648 ≤ a ∧ a ≤ 2147483647) (k1 : jc c a 0 = true → mj_T D M r1 loc st h Q) (k2 : jc c a 0 = false → mj_T D M (pc + 3) loc st h Q) : mj_T D M pc loc (.int (jn a) :: st) h Q := mj_T.if0 hc ⟨ha.1, by omega⟩ k1 k2
theorem jT.anyF (q : ∀ z, -2147483648 ≤ z ∧ z ≤ 2147483647 → mj_T D M pc loc (.int (jn z) :: st) h Q) (w : Int32) : mj_T D M pc loc (.int w :: st) h Q := jT.anyI q
/-- how a method of the class ends: with a value as V says or by one of those exceptions -/
def jQ (K L : Nat → Nat) (R : Nat → Nat → Nat) (g : mj_H) (n : Nat) (tm : Int) (exc : List Nat) (V : Option Value → Prop) (r : mj_R) : Prop := match r.1 with
  | .inl v => V v ∧ jO K L R g n tm r.2
  | .inr i => i ∈ exc ∧ jO K L R g (n + 1) tm r.2
/-- the same, and a normal end leaves the heap -/
def jQp (K L : Nat → Nat) (R : Nat → Nat → Nat) (g : mj_H) (n : Nat) (tm : Int) (h : mj_H) (exc : List Nat) (V : Option Value → Prop) (r : mj_R) : Prop := match r.1 with
  | .inl v => V v ∧ r.2 = h
  | .inr i => i ∈ exc ∧ jO K L R g (n + 1) tm r.2
def jV0 (v : Option Value) : Prop := v = none
def jVi (lo hi : Int) (v : Option Value) : Prop := ∃ z : Int, lo ≤ z ∧ z ≤ hi ∧ v = some (.int (jn z))
def jVl (v : Option Value) : Prop := ∃ z : Int, jR z ∧ v = some (.long (jl z))
def jVr (K : Nat → Nat) (k : Nat) (v : Option Value) : Prop := ∃ a, K a = k ∧ v = some (.ref a)
theorem jsub {A B : List Nat} (hs : (A.all fun i => B.contains i) = true) {i : Nat} (hi : i ∈ A) : i ∈ B := by
  have := List.all_eq_true.mp hs i hi
  exact List.contains_iff_mem.mp this
theorem jT.call {V : Option Value → Prop} {A exc : List Nat} {ins : Instr} {as : List Value} {V' : Option Value → Prop} (hc : M.2.2.2.2.1 pc = some (ins, r1, r2, r3, r4, r5)) (hk : mj_kind ins r3 = 3) (hl : r2 ≤ st.length) (hcat : mj_cat (st.drop r2) ≤ 8) (hr : mj_recv ins r2 r5 st h = true) (has : (st.take r2).reverse = as) (hcall : mj_Ok D r1 as h (jQ K L R g n tm A V)) (hM : M.2.2.2.2.2.1 = []) (hs : (A.all fun i => exc.contains i) = true) (q : ∀ v h', V v → jO K L R g n tm h' → mj_T D M (pc + 3) loc (v.toList ++ st.drop r2) h' (jQ K L R g n tm exc V')) : mj_T D M pc loc st h (jQ K L R g n tm exc V') :=
  mj_T.call hc hk hl hcat hr has hcall (fun v h' hq => q v h' hq.1 hq.2) (fun i h' hq => Or.inl ⟨hM, jsub hs hq.1, hq.2⟩)
/-- a call that leaves the heap -/
theorem jT.callp {V : Option Value → Prop} {A exc : List Nat} {ins : Instr} {as : List Value} {V' : Option Value → Prop} (hc : M.2.2.2.2.1 pc = some (ins, r1, r2, r3, r4, r5)) (hk : mj_kind ins r3 = 3) (hl : r2 ≤ st.length) (hcat : mj_cat (st.drop r2) ≤ 8) (hr : mj_recv ins r2 r5 st h = true) (has : (st.take r2).reverse = as) (hcall : mj_Ok D r1 as h (jQp K L R g n tm h A V)) (hM : M.2.2.2.2.2.1 = []) (hs : (A.all fun i => exc.contains i) = true) (q : ∀ v, V v → mj_T D M (pc + 3) loc (v.toList ++ st.drop r2) h (jQ K L R g n tm exc V')) : mj_T D M pc loc st h (jQ K L R g n tm exc V') :=
  mj_T.call hc hk hl hcat hr has hcall (fun v h' hq => by
    obtain ⟨h1, h2⟩ := hq
    have h2 : h' = h := h2
    subst h2
    exact q v h1) (fun i h' hq => Or.inl ⟨hM, jsub hs hq.1, hq.2⟩)
theorem jT.callpp {V : Option Value → Prop} {A exc : List Nat} {ins : Instr} {as : List Value} {V' : Option Value → Prop} {h0 : mj_H} (hc : M.2.2.2.2.1 pc = some (ins, r1, r2, r3, r4, r5)) (hk : mj_kind ins r3 = 3) (hl : r2 ≤ st.length) (hcat : mj_cat (st.drop r2) ≤ 8) (hr : mj_recv ins r2 r5 st h = true) (has : (st.take r2).reverse = as) (hcall : mj_Ok D r1 as h (jQp K L R g n tm h A V)) (hM : M.2.2.2.2.2.1 = []) (hs : (A.all fun i => exc.contains i) = true) (q : ∀ v, V v → mj_T D M (pc + 3) loc (v.toList ++ st.drop r2) h (jQp K L R g n tm h0 exc V')) : mj_T D M pc loc st h (jQp K L R g n tm h0 exc V') :=
  mj_T.call hc hk hl hcat hr has hcall (fun v h' hq => by
    obtain ⟨h1, h2⟩ := hq
    have h2 : h' = h := h2
    subst h2
    exact q v h1) (fun i h' hq => Or.inl ⟨hM, jsub hs hq.1, hq.2⟩)
theorem jrv_of {a k c r2 : Nat} (o : jO K L R g n tm h) (ka : K a = k) (hk : 7 < k) (hcl : jkc k = c) (hr : 1 ≤ r2) (hd : st.drop (r2 - 1) = .ref a :: st.drop r2) : ∀ m, mj_recv (.invokevirtual m) r2 c st h = true := by
  intro m
  obtain ⟨fs, h1⟩ := o.recv ka hk
  match r2, hr, hd with
  | r2 + 1, _, hd =>
    simp only [mj_recv, hd, h1, hcl, decide_true]
/-- the exception that the method throws itself -/
theorem jT.thr {exc : List Nat} {V : Option Value → Prop} {ins : Instr} (o : jO K L R g n tm h) (hg : g.length ≤ n) (hc : M.2.2.2.2.1 pc = some (ins, r1, r2, r3, r4, r5)) (hk : mj_kind ins r3 = 2) (hh : M.2.2.2.2.2.1 = []) (hs : mj_cat st ≤ 8) (he : exc.contains r1 = true) : mj_T D M pc loc st h (jQ K L R g n tm exc V) := mj_T.throws hc hk hh hs ⟨List.contains_iff_mem.mp he, o.app hg⟩
theorem jT.thrp {exc : List Nat} {V : Option Value → Prop} {ins : Instr} {h0 : mj_H} (o : jO K L R g n tm h) (hg : g.length ≤ n) (hc : M.2.2.2.2.1 pc = some (ins, r1, r2, r3, r4, r5)) (hk : mj_kind ins r3 = 2) (hh : M.2.2.2.2.2.1 = []) (hs : mj_cat st ≤ 8) (he : exc.contains r1 = true) : mj_T D M pc loc st h (jQp K L R g n tm h0 exc V) := mj_T.throws hc hk hh hs ⟨List.contains_iff_mem.mp he, o.app hg⟩
theorem jT.ret {exc : List Nat} {V : Option Value → Prop} {ins : Instr} {v : Option Value} (o : jO K L R g n tm h) (hc : M.2.2.2.2.1 pc = some (ins, r1, r2, r3, r4, r5)) (hk : mj_kind ins r3 = 1) (hs : mj_retv ins M.2.2.2.1 st = some v) (hv : V v) : mj_T D M pc loc st h (jQ K L R g n tm exc V) := mj_T.ret hc hk hs ⟨hv, o⟩
theorem jT.retp {exc : List Nat} {V : Option Value → Prop} {ins : Instr} {v : Option Value} (hc : M.2.2.2.2.1 pc = some (ins, r1, r2, r3, r4, r5)) (hk : mj_kind ins r3 = 1) (hs : mj_retv ins M.2.2.2.1 st = some v) (hv : V v) : mj_T D M pc loc st h (jQp K L R g n tm h exc V) := mj_T.ret hc hk hs ⟨hv, rfl⟩
/-- a boolean that is returned -/
theorem jT.retb {exc : List Nat} {x : Int} (o : jO K L R g n tm h) (hc : M.2.2.2.2.1 pc = some (.ireturn, r1, r2, r3, r4, r5)) (hret : M.2.2.2.1 = some .boolean) (h0 : 0 ≤ x) (h1 : x ≤ 1) : mj_T D M pc loc [.int (jn x)] h (jQ K L R g n tm exc (jVi 0 1)) := by
  refine mj_T.ret hc rfl (v := some (.int (jn x))) ?_ ⟨⟨x, h0, h1, rfl⟩, o⟩
  have : x = 0 ∨ x = 1 := by omega
  simp only [mj_retv, hret]
  rcases this with q | q
  · subst q; rfl
  · subst q; rfl
theorem jT.retbp {exc : List Nat} {x : Int} (hc : M.2.2.2.2.1 pc = some (.ireturn, r1, r2, r3, r4, r5)) (hret : M.2.2.2.1 = some .boolean) (h0 : 0 ≤ x) (h1 : x ≤ 1) : mj_T D M pc loc [.int (jn x)] h (jQp K L R g n tm h exc (jVi 0 1)) := by
  refine mj_T.ret hc rfl (v := some (.int (jn x))) ?_ ⟨⟨x, h0, h1, rfl⟩, rfl⟩
  have : x = 0 ∨ x = 1 := by omega
  simp only [mj_retv, hret]
  rcases this with q | q
  · subst q; rfl
  · subst q; rfl
end JTA
/-! More rules: known fields, constants, lengths, conditions. -/
def jVp (p : Prop) (v : Option Value) : Prop := v = none ∧ p
section JTD
variable {D pc : Nat} {M : mj_M} {loc : mj_L} {st : List Value} {h : mj_H} {Q : mj_R → Prop} {r1 r2 r3 r4 r5 : Nat}
variable {K L : Nat → Nat} {R : Nat → Nat → Nat} {g : mj_H} {n : Nat} {tm : Int}
theorem jT.getK {a f c i : Nat} (k cd : Nat) {x : Int} (o : jO K L R g n tm h) (hc : M.2.2.2.2.1 pc = some (.getfield f, c, i, r3, r4, r5)) (ka : K a = k) (hk : 7 < k) (hcl : jkc k = c) (hcd : (jfs k)[i]? = some cd) (hci : jci cd = true) (hx : jfI h a i = x) (q : mj_T D M (pc + 3) loc (.int (jn x) :: st) h Q) : mj_T D M pc loc (.ref a :: st) h Q :=
  jT.getI k cd o hc ka hk hcl hcd hci (fun z _ _ e => by rw [e, hx]; exact q)
theorem jl_nat (w : Nat) : Int64.ofNat w = jl (w : Int) := by
  first
    | exact Int64.ofInt_eq_ofNat.symm
    | exact (Int64.ofInt_eq_ofNat w).symm
    | (show (⟨⟨BitVec.ofNat 64 w⟩⟩ : Int64) = ⟨⟨BitVec.ofInt 64 w⟩⟩; rw [BitVec.ofInt_natCast])
    | rfl
theorem jn_nat0 (w : Nat) : Int32.ofNat w = jn (w : Int) := by
  first
    | exact Int32.ofInt_eq_ofNat.symm
    | exact (Int32.ofInt_eq_ofNat w).symm
    | (show (⟨⟨BitVec.ofNat 32 w⟩⟩ : Int32) = ⟨⟨BitVec.ofInt 32 w⟩⟩; rw [BitVec.ofInt_natCast])
    | rfl
theorem jT.ldcL {x : Nat} {w : Nat} (hc : M.2.2.2.2.1 pc = some (.ldc2_w x, w, 0, r3, r4, r5)) (q : mj_T D M (pc + 3) loc (.long (jl (w : Int)) :: st) h Q) : mj_T D M pc loc st h Q := by
  rw [← jl_nat] at q
  exact mj_T.step hc rfl rfl q
theorem jT.ldcI {x : Nat} {w : Nat} (hc : M.2.2.2.2.1 pc = some (.ldc x, w, 0, r3, r4, r5)) (q : mj_T D M (pc + 2) loc (.int (jn (w : Int)) :: st) h Q) : mj_T D M pc loc st h Q := by
  rw [← jn_nat0] at q
  exact mj_T.step hc rfl rfl q
theorem jT.lc (w : Nat) {x : Fin 2} (hc : M.2.2.2.2.1 pc = some (.lconst x, r1, r2, r3, r4, r5)) (hw : x.val = w) (q : mj_T D M (pc + 1) loc (.long (jl (w : Int)) :: st) h Q) : mj_T D M pc loc st h Q := by
  rw [← jl_nat] at q
  subst hw
  exact mj_T.step hc rfl rfl q
theorem jlen {a : Nat} (k : Nat) (ty : jTY K L R) (ka : K a = k) (hk : 1 ≤ k) (hk2 : k ≤ 7) : jal k ≤ (L a : Int) ∧ (L a : Int) ≤ jah k := by
  have h2 := ty.2.1 a (by omega) (by omega)
  rw [ka] at h2
  exact h2
theorem jT.getRE {a f : Nat} (ty : jTY K L R) (o : jO K L R g n tm h) (hc : M.2.2.2.2.1 pc = some (.getfield f, 7, 0, r3, r4, r5)) (ka : K a = 17 ∨ K a = 27) (q : K (R a 0) = 3 → mj_T D M (pc + 3) loc (.ref (R a 0) :: st) h Q) : mj_T D M pc loc (.ref a :: st) h Q := by
  rcases ka with ka | ka
  · exact jT.getR 17 103 3 ty o hc ka (by decide) rfl rfl rfl q
  · exact jT.getR 27 103 3 ty o hc ka (by decide) rfl rfl rfl q
theorem jne1 {p : Prop} [Decidable p] (q : (!decide p) = true) : ¬ p := by simpa using q
theorem jne2 {p : Prop} [Decidable p] (q : (!decide p) = false) : p := by simpa using q
theorem jInd {P : Nat → Prop} (q : ∀ k, (∀ m, m < k → P m) → P k) (k : Nat) : P k := Nat.strongRecOn k q
theorem jrv_ofE {a r2 : Nat} (o : jO K L R g n tm h) (ka : K a = 17 ∨ K a = 27) (hr : 1 ≤ r2) (hd : st.drop (r2 - 1) = .ref a :: st.drop r2) : ∀ m, mj_recv (.invokevirtual m) r2 7 st h = true := by
  rcases ka with ka | ka
  · exact jrv_of o ka (by decide) rfl hr hd
  · exact jrv_of o ka (by decide) rfl hr hd
theorem jsq {i z : Int} (h : 2 ≤ i ∧ i ≤ 10) (e : (-2147483648 ≤ i * i ∧ i * i ≤ 2147483647) → z = i * i) : z ≤ 97 → i ≤ 9 := by
  intro hz
  by_cases c : i ≤ 9
  · exact c
  · have c2 : i = 10 := by omega
    subst c2
    have := e ⟨by decide, by decide⟩
    omega
/-- ten to the i -/
def jPW (i u : Int) : Prop := ∃ k : Nat, i = (k : Int) ∧ k ≤ 18 ∧ u = 10 ^ k
theorem jPW.s {i u i' u' : Int} (q : jPW i u) (h : i < 18) (h1 : i' = i + 1) (h2 : u' = u * 10) : jPW i' u' := by
  obtain ⟨k, a, b, c⟩ := q
  exact ⟨k + 1, by omega, by omega, by rw [h2, c, Int.pow_succ]⟩
theorem jPW.b {i u : Int} (q : jPW i u) : 0 < u ∧ (i < 18 → u ≤ 100000000000000000) ∧ u ≤ 1000000000000000000 := by
  obtain ⟨k, a, b, c⟩ := q
  subst c
  have h1 : ∀ k : Nat, k ≤ 18 → (0 < (10 : Int) ^ k ∧ (k < 18 → (10 : Int) ^ k ≤ 100000000000000000) ∧ (10 : Int) ^ k ≤ 1000000000000000000) := by decide
  obtain ⟨h2, h3, h4⟩ := h1 k b
  exact ⟨h2, fun h => h3 (by omega), h4⟩
def jVd (v : Option Value) : Prop := ∃ x, v = some (.double x)
def jVf (v : Option Value) : Prop := ∃ k : Nat, k < 10 ∧ v = some (.float (FP.fdiv (FP.i2f (Int32.ofNat k)) (UInt32.ofNat 1086324736)))
theorem jmean : ∀ k, k < 118 → FP.ddiv (FP.i2d (Int32.ofNat k)) (UInt64.ofNat 4618441417868443648) &&& 0x7fffffffffffffff ≤ 0x7ff0000000000000 := by decide +kernel
theorem jshare : ∀ k, k < 10 → FP.fdiv (FP.i2f (Int32.ofNat k)) (UInt32.ofNat 1086324736) &&& 0x7fffffff ≤ 0x7f800000 := by decide +kernel
theorem jT.mean {z : Int} {x y : Nat} {exc : List Nat} (hz : 0 ≤ z ∧ z ≤ 117) {q1 q2 q3 q4 q5 : Nat} {s1 s2 s3 s4 s5 : Nat} {t1 t2 t3 t4 t5 : Nat} {w3 w4 w5 : Nat} (h1 : M.2.2.2.2.1 pc = some (.i2d, q1, q2, q3, q4, q5)) (h2 : M.2.2.2.2.1 (pc + 1) = some (.ldc2_w x, 4618441417868443648, 1, w3, w4, w5)) (h3 : M.2.2.2.2.1 (pc + 1 + 3) = some (.ddiv, s1, s2, s3, s4, s5)) (h4 : M.2.2.2.2.1 (pc + 1 + 3 + 1) = some (.dreturn, t1, t2, t3, t4, t5)) (hr : M.2.2.2.1 = some .double) : mj_T D M pc loc [.int (jn z)] h (jQp K L R g n tm h exc jVd) := by
  refine mj_T.step h1 rfl rfl (mj_T.step h2 rfl rfl (mj_T.step (st' := [.double (FP.ddiv (FP.i2d (jn z)) (UInt64.ofNat 4618441417868443648))]) (h' := h) (loc' := loc) (pc' := pc + 1 + 3 + 1) h3 rfl ?_ (mj_T.ret h4 rfl (v := some (.double (FP.ddiv (FP.i2d (jn z)) (UInt64.ofNat 4618441417868443648)))) ?_ ⟨⟨_, rfl⟩, rfl⟩)))
  · obtain ⟨k, rfl⟩ : ∃ k : Nat, z = (k : Int) := ⟨z.toNat, by omega⟩
    have := jmean k (by omega)
    rw [jn_nat0] at this
    simp only [mj_step]
    rw [if_pos this]
  · simp only [mj_retv, hr]
theorem jT.share {z : Int} {x y : Nat} {exc : List Nat} (hz : 0 ≤ z ∧ z ≤ 9) {q1 q2 q3 q4 q5 : Nat} {s1 s2 s3 s4 s5 : Nat} {t1 t2 t3 t4 t5 : Nat} {w3 w4 w5 : Nat} (h1 : M.2.2.2.2.1 pc = some (.i2f, q1, q2, q3, q4, q5)) (h2 : M.2.2.2.2.1 (pc + 1) = some (.ldc_w x, 1086324736, 1, w3, w4, w5)) (h3 : M.2.2.2.2.1 (pc + 1 + 3) = some (.fdiv, s1, s2, s3, s4, s5)) (h4 : M.2.2.2.2.1 (pc + 1 + 3 + 1) = some (.freturn, t1, t2, t3, t4, t5)) (hr : M.2.2.2.1 = some .float) : mj_T D M pc loc [.int (jn z)] h (jQp K L R g n tm h exc jVf) := by
  refine mj_T.step h1 rfl rfl (mj_T.step h2 rfl rfl (mj_T.step (st' := [.float (FP.fdiv (FP.i2f (jn z)) (UInt32.ofNat 1086324736))]) (h' := h) (loc' := loc) (pc' := pc + 1 + 3 + 1) h3 rfl ?_ (mj_T.ret h4 rfl (v := some (.float (FP.fdiv (FP.i2f (jn z)) (UInt32.ofNat 1086324736)))) ?_ ⟨⟨z.toNat, by omega, by rw [jn_nat0, Int.toNat_of_nonneg hz.1]⟩, rfl⟩)))
  · obtain ⟨k, rfl⟩ : ∃ k : Nat, z = (k : Int) := ⟨z.toNat, by omega⟩
    have := jshare k (by omega)
    rw [jn_nat0] at this
    simp only [mj_step]
    rw [if_pos this]
  · simp only [mj_retv, hr]
end JTD
