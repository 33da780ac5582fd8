/-! The reading of sums and products by the reference, whole. -/
section RPQ
variable {S N B T X V : Nat → Int} {h : mj_H} {tm : Nat} {er : Int}
theorem rd_prod_step (h9 : S 9 = (tm : Int)) (ht : tm ≤ 200) (hT : ∀ j : Nat, j < tm → 1 ≤ T j ∧ T j ≤ 255) {f d : Nat} (hd : d ≤ 8)
    (ih0 : ∀ (a : Nat) (h : mj_H) (res : Bool × Nat), a ≤ tm → rpr0 T tm f 0 d a = some res → rS (st3 S (a : Int) (8 - (d : Int)) er) N B T X V h → mj_Ok (4 * d + 5) 296 [.ref 0] h (rdPost S N B T X V tm er a d res))
    (ih1 : ∀ (a : Nat) (h : mj_H) (res : Bool × Nat) (l1 : Option Value) (Q : mj_R → Prop), a ≤ tm → rpr0 T tm f 1 d a = some res → rS (st3 S (a : Int) (8 - (d : Int)) er) N B T X V h → (∀ r, rdPost S N B T X V tm er a d res r → Q r) → mj_T (4 * d + 5) mj_m294 18 [some (.ref 0), l1] [] h Q)
    (a : Nat) (h : mj_H) (res : Bool × Nat) (l1 : Option Value) (Q : mj_R → Prop) (ha : a ≤ tm) (hr : rpr0 T tm (f + 1) 1 d a = some res) (hs : rS (st3 S (a : Int) (8 - (d : Int)) er) N B T X V h) (hend : ∀ r, rdPost S N B T X V tm er a d res r → Q r) : mj_T (4 * d + 5) mj_m294 0 [some (.ref 0), l1] [] h Q ∧ mj_T (4 * d + 5) mj_m294 18 [some (.ref 0), l1] [] h Q := by
  unfold rpr0 at hr
  obtain ⟨res0, hres0⟩ : ∃ z, rpr0 T tm f 0 d a = some z := by
    rcases hx : rpr0 T tm f 0 d a with _ | z
    · rw [hx] at hr
      cases hr
    · exact ⟨z, rfl⟩
  rw [hres0] at hr
  have t5 : ∀ (h1 : mj_H) (v1 : Option Value), rdPost S N B T X V tm er a d res0 (.inl v1, h1) → ∃ z : Int, v1 = some (.int (jn z)) ∧ mj_T (4 * d + 5) mj_m294 5 [some (.ref 0), some (.int (jn z))] [] h1 Q := fun h1 v1 hq' => by
    rcases hq' with ⟨c, _, ⟨c1, c2, c3⟩, hs1, hq'⟩ | ⟨x, c, o2, _, ⟨c1, c2, c3, c4⟩, hs1, hq'⟩
    · cases hq'
      refine ⟨1, rfl, ?_⟩
      subst c1
      refine mj_T.pl rfl rfl rfl rfl ?_
      refine mj_T.if0 (a := 1) rfl ⟨by decide, by decide⟩ (fun hc => ?_) (fun hc => ?_)
      · simp [jc] at hc
      iterate 2 refine mj_T.pl rfl rfl rfl rfl ?_
      have hcl := rskp_le (T := T) c2
      have hcg := rskp_ge (T := T) (tm := tm) c
      refine mj_T.call (ins := .invokevirtual 354) rfl rfl (Nat.le_of_ble_eq_true rfl) (Nat.le_of_ble_eq_true rfl) (by simp [mj_recv, rS_f hs1]) rfl (mj_Ok.up (by omega) (rd_takes (D := 0) (c := 42) ⟨by decide, by decide⟩ h9 ht hT (by assumption) hs1)) (fun v' h2 hq' => ?_) (fun i h' hq' => by rcases hq' with ⟨_, _, _, _, h⟩ | ⟨_, _, _, h⟩ <;> cases h)
      rcases hq' with ⟨b, _, ⟨b1, b2, b3⟩, hs2, hq'⟩ | ⟨_, b1, hs2, hq'⟩
      · cases hq'
        simp only [b1] at hr
        refine mj_T.if0 (a := 1) rfl ⟨by decide, by decide⟩ (fun hc => ?_) (fun hc => ?_)
        · simp [jc] at hc
        exact ih1 b h2 res _ Q b2 hr hs2 (fun r k => hend r (k.le (by omega)))
      · cases hq'
        simp only [b1] at hr
        refine mj_T.if0 (a := 0) rfl ⟨by decide, by decide⟩ (fun hc => ?_) (fun hc => ?_)
        · refine mj_T.pl rfl rfl rfl rfl ?_
          exact mj_T.ret rfl rfl rfl (hend _ (Or.inl ⟨_, h2, ⟨(Option.some.inj hr).symm, hcl, by omega⟩, hs2, rfl⟩))
        · simp [jc] at hc
    · cases hq'
      refine ⟨0, rfl, ?_⟩
      subst c1
      refine mj_T.pl rfl rfl rfl rfl ?_
      refine mj_T.if0 (a := 0) rfl ⟨by decide, by decide⟩ (fun hc => ?_) (fun hc => ?_)
      · refine mj_T.pl rfl rfl rfl rfl ?_
        exact mj_T.ret rfl rfl rfl (hend _ (Or.inr ⟨x, c, o2, h1, ⟨(Option.some.inj hr).symm, c2, c3, c4⟩, hs1, rfl⟩))
      · simp [jc] at hc
  constructor
  · refine mj_T.pl rfl rfl rfl rfl ?_
    refine mj_T.call (ins := .invokevirtual 360) rfl rfl (Nat.le_of_ble_eq_true rfl) (Nat.le_of_ble_eq_true rfl) (by simp [mj_recv, rS_f hs]) rfl (ih0 a h res0 ha hres0 hs) (fun v' h1 hq' => ?_) (fun i h' hq' => by rcases hq' with ⟨_, _, _, _, h⟩ | ⟨_, _, _, _, _, _, h⟩ <;> cases h)
    obtain ⟨z, hz, k⟩ := t5 h1 v' hq'
    subst hz
    refine mj_T.pl rfl rfl rfl rfl ?_
    exact k
  · refine mj_T.pl rfl rfl rfl rfl ?_
    refine mj_T.call (ins := .invokevirtual 360) rfl rfl (Nat.le_of_ble_eq_true rfl) (Nat.le_of_ble_eq_true rfl) (by simp [mj_recv, rS_f hs]) rfl (ih0 a h res0 ha hres0 hs) (fun v' h1 hq' => ?_) (fun i h' hq' => by rcases hq' with ⟨_, _, _, _, h⟩ | ⟨_, _, _, _, _, _, h⟩ <;> cases h)
    obtain ⟨z, hz, k⟩ := t5 h1 v' hq'
    subst hz
    iterate 2 refine mj_T.pl rfl rfl rfl rfl ?_
    exact k
theorem rd_sum_step (h9 : S 9 = (tm : Int)) (ht : tm ≤ 200) (hT : ∀ j : Nat, j < tm → 1 ≤ T j ∧ T j ≤ 255) {f d : Nat} (hd : d ≤ 8)
    (ih1 : ∀ (a : Nat) (h : mj_H) (res : Bool × Nat), a ≤ tm → rpr0 T tm f 1 d a = some res → rS (st3 S (a : Int) (8 - (d : Int)) er) N B T X V h → mj_Ok (4 * d + 6) 294 [.ref 0] h (rdPost S N B T X V tm er a d res))
    (ih2 : ∀ (a : Nat) (h : mj_H) (res : Bool × Nat) (z1 : Int) (l2 : Option Value) (Q : mj_R → Prop), a ≤ tm → rpr0 T tm f 2 d a = some res → rS (st3 S (a : Int) (8 - (d : Int)) er) N B T X V h → (∀ r, rdPost S N B T X V tm er a d res r → Q r) → mj_T (4 * d + 6) mj_m293 34 [some (.ref 0), some (.int (jn z1)), l2] [] h Q)
    (a : Nat) (h : mj_H) (res : Bool × Nat) (z1 : Int) (l2 : Option Value) (Q : mj_R → Prop) (ha : a ≤ tm) (hr : rpr0 T tm (f + 1) 2 d a = some res) (hs : rS (st3 S (a : Int) (8 - (d : Int)) er) N B T X V h) (hend : ∀ r, rdPost S N B T X V tm er a d res r → Q r) : mj_T (4 * d + 6) mj_m293 7 [some (.ref 0), some (.int (jn z1)), l2] [] h Q ∧ mj_T (4 * d + 6) mj_m293 34 [some (.ref 0), some (.int (jn z1)), l2] [] h Q := by
  unfold rpr0 at hr
  obtain ⟨res0, hres0⟩ : ∃ z, rpr0 T tm f 1 d a = some z := by
    rcases hx : rpr0 T tm f 1 d a with _ | z
    · rw [hx] at hr
      cases hr
    · exact ⟨z, rfl⟩
  rw [hres0] at hr
  have t12 : ∀ (h1 : mj_H) (v1 : Option Value), rdPost S N B T X V tm er a d res0 (.inl v1, h1) → ∃ z : Int, v1 = some (.int (jn z)) ∧ mj_T (4 * d + 6) mj_m293 12 [some (.ref 0), some (.int (jn z1)), some (.int (jn z))] [] h1 Q := fun h1 v1 hq' => by
    rcases hq' with ⟨c, _, ⟨c1, c2, c3⟩, hs1, hq'⟩ | ⟨x, c, o2, _, ⟨c1, c2, c3, c4⟩, hs1, hq'⟩
    · cases hq'
      refine ⟨1, rfl, ?_⟩
      subst c1
      refine mj_T.pl rfl rfl rfl rfl ?_
      refine mj_T.if0 (a := 1) rfl ⟨by decide, by decide⟩ (fun hc => ?_) (fun hc => ?_)
      · simp [jc] at hc
      iterate 2 refine mj_T.pl rfl rfl rfl rfl ?_
      have hcl := rskp_le (T := T) c2
      have hcg := rskp_ge (T := T) (tm := tm) c
      have hid := rskp_idem (T := T) c2
      refine mj_T.call (ins := .invokevirtual 354) rfl rfl (Nat.le_of_ble_eq_true rfl) (Nat.le_of_ble_eq_true rfl) (by simp [mj_recv, rS_f hs1]) rfl (mj_Ok.up (by omega) (rd_takes (D := 0) (c := 43) ⟨by decide, by decide⟩ h9 ht hT (by assumption) hs1)) (fun v' h2 hq' => ?_) (fun i h' hq' => by rcases hq' with ⟨_, _, _, _, h⟩ | ⟨_, _, _, h⟩ <;> cases h)
      rcases hq' with ⟨b, _, ⟨b1, b2, b3⟩, hs2, hq'⟩ | ⟨_, b1, hs2, hq'⟩
      · cases hq'
        simp only [b1] at hr
        refine mj_T.if0 (a := 1) rfl ⟨by decide, by decide⟩ (fun hc => ?_) (fun hc => ?_)
        rotate_left
        · simp [jc] at hc
        exact ih2 b h2 res z1 _ Q b2 hr hs2 (fun r k => hend r (k.le (by omega)))
      · cases hq'
        simp only [b1] at hr
        refine mj_T.if0 (a := 0) rfl ⟨by decide, by decide⟩ (fun hc => ?_) (fun hc => ?_)
        · simp [jc] at hc
        iterate 2 refine mj_T.pl rfl rfl rfl rfl ?_
        refine mj_T.call (ins := .invokevirtual 354) rfl rfl (Nat.le_of_ble_eq_true rfl) (Nat.le_of_ble_eq_true rfl) (by simp [mj_recv, rS_f hs2]) rfl (mj_Ok.up (by omega) (rd_takes (D := 0) (c := 45) ⟨by decide, by decide⟩ h9 ht hT (by assumption) hs2)) (fun v' h3 hq' => ?_) (fun i h' hq' => by rcases hq' with ⟨_, _, _, _, h⟩ | ⟨_, _, _, h⟩ <;> cases h)
        rcases hq' with ⟨b, _, ⟨d1, d2, d3⟩, hs3, hq'⟩ | ⟨_, d1, hs3, hq'⟩
        · cases hq'
          simp only [d1] at hr
          refine mj_T.if0 (a := 1) rfl ⟨by decide, by decide⟩ (fun hc => ?_) (fun hc => ?_)
          · simp [jc] at hc
          exact ih2 b h3 res z1 _ Q d2 hr hs3 (fun r k => hend r (k.le (by omega)))
        · cases hq'
          simp only [d1] at hr
          rw [hid] at hs3
          refine mj_T.if0 (a := 0) rfl ⟨by decide, by decide⟩ (fun hc => ?_) (fun hc => ?_)
          · refine mj_T.pl rfl rfl rfl rfl ?_
            exact mj_T.ret rfl rfl rfl (hend _ (Or.inl ⟨_, h3, ⟨(Option.some.inj hr).symm, hcl, by omega⟩, hs3, rfl⟩))
          · simp [jc] at hc
    · cases hq'
      refine ⟨0, rfl, ?_⟩
      subst c1
      refine mj_T.pl rfl rfl rfl rfl ?_
      refine mj_T.if0 (a := 0) rfl ⟨by decide, by decide⟩ (fun hc => ?_) (fun hc => ?_)
      · refine mj_T.pl rfl rfl rfl rfl ?_
        exact mj_T.ret rfl rfl rfl (hend _ (Or.inr ⟨x, c, o2, h1, ⟨(Option.some.inj hr).symm, c2, c3, c4⟩, hs1, rfl⟩))
      · simp [jc] at hc
  constructor
  · refine mj_T.pl rfl rfl rfl rfl ?_
    refine mj_T.call (ins := .invokevirtual 357) rfl rfl (Nat.le_of_ble_eq_true rfl) (Nat.le_of_ble_eq_true rfl) (by simp [mj_recv, rS_f hs]) rfl (ih1 a h res0 ha hres0 hs) (fun v' h1 hq' => ?_) (fun i h' hq' => by rcases hq' with ⟨_, _, _, _, h⟩ | ⟨_, _, _, _, _, _, h⟩ <;> cases h)
    obtain ⟨z, hz, k⟩ := t12 h1 v' hq'
    subst hz
    refine mj_T.pl rfl rfl rfl rfl ?_
    exact k
  · refine mj_T.pl rfl rfl rfl rfl ?_
    refine mj_T.call (ins := .invokevirtual 357) rfl rfl (Nat.le_of_ble_eq_true rfl) (Nat.le_of_ble_eq_true rfl) (by simp [mj_recv, rS_f hs]) rfl (ih1 a h res0 ha hres0 hs) (fun v' h1 hq' => ?_) (fun i h' hq' => by rcases hq' with ⟨_, _, _, _, h⟩ | ⟨_, _, _, _, _, _, h⟩ <;> cases h)
    obtain ⟨z, hz, k⟩ := t12 h1 v' hq'
    subst hz
    iterate 2 refine mj_T.pl rfl rfl rfl rfl ?_
    exact k
/-- what the four methods do with so much fuel -/
def rdAll (S N B T X V : Nat → Int) (tm : Nat) (er : Int) (f : Nat) : Prop := ∀ d, d ≤ 8 → 
  (∀ (a : Nat) (h : mj_H) (res : Bool × Nat), a ≤ tm → rpr0 T tm f 0 d a = some res → rS (st3 S (a : Int) (8 - (d : Int)) er) N B T X V h → mj_Ok (4 * d + 5) 296 [.ref 0] h (rdPost S N B T X V tm er a d res)) ∧
  (∀ (a : Nat) (h : mj_H) (res : Bool × Nat) (l1 : Option Value) (Q : mj_R → Prop), a ≤ tm → rpr0 T tm f 1 d a = some res → rS (st3 S (a : Int) (8 - (d : Int)) er) N B T X V h → (∀ r, rdPost S N B T X V tm er a d res r → Q r) → mj_T (4 * d + 5) mj_m294 0 [some (.ref 0), l1] [] h Q ∧ mj_T (4 * d + 5) mj_m294 18 [some (.ref 0), l1] [] h Q) ∧
  (∀ (a : Nat) (h : mj_H) (res : Bool × Nat) (z1 : Int) (l2 : Option Value) (Q : mj_R → Prop), a ≤ tm → rpr0 T tm f 2 d a = some res → rS (st3 S (a : Int) (8 - (d : Int)) er) N B T X V h → (∀ r, rdPost S N B T X V tm er a d res r → Q r) → mj_T (4 * d + 6) mj_m293 7 [some (.ref 0), some (.int (jn z1)), l2] [] h Q ∧ mj_T (4 * d + 6) mj_m293 34 [some (.ref 0), some (.int (jn z1)), l2] [] h Q) ∧
  (∀ (a : Nat) (h : mj_H) (res : Bool × Nat), a ≤ tm → rpr0 T tm f 3 d a = some res → rS (st3 S (a : Int) (8 - (d : Int)) er) N B T X V h → mj_Ok (4 * d + 7) 293 [.ref 0] h (rdPost S N B T X V tm er a d res))
theorem rd_all (h9 : S 9 = (tm : Int)) (ht : tm ≤ 200) (hT : ∀ j : Nat, j < tm → 1 ≤ T j ∧ T j ≤ 255) : ∀ f, rdAll S N B T X V tm er f
  | 0 => fun d hd => ⟨fun a h res _ hr => (by cases hr), fun a h res l1 Q _ hr => (by cases hr), fun a h res z1 l2 Q _ hr => (by cases hr), fun a h res _ hr => (by cases hr)⟩
  | f + 1 => fun d hd => by
    have IH := rd_all h9 ht hT f
    obtain ⟨i0, i1, i2, i3⟩ := IH d hd
    refine ⟨fun a h res ha hr hs => ?_, fun a h res l1 Q ha hr hs hend => ?_, fun a h res z1 l2 Q ha hr hs hend => ?_, fun a h res ha hr hs => ?_⟩
    · exact rd_power_step h9 ht hT hd ha hr hs (fun d2 a2 h2 res2 hd2 ha2 hr2 hs2 => (IH d2 (by omega)).2.2.2 a2 h2 res2 ha2 hr2 hs2)
    · exact rd_prod_step h9 ht hT hd i0 (fun a2 h2 res2 l2 Q2 ha2 hr2 hs2 he2 => (i1 a2 h2 res2 l2 Q2 ha2 hr2 hs2 he2).2) a h res l1 Q ha hr hs hend
    · refine rd_sum_step h9 ht hT hd (fun a2 h2 res2 ha2 hr2 hs2 => ?_) (fun a2 h2 res2 z2 l3 Q2 ha2 hr2 hs2 he2 => (i2 a2 h2 res2 z2 l3 Q2 ha2 hr2 hs2 he2).2) a h res z1 l2 Q ha hr hs hend
      refine mj_Ok.of (M := mj_m294) rfl rfl rfl ?_
      exact (i1 a2 h2 res2 none _ ha2 hr2 hs2 (fun r k => k)).1
    · refine mj_Ok.of (M := mj_m293) rfl rfl rfl ?_
      unfold rpr0 at hr
      have hle := rskp_le (T := T) ha
      have hge := rskp_ge (T := T) (tm := tm) a
      iterate 2 refine mj_T.pl rfl rfl rfl rfl ?_
      refine mj_T.call (ins := .invokevirtual 354) rfl rfl (Nat.le_of_ble_eq_true rfl) (Nat.le_of_ble_eq_true rfl) (by simp [mj_recv, rS_f hs]) rfl (mj_Ok.up (by omega) (rd_takes (D := 0) (c := 45) ⟨by decide, by decide⟩ h9 ht hT (by assumption) hs)) (fun v' h1 hq' => ?_) (fun i h' hq' => by rcases hq' with ⟨_, _, _, _, h⟩ | ⟨_, _, _, h⟩ <;> cases h)
      rcases hq' with ⟨b, _, ⟨b1, b2, b3⟩, hs1, hq'⟩ | ⟨_, b1, hs1, hq'⟩
      · cases hq'
        simp only [b1] at hr
        refine mj_T.pl rfl rfl rfl rfl ?_
        exact (i2 b h1 res 1 none _ b2 hr hs1 (fun r k => k.le (by omega))).1
      · cases hq'
        simp only [b1] at hr
        refine mj_T.pl rfl rfl rfl rfl ?_
        exact (i2 _ h1 res 0 none _ hle hr hs1 (fun r k => k.le (by omega))).1
end RPQ
