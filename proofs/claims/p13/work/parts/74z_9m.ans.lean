/-! What a call answers: a code (0: none), and a number where the code is 0. -/
/-- conditions with the codes that they have where they don't hold; then what the answer is -/
def an : List (Prop × Int) → (Int → Prop) → Int → Int → Prop
  | [], F, c, z => c = 0 ∧ F z
  | p :: l, F, c, z => (¬ p.1 ∧ c = p.2) ∨ (p.1 ∧ an l F c z)
theorem an.ag {F : Int → Prop} (hF : ∀ z1 z2, F z1 → F z2 → z1 = z2) : ∀ {l : List (Prop × Int)} {c1 z1 c2 z2 : Int}, (∀ p ∈ l, p.2 ≠ 0) → an l F c1 z1 → an l F c2 z2 → c1 = c2 ∧ (c1 = 0 → z1 = z2)
  | [], c1, z1, c2, z2, _, a, b => ⟨a.1.trans b.1.symm, fun _ => hF _ _ a.2 b.2⟩
  | p :: l, c1, z1, c2, z2, hk, a, b => by
    have h0 := hk p List.mem_cons_self
    rcases a with ⟨a1, a2⟩ | ⟨a1, a2⟩
    · rcases b with ⟨b1, b2⟩ | ⟨b1, b2⟩
      · exact ⟨a2.trans b2.symm, fun e => absurd (a2.symm.trans e) h0⟩
      · exact absurd b1 a1
    · rcases b with ⟨b1, b2⟩ | ⟨b1, b2⟩
      · exact absurd a1 b1
      · exact an.ag hF (fun q hq => hk q (List.mem_cons_of_mem _ hq)) a2 b2
/-- the class's call: its answer, or what is thrown and the code that the law makes of it -/
def cA (cd : Nat → Int) (A : Int → Int → Prop) (r : mj_R) : Prop := match r.1 with
  | .inl v => ∃ z : Int, jr z ∧ v = some (.int (jn z)) ∧ A 0 z
  | .inr k => ∀ z, A (cd k) z
/-- the law's small method: its code, the answer in its cell -/
def oA (A : Int → Int → Prop) (Φ : SP) (r : mj_R) : Prop := ∃ c z : Int, A c z ∧ jr c ∧ r.1 = .inl (some (.int (jn c))) ∧ (c = 0 → jR z ∧ ∃ f : Nat → Value, r.2[571]? = some (.inl (1, 1, f)) ∧ f 0 = .long (jl z)) ∧ yZ Φ r.2
/-- the reference's call: its answer, and what it has thrown -/
def rZa (P : SP) (A : Int → Int → Prop) (tm er : Int) (T : Nat → Int) (r : mj_R) : Prop := ∃ (c z : Int) (N' : Nat → Int) (u' : Nat) (H' : Nat → Nat → Int), A c z ∧ jr z ∧ r.1 = .inl (some (.int (jn z))) ∧ P N' u' H' ∧ jItx N' u' H' c tm er T r.2
/-- both sides hold the same, and the reference has thrown c -/
def YXt (c tm er : Int) (T : Nat → Int) (h : mj_H) : Prop := ∃ (N : Nat → Int) (u : Nat) (H : Nat → Nat → Int) (hr : mj_H), cC N u H h ∧ jEm 563 hr h ∧ jItx N u H c tm er T hr
theorem YXt.to {c tm er : Int} {T : Nat → Int} {h : mj_H} (y : YXt c tm er T h) : YX tm er T h := by
  obtain ⟨N, u, H, hr, a, b, k⟩ := y
  exact ⟨N, u, H, hr, a, b, k.to⟩
theorem jItx.jr {N : Nat → Int} {u : Nat} {H : Nat → Nat → Int} {c tm er : Int} {T : Nat → Int} {h : mj_H} (k : jItx N u H c tm er T h) : jr c := by
  obtain ⟨S, N1, B, X, V, _, K, e⟩ := k
  have h1 := K.1.2.2.2.2.2.2.1 3
  rw [e] at h1
  exact h1
section YXA
variable {hr h : mj_H} {tm er c : Int} {T : Nat → Int}
theorem YXt.thrown {D : Nat} (y : YXt c tm er T h) : mj_Ok (D + 1) 175 [.ref 563] h (fun r => r = (.inl (some (.int (jn c))), h)) := by
  obtain ⟨N, u, H, hr, _, ⟨_, _, _, E⟩, ⟨S, N1, B, X, V, ⟨bg, ov, db, sv, rfl⟩, K, e⟩⟩ := y
  have h1 := E 0 _ rfl
  refine mj_Ok.of (M := mj_m175) rfl rfl rfl ?_
  refine mj_T.pl rfl rfl rfl rfl ?_
  refine mj_T.gfl (v := .int (jn c)) rfl h1 (by rw [← e]; rfl) ?_
  exact mj_T.ret rfl rfl rfl rfl
theorem YX.calla {D j : Nat} {as as2 : List Value} {tm' er' : Int} {T' : Nat → Int} {Φ Ψ : SP} {A : Int → Int → Prop} (E : jEm 563 hr h) (hl : 571 < h.length) (y : yZ Φ h) (ag : AgP Φ Ψ) (c : mj_Ok D j as hr (rZa Ψ A tm' er' T')) (has : ∀ N, as.map (mj_rn (jro 563 N)) = as2) : mj_Ok D j as2 h (fun r => ∃ c z : Int, A c z ∧ jr z ∧ r.1 = .inl (some (.int (jn z))) ∧ YXt c tm' er' T' r.2 ∧ r.2[571]? = h[571]?) := by
  have hL := E.2.2.1
  have := E.run c (fun r q h3 => by
    obtain ⟨_, _, N', u', H', _, _, _, _, k⟩ := q
    exact jI_s8 k.to.tI h3)
  rw [has] at this
  refine this.to (fun r hq => ?_)
  obtain ⟨r0, hr', ⟨c, z, N2, u2, H2, a, jz, v0, p2, k⟩, v1, d, _, f⟩ := hq
  obtain ⟨N1, u1, H1, p1, s1⟩ := y
  have s2 : cC N1 u1 H1 r.2 := s1.fr (fun a ha => by
    have l : a < 563 := by
      rcases Nat.lt_or_ge a 563 with c | c
      · exact c
      · exact absurd (cK_out c) ha
    exact f a (by omega) (Or.inl l))
  have v0 : r0 = .inl (some (.int (jn z))) := v0
  refine ⟨c, z, a, jz, ?_, ⟨N2, u2, H2, hr', s2.cg (ag _ _ _ _ _ _ p1 p2), d, k⟩, f 571 hl (Or.inr (by decide))⟩
  rw [v1, v0]
  first
  | rfl
  | done
end YXA
theorem jcx.lastv {h : mj_H} {D pc q r1 r2 r3 r4 r5 : Nat} {M : mj_M} {loc : mj_L} {st : List Value} {Q : mj_R → Prop} {x : Int64} {f : Nat → Value} (hf : h[q]? = some (.inl (1, 1, f))) (hc : M.2.2.2.2.1 pc = some (.lastore, r1, r2, r3, r4, r5)) (k : ∀ e : mj_E, (∃ f : Nat → Value, (h.set q e)[q]? = some (.inl (1, 1, f)) ∧ f 0 = .long x) → mj_T D M (pc + 1) loc st (h.set q e) Q) : mj_T D M pc loc (.long x :: .int (jn 0) :: .ref q :: st) h Q := by
  refine mj_T.step hc rfl (pc' := pc + 1) (loc' := loc) (st' := st) (h' := h.set q (.inl (1, 1, updV f 0 (.long x)))) ?_ (k _ ⟨_, List.getElem?_set_self (List.getElem?_eq_some_iff.mp hf).1, rfl⟩)
  simp only [mj_step, hf]
  rfl
section JZL
variable {n : Nat} {tm : Int} {h : mj_H} {Φ : SP} {A : Int → Int → Prop}
theorem jz_310 {p1 : Int} {p2 : Int} {p3 : Int} (w : jLw cK cL cR 571 n tm h) (rp1 : -2147483648 ≤ p1 ∧ p1 ≤ 2147483647) (rp2 : -2147483648 ≤ p2 ∧ p2 ≤ 2147483647) (rp3 : -2147483648 ≤ p3 ∧ p3 ≤ 2147483647) (c : mj_Ok 59 102 [.ref 1, .int (jn p1), .int (jn p2), .int (jn p3)] h (fun r => yZ Φ r.2 ∧ cA (fun k => if k = 0 then 1 else 2) A r)) : mj_Ok 60 310 [.ref 1, .int (jn p1), .int (jn p2), .int (jn p3), .ref 571] h (oA A Φ) := by
  have hg : h.length ≤ n := Nat.le_of_eq w.1.1
  refine mj_Ok.of (M := mj_m310) (loc := [some (.ref 1), some (.int (jn p1)), some (.int (jn p2)), some (.int (jn p3)), some (.ref 571), none]) rfl rfl rfl ?_
  iterate 6 refine mj_T.pl rfl rfl rfl rfl ?_
  refine mj_T.call rfl rfl (Nat.le_of_ble_eq_true rfl) (Nat.le_of_ble_eq_true rfl) (jrv_of w.1 cK4.1 (by decide) rfl (by decide) rfl _) rfl ((mj_Ok.up (by decide) (jc_102 (D := 0) cTY hg w.1 cK4.1 rp1 rp2 rp3)).and c) (fun v h1 hq => ?_) (fun i h1 hq => ?_)
  · obtain ⟨⟨_, o1⟩, y1, z, jz, rfl, az⟩ := hq
    obtain ⟨_, _, f, hf⟩ := w.thr o1
    refine mj_T.i2l rfl jz ?_
    refine jcx.lastv hf rfl (fun e ce => ?_)
    iterate 2 refine mj_T.pl rfl rfl rfl rfl ?_
    exact mj_T.ret rfl rfl rfl ⟨0, z, az, ⟨by decide, by decide⟩, rfl, fun _ => ⟨⟨by have := jz.1; omega, by have := jz.2; omega⟩, ce⟩, yZ.set y1⟩
  · obtain ⟨⟨hi, o1⟩, y1, y2⟩ := hq
    simp only [List.mem_cons, List.not_mem_nil, or_false] at hi
    rcases hi with hi | hi
    · subst hi
      refine Or.inr ⟨5, 17, rfl, (Nat.le_of_ble_eq_true rfl), ?_⟩
      refine mj_T.pl rfl rfl rfl rfl ?_
      exact mj_T.ret rfl rfl rfl ⟨1, 0, y2 0, ⟨by decide, by decide⟩, rfl, fun q => absurd q (by decide), y1⟩
    · subst hi
      refine Or.inr ⟨5, 21, rfl, (Nat.le_of_ble_eq_true rfl), ?_⟩
      refine mj_T.pl rfl rfl rfl rfl ?_
      exact mj_T.ret rfl rfl rfl ⟨2, 0, y2 0, ⟨by decide, by decide⟩, rfl, fun q => absurd q (by decide), y1⟩
theorem jz_311 {p1 : Int} {p2 : Int} {p3 : Int} (w : jLw cK cL cR 571 n tm h) (rp1 : -2147483648 ≤ p1 ∧ p1 ≤ 2147483647) (rp2 : -2147483648 ≤ p2 ∧ p2 ≤ 2147483647) (rp3 : -2147483648 ≤ p3 ∧ p3 ≤ 2147483647) (c : mj_Ok 59 103 [.ref 1, .int (jn p1), .int (jn p2), .int (jn p3)] h (fun r => yZ Φ r.2 ∧ cA (fun k => if k = 0 then 1 else 2) A r)) : mj_Ok 60 311 [.ref 1, .int (jn p1), .int (jn p2), .int (jn p3), .ref 571] h (oA A Φ) := by
  have hg : h.length ≤ n := Nat.le_of_eq w.1.1
  refine mj_Ok.of (M := mj_m311) (loc := [some (.ref 1), some (.int (jn p1)), some (.int (jn p2)), some (.int (jn p3)), some (.ref 571), none]) rfl rfl rfl ?_
  iterate 6 refine mj_T.pl rfl rfl rfl rfl ?_
  refine mj_T.call rfl rfl (Nat.le_of_ble_eq_true rfl) (Nat.le_of_ble_eq_true rfl) (jrv_of w.1 cK4.1 (by decide) rfl (by decide) rfl _) rfl ((mj_Ok.up (by decide) (jc_103 (D := 0) cTY hg w.1 cK4.1 rp1 rp2 rp3)).and c) (fun v h1 hq => ?_) (fun i h1 hq => ?_)
  · obtain ⟨⟨_, o1⟩, y1, z, jz, rfl, az⟩ := hq
    obtain ⟨_, _, f, hf⟩ := w.thr o1
    refine mj_T.i2l rfl jz ?_
    refine jcx.lastv hf rfl (fun e ce => ?_)
    iterate 2 refine mj_T.pl rfl rfl rfl rfl ?_
    exact mj_T.ret rfl rfl rfl ⟨0, z, az, ⟨by decide, by decide⟩, rfl, fun _ => ⟨⟨by have := jz.1; omega, by have := jz.2; omega⟩, ce⟩, yZ.set y1⟩
  · obtain ⟨⟨hi, o1⟩, y1, y2⟩ := hq
    simp only [List.mem_cons, List.not_mem_nil, or_false] at hi
    rcases hi with hi | hi
    · subst hi
      refine Or.inr ⟨5, 17, rfl, (Nat.le_of_ble_eq_true rfl), ?_⟩
      refine mj_T.pl rfl rfl rfl rfl ?_
      exact mj_T.ret rfl rfl rfl ⟨1, 0, y2 0, ⟨by decide, by decide⟩, rfl, fun q => absurd q (by decide), y1⟩
    · subst hi
      refine Or.inr ⟨5, 21, rfl, (Nat.le_of_ble_eq_true rfl), ?_⟩
      refine mj_T.pl rfl rfl rfl rfl ?_
      exact mj_T.ret rfl rfl rfl ⟨2, 0, y2 0, ⟨by decide, by decide⟩, rfl, fun q => absurd q (by decide), y1⟩
theorem jz_312 {p1 : Int} {p2 : Int} {p3 : Int} (w : jLw cK cL cR 571 n tm h) (rp1 : -2147483648 ≤ p1 ∧ p1 ≤ 2147483647) (rp2 : -2147483648 ≤ p2 ∧ p2 ≤ 2147483647) (rp3 : -2147483648 ≤ p3 ∧ p3 ≤ 2147483647) (c : mj_Ok 59 104 [.ref 1, .int (jn p1), .int (jn p2), .int (jn p3)] h (fun r => yZ Φ r.2 ∧ cA (fun k => if k = 0 then 1 else 2) A r)) : mj_Ok 60 312 [.ref 1, .int (jn p1), .int (jn p2), .int (jn p3), .ref 571] h (oA A Φ) := by
  have hg : h.length ≤ n := Nat.le_of_eq w.1.1
  refine mj_Ok.of (M := mj_m312) (loc := [some (.ref 1), some (.int (jn p1)), some (.int (jn p2)), some (.int (jn p3)), some (.ref 571), none]) rfl rfl rfl ?_
  iterate 6 refine mj_T.pl rfl rfl rfl rfl ?_
  refine mj_T.call rfl rfl (Nat.le_of_ble_eq_true rfl) (Nat.le_of_ble_eq_true rfl) (jrv_of w.1 cK4.1 (by decide) rfl (by decide) rfl _) rfl ((mj_Ok.up (by decide) (jc_104 (D := 0) cTY hg w.1 cK4.1 rp1 rp2 rp3)).and c) (fun v h1 hq => ?_) (fun i h1 hq => ?_)
  · obtain ⟨⟨_, o1⟩, y1, z, jz, rfl, az⟩ := hq
    obtain ⟨_, _, f, hf⟩ := w.thr o1
    refine mj_T.i2l rfl jz ?_
    refine jcx.lastv hf rfl (fun e ce => ?_)
    iterate 2 refine mj_T.pl rfl rfl rfl rfl ?_
    exact mj_T.ret rfl rfl rfl ⟨0, z, az, ⟨by decide, by decide⟩, rfl, fun _ => ⟨⟨by have := jz.1; omega, by have := jz.2; omega⟩, ce⟩, yZ.set y1⟩
  · obtain ⟨⟨hi, o1⟩, y1, y2⟩ := hq
    simp only [List.mem_cons, List.not_mem_nil, or_false] at hi
    rcases hi with hi | hi
    · subst hi
      refine Or.inr ⟨5, 17, rfl, (Nat.le_of_ble_eq_true rfl), ?_⟩
      refine mj_T.pl rfl rfl rfl rfl ?_
      exact mj_T.ret rfl rfl rfl ⟨1, 0, y2 0, ⟨by decide, by decide⟩, rfl, fun q => absurd q (by decide), y1⟩
    · subst hi
      refine Or.inr ⟨5, 21, rfl, (Nat.le_of_ble_eq_true rfl), ?_⟩
      refine mj_T.pl rfl rfl rfl rfl ?_
      exact mj_T.ret rfl rfl rfl ⟨2, 0, y2 0, ⟨by decide, by decide⟩, rfl, fun q => absurd q (by decide), y1⟩
theorem jz_313 {p1 : Int} {p2 : Int} {p3 : Int} (w : jLw cK cL cR 571 n tm h) (rp1 : -2147483648 ≤ p1 ∧ p1 ≤ 2147483647) (rp2 : -2147483648 ≤ p2 ∧ p2 ≤ 2147483647) (rp3 : -2147483648 ≤ p3 ∧ p3 ≤ 2147483647) (c : mj_Ok 59 105 [.ref 1, .int (jn p1), .int (jn p2), .int (jn p3)] h (fun r => yZ Φ r.2 ∧ cA (fun k => if k = 0 then 1 else if k = 2 then 2 else 3) A r)) : mj_Ok 60 313 [.ref 1, .int (jn p1), .int (jn p2), .int (jn p3), .ref 571] h (oA A Φ) := by
  have hg : h.length ≤ n := Nat.le_of_eq w.1.1
  refine mj_Ok.of (M := mj_m313) (loc := [some (.ref 1), some (.int (jn p1)), some (.int (jn p2)), some (.int (jn p3)), some (.ref 571), none]) rfl rfl rfl ?_
  iterate 6 refine mj_T.pl rfl rfl rfl rfl ?_
  refine mj_T.call rfl rfl (Nat.le_of_ble_eq_true rfl) (Nat.le_of_ble_eq_true rfl) (jrv_of w.1 cK4.1 (by decide) rfl (by decide) rfl _) rfl ((mj_Ok.up (by decide) (jc_105 (D := 0) cTY hg w.1 cK4.1 rp1 rp2 rp3)).and c) (fun v h1 hq => ?_) (fun i h1 hq => ?_)
  · obtain ⟨⟨_, o1⟩, y1, z, jz, rfl, az⟩ := hq
    obtain ⟨_, _, f, hf⟩ := w.thr o1
    refine mj_T.i2l rfl jz ?_
    refine jcx.lastv hf rfl (fun e ce => ?_)
    iterate 2 refine mj_T.pl rfl rfl rfl rfl ?_
    exact mj_T.ret rfl rfl rfl ⟨0, z, az, ⟨by decide, by decide⟩, rfl, fun _ => ⟨⟨by have := jz.1; omega, by have := jz.2; omega⟩, ce⟩, yZ.set y1⟩
  · obtain ⟨⟨hi, o1⟩, y1, y2⟩ := hq
    simp only [List.mem_cons, List.not_mem_nil, or_false] at hi
    rcases hi with hi | hi | hi
    · subst hi
      refine Or.inr ⟨5, 17, rfl, (Nat.le_of_ble_eq_true rfl), ?_⟩
      refine mj_T.pl rfl rfl rfl rfl ?_
      exact mj_T.ret rfl rfl rfl ⟨1, 0, y2 0, ⟨by decide, by decide⟩, rfl, fun q => absurd q (by decide), y1⟩
    · subst hi
      refine Or.inr ⟨5, 21, rfl, (Nat.le_of_ble_eq_true rfl), ?_⟩
      refine mj_T.pl rfl rfl rfl rfl ?_
      exact mj_T.ret rfl rfl rfl ⟨2, 0, y2 0, ⟨by decide, by decide⟩, rfl, fun q => absurd q (by decide), y1⟩
    · subst hi
      refine Or.inr ⟨5, 25, rfl, (Nat.le_of_ble_eq_true rfl), ?_⟩
      refine mj_T.pl rfl rfl rfl rfl ?_
      exact mj_T.ret rfl rfl rfl ⟨3, 0, y2 0, ⟨by decide, by decide⟩, rfl, fun q => absurd q (by decide), y1⟩
theorem jz_314 {p1 : Int} {p2 : Int} (w : jLw cK cL cR 571 n tm h) (rp1 : -2147483648 ≤ p1 ∧ p1 ≤ 2147483647) (rp2 : -2147483648 ≤ p2 ∧ p2 ≤ 2147483647) (c : mj_Ok 59 106 [.ref 1, .int (jn p1), .int (jn p2)] h (fun r => yZ Φ r.2 ∧ cA (fun k => if k = 0 then 1 else 2) A r)) : mj_Ok 60 314 [.ref 1, .int (jn p1), .int (jn p2), .ref 571] h (oA A Φ) := by
  have hg : h.length ≤ n := Nat.le_of_eq w.1.1
  refine mj_Ok.of (M := mj_m314) (loc := [some (.ref 1), some (.int (jn p1)), some (.int (jn p2)), some (.ref 571), none]) rfl rfl rfl ?_
  iterate 5 refine mj_T.pl rfl rfl rfl rfl ?_
  refine mj_T.call rfl rfl (Nat.le_of_ble_eq_true rfl) (Nat.le_of_ble_eq_true rfl) (jrv_of w.1 cK4.1 (by decide) rfl (by decide) rfl _) rfl ((mj_Ok.up (by decide) (jc_106 (D := 0) cTY hg w.1 cK4.1 rp1 rp2)).and c) (fun v h1 hq => ?_) (fun i h1 hq => ?_)
  · obtain ⟨⟨_, o1⟩, y1, z, jz, rfl, az⟩ := hq
    obtain ⟨_, _, f, hf⟩ := w.thr o1
    refine mj_T.i2l rfl jz ?_
    refine jcx.lastv hf rfl (fun e ce => ?_)
    iterate 2 refine mj_T.pl rfl rfl rfl rfl ?_
    exact mj_T.ret rfl rfl rfl ⟨0, z, az, ⟨by decide, by decide⟩, rfl, fun _ => ⟨⟨by have := jz.1; omega, by have := jz.2; omega⟩, ce⟩, yZ.set y1⟩
  · obtain ⟨⟨hi, o1⟩, y1, y2⟩ := hq
    simp only [List.mem_cons, List.not_mem_nil, or_false] at hi
    rcases hi with hi | hi
    · subst hi
      refine Or.inr ⟨4, 15, rfl, (Nat.le_of_ble_eq_true rfl), ?_⟩
      refine mj_T.pl rfl rfl rfl rfl ?_
      exact mj_T.ret rfl rfl rfl ⟨1, 0, y2 0, ⟨by decide, by decide⟩, rfl, fun q => absurd q (by decide), y1⟩
    · subst hi
      refine Or.inr ⟨4, 19, rfl, (Nat.le_of_ble_eq_true rfl), ?_⟩
      refine mj_T.pl rfl rfl rfl rfl ?_
      exact mj_T.ret rfl rfl rfl ⟨2, 0, y2 0, ⟨by decide, by decide⟩, rfl, fun q => absurd q (by decide), y1⟩
theorem jz_315 {p1 : Int} {p2 : Int} {p3 : Int} (w : jLw cK cL cR 571 n tm h) (rp1 : -2147483648 ≤ p1 ∧ p1 ≤ 2147483647) (rp2 : -2147483648 ≤ p2 ∧ p2 ≤ 2147483647) (rp3 : -2147483648 ≤ p3 ∧ p3 ≤ 2147483647) (c : mj_Ok 59 107 [.ref 1, .int (jn p1), .int (jn p2), .int (jn p3)] h (fun r => yZ Φ r.2 ∧ cA (fun k => if k = 0 then 1 else 2) A r)) : mj_Ok 60 315 [.ref 1, .int (jn p1), .int (jn p2), .int (jn p3), .ref 571] h (oA A Φ) := by
  have hg : h.length ≤ n := Nat.le_of_eq w.1.1
  refine mj_Ok.of (M := mj_m315) (loc := [some (.ref 1), some (.int (jn p1)), some (.int (jn p2)), some (.int (jn p3)), some (.ref 571), none]) rfl rfl rfl ?_
  iterate 6 refine mj_T.pl rfl rfl rfl rfl ?_
  refine mj_T.call rfl rfl (Nat.le_of_ble_eq_true rfl) (Nat.le_of_ble_eq_true rfl) (jrv_of w.1 cK4.1 (by decide) rfl (by decide) rfl _) rfl ((mj_Ok.up (by decide) (jc_107 (D := 0) cTY hg w.1 cK4.1 rp1 rp2 rp3)).and c) (fun v h1 hq => ?_) (fun i h1 hq => ?_)
  · obtain ⟨⟨_, o1⟩, y1, z, jz, rfl, az⟩ := hq
    obtain ⟨_, _, f, hf⟩ := w.thr o1
    refine mj_T.i2l rfl jz ?_
    refine jcx.lastv hf rfl (fun e ce => ?_)
    iterate 2 refine mj_T.pl rfl rfl rfl rfl ?_
    exact mj_T.ret rfl rfl rfl ⟨0, z, az, ⟨by decide, by decide⟩, rfl, fun _ => ⟨⟨by have := jz.1; omega, by have := jz.2; omega⟩, ce⟩, yZ.set y1⟩
  · obtain ⟨⟨hi, o1⟩, y1, y2⟩ := hq
    simp only [List.mem_cons, List.not_mem_nil, or_false] at hi
    rcases hi with hi | hi
    · subst hi
      refine Or.inr ⟨5, 17, rfl, (Nat.le_of_ble_eq_true rfl), ?_⟩
      refine mj_T.pl rfl rfl rfl rfl ?_
      exact mj_T.ret rfl rfl rfl ⟨1, 0, y2 0, ⟨by decide, by decide⟩, rfl, fun q => absurd q (by decide), y1⟩
    · subst hi
      refine Or.inr ⟨5, 21, rfl, (Nat.le_of_ble_eq_true rfl), ?_⟩
      refine mj_T.pl rfl rfl rfl rfl ?_
      exact mj_T.ret rfl rfl rfl ⟨2, 0, y2 0, ⟨by decide, by decide⟩, rfl, fun q => absurd q (by decide), y1⟩
theorem jz_316 {p1 : Int} {p2 : Int} {p3 : Int} {p4 : Int} (w : jLw cK cL cR 571 n tm h) (rp1 : -2147483648 ≤ p1 ∧ p1 ≤ 2147483647) (rp2 : -2147483648 ≤ p2 ∧ p2 ≤ 2147483647) (rp3 : -2147483648 ≤ p3 ∧ p3 ≤ 2147483647) (rp4 : -2147483648 ≤ p4 ∧ p4 ≤ 2147483647) (c : mj_Ok 59 108 [.ref 1, .int (jn p1), .int (jn p2), .int (jn p3), .int (jn p4)] h (fun r => yZ Φ r.2 ∧ cA (fun k => if k = 0 then 1 else if k = 2 then 2 else if k = 3 then 3 else 4) A r)) : mj_Ok 60 316 [.ref 1, .int (jn p1), .int (jn p2), .int (jn p3), .int (jn p4), .ref 571] h (oA A Φ) := by
  have hg : h.length ≤ n := Nat.le_of_eq w.1.1
  refine mj_Ok.of (M := mj_m316) (loc := [some (.ref 1), some (.int (jn p1)), some (.int (jn p2)), some (.int (jn p3)), some (.int (jn p4)), some (.ref 571), none]) rfl rfl rfl ?_
  iterate 7 refine mj_T.pl rfl rfl rfl rfl ?_
  refine mj_T.call rfl rfl (Nat.le_of_ble_eq_true rfl) (Nat.le_of_ble_eq_true rfl) (jrv_of w.1 cK4.1 (by decide) rfl (by decide) rfl _) rfl ((mj_Ok.up (by decide) (jc_108 (D := 0) cTY hg w.1 cK4.1 rp1 rp2 rp3 rp4)).and c) (fun v h1 hq => ?_) (fun i h1 hq => ?_)
  · obtain ⟨⟨_, o1⟩, y1, z, jz, rfl, az⟩ := hq
    obtain ⟨_, _, f, hf⟩ := w.thr o1
    refine mj_T.i2l rfl jz ?_
    refine jcx.lastv hf rfl (fun e ce => ?_)
    iterate 2 refine mj_T.pl rfl rfl rfl rfl ?_
    exact mj_T.ret rfl rfl rfl ⟨0, z, az, ⟨by decide, by decide⟩, rfl, fun _ => ⟨⟨by have := jz.1; omega, by have := jz.2; omega⟩, ce⟩, yZ.set y1⟩
  · obtain ⟨⟨hi, o1⟩, y1, y2⟩ := hq
    simp only [List.mem_cons, List.not_mem_nil, or_false] at hi
    rcases hi with hi | hi | hi | hi
    · subst hi
      refine Or.inr ⟨6, 19, rfl, (Nat.le_of_ble_eq_true rfl), ?_⟩
      refine mj_T.pl rfl rfl rfl rfl ?_
      exact mj_T.ret rfl rfl rfl ⟨1, 0, y2 0, ⟨by decide, by decide⟩, rfl, fun q => absurd q (by decide), y1⟩
    · subst hi
      refine Or.inr ⟨6, 23, rfl, (Nat.le_of_ble_eq_true rfl), ?_⟩
      refine mj_T.pl rfl rfl rfl rfl ?_
      exact mj_T.ret rfl rfl rfl ⟨2, 0, y2 0, ⟨by decide, by decide⟩, rfl, fun q => absurd q (by decide), y1⟩
    · subst hi
      refine Or.inr ⟨6, 27, rfl, (Nat.le_of_ble_eq_true rfl), ?_⟩
      refine mj_T.pl rfl rfl rfl rfl ?_
      exact mj_T.ret rfl rfl rfl ⟨3, 0, y2 0, ⟨by decide, by decide⟩, rfl, fun q => absurd q (by decide), y1⟩
    · subst hi
      refine Or.inr ⟨6, 31, rfl, (Nat.le_of_ble_eq_true rfl), ?_⟩
      refine mj_T.pl rfl rfl rfl rfl ?_
      exact mj_T.ret rfl rfl rfl ⟨4, 0, y2 0, ⟨by decide, by decide⟩, rfl, fun q => absurd q (by decide), y1⟩
theorem jz_317 {p1 : Int} {p2 : Int} {p3 : Int} (w : jLw cK cL cR 571 n tm h) (rp1 : -2147483648 ≤ p1 ∧ p1 ≤ 2147483647) (rp2 : -2147483648 ≤ p2 ∧ p2 ≤ 2147483647) (rp3 : -2147483648 ≤ p3 ∧ p3 ≤ 2147483647) (c : mj_Ok 59 109 [.ref 1, .int (jn p1), .int (jn p2), .int (jn p3)] h (fun r => yZ Φ r.2 ∧ cA (fun k => if k = 0 then 1 else 2) A r)) : mj_Ok 60 317 [.ref 1, .int (jn p1), .int (jn p2), .int (jn p3), .ref 571] h (oA A Φ) := by
  have hg : h.length ≤ n := Nat.le_of_eq w.1.1
  refine mj_Ok.of (M := mj_m317) (loc := [some (.ref 1), some (.int (jn p1)), some (.int (jn p2)), some (.int (jn p3)), some (.ref 571), none]) rfl rfl rfl ?_
  iterate 6 refine mj_T.pl rfl rfl rfl rfl ?_
  refine mj_T.call rfl rfl (Nat.le_of_ble_eq_true rfl) (Nat.le_of_ble_eq_true rfl) (jrv_of w.1 cK4.1 (by decide) rfl (by decide) rfl _) rfl ((mj_Ok.up (by decide) (jc_109 (D := 0) cTY hg w.1 cK4.1 rp1 rp2 rp3)).and c) (fun v h1 hq => ?_) (fun i h1 hq => ?_)
  · obtain ⟨⟨_, o1⟩, y1, z, jz, rfl, az⟩ := hq
    obtain ⟨_, _, f, hf⟩ := w.thr o1
    refine mj_T.i2l rfl jz ?_
    refine jcx.lastv hf rfl (fun e ce => ?_)
    iterate 2 refine mj_T.pl rfl rfl rfl rfl ?_
    exact mj_T.ret rfl rfl rfl ⟨0, z, az, ⟨by decide, by decide⟩, rfl, fun _ => ⟨⟨by have := jz.1; omega, by have := jz.2; omega⟩, ce⟩, yZ.set y1⟩
  · obtain ⟨⟨hi, o1⟩, y1, y2⟩ := hq
    simp only [List.mem_cons, List.not_mem_nil, or_false] at hi
    rcases hi with hi | hi
    · subst hi
      refine Or.inr ⟨5, 17, rfl, (Nat.le_of_ble_eq_true rfl), ?_⟩
      refine mj_T.pl rfl rfl rfl rfl ?_
      exact mj_T.ret rfl rfl rfl ⟨1, 0, y2 0, ⟨by decide, by decide⟩, rfl, fun q => absurd q (by decide), y1⟩
    · subst hi
      refine Or.inr ⟨5, 21, rfl, (Nat.le_of_ble_eq_true rfl), ?_⟩
      refine mj_T.pl rfl rfl rfl rfl ?_
      exact mj_T.ret rfl rfl rfl ⟨2, 0, y2 0, ⟨by decide, by decide⟩, rfl, fun q => absurd q (by decide), y1⟩
theorem jz_318 {p1 : Int} {p2 : Int} (w : jLw cK cL cR 571 n tm h) (rp1 : -2147483648 ≤ p1 ∧ p1 ≤ 2147483647) (rp2 : -2147483648 ≤ p2 ∧ p2 ≤ 2147483647) (c : mj_Ok 59 110 [.ref 1, .int (jn p1), .int (jn p2)] h (fun r => yZ Φ r.2 ∧ cA (fun k => 1) A r)) : mj_Ok 60 318 [.ref 1, .int (jn p1), .int (jn p2), .ref 571] h (oA A Φ) := by
  have hg : h.length ≤ n := Nat.le_of_eq w.1.1
  refine mj_Ok.of (M := mj_m318) (loc := [some (.ref 1), some (.int (jn p1)), some (.int (jn p2)), some (.ref 571), none]) rfl rfl rfl ?_
  iterate 5 refine mj_T.pl rfl rfl rfl rfl ?_
  refine mj_T.call rfl rfl (Nat.le_of_ble_eq_true rfl) (Nat.le_of_ble_eq_true rfl) (jrv_of w.1 cK4.1 (by decide) rfl (by decide) rfl _) rfl ((mj_Ok.up (by decide) (jc_110 (D := 0) cTY hg w.1 cK4.1 rp1 rp2)).and c) (fun v h1 hq => ?_) (fun i h1 hq => ?_)
  · obtain ⟨⟨_, o1⟩, y1, z, jz, rfl, az⟩ := hq
    obtain ⟨_, _, f, hf⟩ := w.thr o1
    refine mj_T.i2l rfl jz ?_
    refine jcx.lastv hf rfl (fun e ce => ?_)
    iterate 2 refine mj_T.pl rfl rfl rfl rfl ?_
    exact mj_T.ret rfl rfl rfl ⟨0, z, az, ⟨by decide, by decide⟩, rfl, fun _ => ⟨⟨by have := jz.1; omega, by have := jz.2; omega⟩, ce⟩, yZ.set y1⟩
  · obtain ⟨⟨hi, o1⟩, y1, y2⟩ := hq
    simp only [List.mem_cons, List.not_mem_nil, or_false] at hi
    · subst hi
      refine Or.inr ⟨4, 15, rfl, (Nat.le_of_ble_eq_true rfl), ?_⟩
      refine mj_T.pl rfl rfl rfl rfl ?_
      exact mj_T.ret rfl rfl rfl ⟨1, 0, y2 0, ⟨by decide, by decide⟩, rfl, fun q => absurd q (by decide), y1⟩
theorem jz_319 {p1 : Int} {p2 : Int} (w : jLw cK cL cR 571 n tm h) (rp1 : -2147483648 ≤ p1 ∧ p1 ≤ 2147483647) (rp2 : -2147483648 ≤ p2 ∧ p2 ≤ 2147483647) (c : mj_Ok 59 111 [.ref 1, .int (jn p1), .int (jn p2)] h (fun r => yZ Φ r.2 ∧ cA (fun k => if k = 0 then 1 else if k = 3 then 2 else 3) A r)) : mj_Ok 60 319 [.ref 1, .int (jn p1), .int (jn p2), .ref 571] h (oA A Φ) := by
  have hg : h.length ≤ n := Nat.le_of_eq w.1.1
  refine mj_Ok.of (M := mj_m319) (loc := [some (.ref 1), some (.int (jn p1)), some (.int (jn p2)), some (.ref 571), none]) rfl rfl rfl ?_
  iterate 5 refine mj_T.pl rfl rfl rfl rfl ?_
  refine mj_T.call rfl rfl (Nat.le_of_ble_eq_true rfl) (Nat.le_of_ble_eq_true rfl) (jrv_of w.1 cK4.1 (by decide) rfl (by decide) rfl _) rfl ((mj_Ok.up (by decide) (jc_111 (D := 0) cTY hg w.1 cK4.1 rp1 rp2)).and c) (fun v h1 hq => ?_) (fun i h1 hq => ?_)
  · obtain ⟨⟨_, o1⟩, y1, z, jz, rfl, az⟩ := hq
    obtain ⟨_, _, f, hf⟩ := w.thr o1
    refine mj_T.i2l rfl jz ?_
    refine jcx.lastv hf rfl (fun e ce => ?_)
    iterate 2 refine mj_T.pl rfl rfl rfl rfl ?_
    exact mj_T.ret rfl rfl rfl ⟨0, z, az, ⟨by decide, by decide⟩, rfl, fun _ => ⟨⟨by have := jz.1; omega, by have := jz.2; omega⟩, ce⟩, yZ.set y1⟩
  · obtain ⟨⟨hi, o1⟩, y1, y2⟩ := hq
    simp only [List.mem_cons, List.not_mem_nil, or_false] at hi
    rcases hi with hi | hi | hi
    · subst hi
      refine Or.inr ⟨4, 15, rfl, (Nat.le_of_ble_eq_true rfl), ?_⟩
      refine mj_T.pl rfl rfl rfl rfl ?_
      exact mj_T.ret rfl rfl rfl ⟨1, 0, y2 0, ⟨by decide, by decide⟩, rfl, fun q => absurd q (by decide), y1⟩
    · subst hi
      refine Or.inr ⟨4, 19, rfl, (Nat.le_of_ble_eq_true rfl), ?_⟩
      refine mj_T.pl rfl rfl rfl rfl ?_
      exact mj_T.ret rfl rfl rfl ⟨2, 0, y2 0, ⟨by decide, by decide⟩, rfl, fun q => absurd q (by decide), y1⟩
    · subst hi
      refine Or.inr ⟨4, 23, rfl, (Nat.le_of_ble_eq_true rfl), ?_⟩
      refine mj_T.pl rfl rfl rfl rfl ?_
      exact mj_T.ret rfl rfl rfl ⟨3, 0, y2 0, ⟨by decide, by decide⟩, rfl, fun q => absurd q (by decide), y1⟩
theorem jz_320 {p1 : Int} {p2 : Int} {p3 : Int} (w : jLw cK cL cR 571 n tm h) (rp1 : -2147483648 ≤ p1 ∧ p1 ≤ 2147483647) (rp2 : -2147483648 ≤ p2 ∧ p2 ≤ 2147483647) (rp3 : -2147483648 ≤ p3 ∧ p3 ≤ 2147483647) (c : mj_Ok 59 112 [.ref 1, .int (jn p1), .int (jn p2), .int (jn p3)] h (fun r => yZ Φ r.2 ∧ cA (fun k => if k = 0 then 1 else 2) A r)) : mj_Ok 60 320 [.ref 1, .int (jn p1), .int (jn p2), .int (jn p3), .ref 571] h (oA A Φ) := by
  have hg : h.length ≤ n := Nat.le_of_eq w.1.1
  refine mj_Ok.of (M := mj_m320) (loc := [some (.ref 1), some (.int (jn p1)), some (.int (jn p2)), some (.int (jn p3)), some (.ref 571), none]) rfl rfl rfl ?_
  iterate 6 refine mj_T.pl rfl rfl rfl rfl ?_
  refine mj_T.call rfl rfl (Nat.le_of_ble_eq_true rfl) (Nat.le_of_ble_eq_true rfl) (jrv_of w.1 cK4.1 (by decide) rfl (by decide) rfl _) rfl ((mj_Ok.up (by decide) (jc_112 (D := 0) cTY hg w.1 cK4.1 rp1 rp2 rp3)).and c) (fun v h1 hq => ?_) (fun i h1 hq => ?_)
  · obtain ⟨⟨_, o1⟩, y1, z, jz, rfl, az⟩ := hq
    obtain ⟨_, _, f, hf⟩ := w.thr o1
    refine mj_T.i2l rfl jz ?_
    refine jcx.lastv hf rfl (fun e ce => ?_)
    iterate 2 refine mj_T.pl rfl rfl rfl rfl ?_
    exact mj_T.ret rfl rfl rfl ⟨0, z, az, ⟨by decide, by decide⟩, rfl, fun _ => ⟨⟨by have := jz.1; omega, by have := jz.2; omega⟩, ce⟩, yZ.set y1⟩
  · obtain ⟨⟨hi, o1⟩, y1, y2⟩ := hq
    simp only [List.mem_cons, List.not_mem_nil, or_false] at hi
    rcases hi with hi | hi
    · subst hi
      refine Or.inr ⟨5, 17, rfl, (Nat.le_of_ble_eq_true rfl), ?_⟩
      refine mj_T.pl rfl rfl rfl rfl ?_
      exact mj_T.ret rfl rfl rfl ⟨1, 0, y2 0, ⟨by decide, by decide⟩, rfl, fun q => absurd q (by decide), y1⟩
    · subst hi
      refine Or.inr ⟨5, 21, rfl, (Nat.le_of_ble_eq_true rfl), ?_⟩
      refine mj_T.pl rfl rfl rfl rfl ?_
      exact mj_T.ret rfl rfl rfl ⟨2, 0, y2 0, ⟨by decide, by decide⟩, rfl, fun q => absurd q (by decide), y1⟩
theorem jz_321 {p1 : Int} {p2 : Int} {p3 : Int} (w : jLw cK cL cR 571 n tm h) (rp1 : -2147483648 ≤ p1 ∧ p1 ≤ 2147483647) (rp2 : -2147483648 ≤ p2 ∧ p2 ≤ 2147483647) (jp3 : jR p3) (c : mj_Ok 59 113 [.ref 1, .int (jn p1), .int (jn p2), .long (jl p3)] h (fun r => yZ Φ r.2 ∧ cA (fun k => if k = 0 then 1 else if k = 2 then 2 else 3) A r)) : mj_Ok 60 321 [.ref 1, .int (jn p1), .int (jn p2), .long (jl p3), .ref 571] h (oA A Φ) := by
  have hg : h.length ≤ n := Nat.le_of_eq w.1.1
  refine mj_Ok.of (M := mj_m321) (loc := [some (.ref 1), some (.int (jn p1)), some (.int (jn p2)), some (.long (jl p3)), none, some (.ref 571), none]) rfl rfl rfl ?_
  iterate 6 refine mj_T.pl rfl rfl rfl rfl ?_
  refine mj_T.call rfl rfl (Nat.le_of_ble_eq_true rfl) (Nat.le_of_ble_eq_true rfl) (jrv_of w.1 cK4.1 (by decide) rfl (by decide) rfl _) rfl ((mj_Ok.up (by decide) (jc_113 (D := 0) cTY hg w.1 cK4.1 rp1 rp2 jp3)).and c) (fun v h1 hq => ?_) (fun i h1 hq => ?_)
  · obtain ⟨⟨_, o1⟩, y1, z, jz, rfl, az⟩ := hq
    obtain ⟨_, _, f, hf⟩ := w.thr o1
    refine mj_T.i2l rfl jz ?_
    refine jcx.lastv hf rfl (fun e ce => ?_)
    iterate 2 refine mj_T.pl rfl rfl rfl rfl ?_
    exact mj_T.ret rfl rfl rfl ⟨0, z, az, ⟨by decide, by decide⟩, rfl, fun _ => ⟨⟨by have := jz.1; omega, by have := jz.2; omega⟩, ce⟩, yZ.set y1⟩
  · obtain ⟨⟨hi, o1⟩, y1, y2⟩ := hq
    simp only [List.mem_cons, List.not_mem_nil, or_false] at hi
    rcases hi with hi | hi | hi
    · subst hi
      refine Or.inr ⟨6, 17, rfl, (Nat.le_of_ble_eq_true rfl), ?_⟩
      refine mj_T.pl rfl rfl rfl rfl ?_
      exact mj_T.ret rfl rfl rfl ⟨1, 0, y2 0, ⟨by decide, by decide⟩, rfl, fun q => absurd q (by decide), y1⟩
    · subst hi
      refine Or.inr ⟨6, 21, rfl, (Nat.le_of_ble_eq_true rfl), ?_⟩
      refine mj_T.pl rfl rfl rfl rfl ?_
      exact mj_T.ret rfl rfl rfl ⟨2, 0, y2 0, ⟨by decide, by decide⟩, rfl, fun q => absurd q (by decide), y1⟩
    · subst hi
      refine Or.inr ⟨6, 25, rfl, (Nat.le_of_ble_eq_true rfl), ?_⟩
      refine mj_T.pl rfl rfl rfl rfl ?_
      exact mj_T.ret rfl rfl rfl ⟨3, 0, y2 0, ⟨by decide, by decide⟩, rfl, fun q => absurd q (by decide), y1⟩
theorem jz_323 {p1 : Int} {p2 : Int} (w : jLw cK cL cR 571 n tm h) (rp1 : -2147483648 ≤ p1 ∧ p1 ≤ 2147483647) (rp2 : -2147483648 ≤ p2 ∧ p2 ≤ 2147483647) (c : mj_Ok 59 115 [.ref 1, .int (jn p1), .int (jn p2)] h (fun r => yZ Φ r.2 ∧ cA (fun k => if k = 2 then 1 else 2) A r)) : mj_Ok 60 323 [.ref 1, .int (jn p1), .int (jn p2), .ref 571] h (oA A Φ) := by
  have hg : h.length ≤ n := Nat.le_of_eq w.1.1
  refine mj_Ok.of (M := mj_m323) (loc := [some (.ref 1), some (.int (jn p1)), some (.int (jn p2)), some (.ref 571), none]) rfl rfl rfl ?_
  iterate 5 refine mj_T.pl rfl rfl rfl rfl ?_
  refine mj_T.call rfl rfl (Nat.le_of_ble_eq_true rfl) (Nat.le_of_ble_eq_true rfl) (jrv_of w.1 cK4.1 (by decide) rfl (by decide) rfl _) rfl ((mj_Ok.up (by decide) (jc_115 (D := 0) cTY hg w.1 cK4.1 rp1 rp2)).and c) (fun v h1 hq => ?_) (fun i h1 hq => ?_)
  · obtain ⟨⟨_, o1⟩, y1, z, jz, rfl, az⟩ := hq
    obtain ⟨_, _, f, hf⟩ := w.thr o1
    refine mj_T.i2l rfl jz ?_
    refine jcx.lastv hf rfl (fun e ce => ?_)
    iterate 2 refine mj_T.pl rfl rfl rfl rfl ?_
    exact mj_T.ret rfl rfl rfl ⟨0, z, az, ⟨by decide, by decide⟩, rfl, fun _ => ⟨⟨by have := jz.1; omega, by have := jz.2; omega⟩, ce⟩, yZ.set y1⟩
  · obtain ⟨⟨hi, o1⟩, y1, y2⟩ := hq
    simp only [List.mem_cons, List.not_mem_nil, or_false] at hi
    rcases hi with hi | hi
    · subst hi
      refine Or.inr ⟨4, 15, rfl, (Nat.le_of_ble_eq_true rfl), ?_⟩
      refine mj_T.pl rfl rfl rfl rfl ?_
      exact mj_T.ret rfl rfl rfl ⟨1, 0, y2 0, ⟨by decide, by decide⟩, rfl, fun q => absurd q (by decide), y1⟩
    · subst hi
      refine Or.inr ⟨4, 19, rfl, (Nat.le_of_ble_eq_true rfl), ?_⟩
      refine mj_T.pl rfl rfl rfl rfl ?_
      exact mj_T.ret rfl rfl rfl ⟨2, 0, y2 0, ⟨by decide, by decide⟩, rfl, fun q => absurd q (by decide), y1⟩
theorem jz_325 {p1 : Int} (w : jLw cK cL cR 571 n tm h) (rp1 : -2147483648 ≤ p1 ∧ p1 ≤ 2147483647) (c : mj_Ok 59 119 [.ref 1, .int (jn p1)] h (fun r => yZ Φ r.2 ∧ cA (fun k => 1) A r)) : mj_Ok 60 325 [.ref 1, .int (jn p1), .ref 571] h (oA A Φ) := by
  have hg : h.length ≤ n := Nat.le_of_eq w.1.1
  refine mj_Ok.of (M := mj_m325) (loc := [some (.ref 1), some (.int (jn p1)), some (.ref 571), none]) rfl rfl rfl ?_
  iterate 4 refine mj_T.pl rfl rfl rfl rfl ?_
  refine mj_T.call rfl rfl (Nat.le_of_ble_eq_true rfl) (Nat.le_of_ble_eq_true rfl) (jrv_of w.1 cK4.1 (by decide) rfl (by decide) rfl _) rfl ((mj_Ok.up (by decide) (mj_Ok.to (jc_119 (D := 0) cTY hg w.1 cK4.1 rp1) (fun _ k => jQp.toQ w.1 k))).and c) (fun v h1 hq => ?_) (fun i h1 hq => ?_)
  · obtain ⟨⟨_, o1⟩, y1, z, jz, rfl, az⟩ := hq
    obtain ⟨_, _, f, hf⟩ := w.thr o1
    refine mj_T.i2l rfl jz ?_
    refine jcx.lastv hf rfl (fun e ce => ?_)
    iterate 2 refine mj_T.pl rfl rfl rfl rfl ?_
    exact mj_T.ret rfl rfl rfl ⟨0, z, az, ⟨by decide, by decide⟩, rfl, fun _ => ⟨⟨by have := jz.1; omega, by have := jz.2; omega⟩, ce⟩, yZ.set y1⟩
  · obtain ⟨⟨hi, o1⟩, y1, y2⟩ := hq
    simp only [List.mem_cons, List.not_mem_nil, or_false] at hi
    · subst hi
      refine Or.inr ⟨3, 13, rfl, (Nat.le_of_ble_eq_true rfl), ?_⟩
      refine mj_T.pl rfl rfl rfl rfl ?_
      exact mj_T.ret rfl rfl rfl ⟨1, 0, y2 0, ⟨by decide, by decide⟩, rfl, fun q => absurd q (by decide), y1⟩
theorem jz_326 {p1 : Int} (w : jLw cK cL cR 571 n tm h) (rp1 : -2147483648 ≤ p1 ∧ p1 ≤ 2147483647) (c : mj_Ok 59 120 [.ref 1, .int (jn p1)] h (fun r => yZ Φ r.2 ∧ cA (fun k => 1) A r)) : mj_Ok 60 326 [.ref 1, .int (jn p1), .ref 571] h (oA A Φ) := by
  have hg : h.length ≤ n := Nat.le_of_eq w.1.1
  refine mj_Ok.of (M := mj_m326) (loc := [some (.ref 1), some (.int (jn p1)), some (.ref 571), none]) rfl rfl rfl ?_
  iterate 4 refine mj_T.pl rfl rfl rfl rfl ?_
  refine mj_T.call rfl rfl (Nat.le_of_ble_eq_true rfl) (Nat.le_of_ble_eq_true rfl) (jrv_of w.1 cK4.1 (by decide) rfl (by decide) rfl _) rfl ((mj_Ok.up (by decide) (mj_Ok.to (jc_120 (D := 0) cTY hg w.1 cK4.1 rp1) (fun _ k => jQp.toQ w.1 k))).and c) (fun v h1 hq => ?_) (fun i h1 hq => ?_)
  · obtain ⟨⟨_, o1⟩, y1, z, jz, rfl, az⟩ := hq
    obtain ⟨_, _, f, hf⟩ := w.thr o1
    refine mj_T.i2l rfl jz ?_
    refine jcx.lastv hf rfl (fun e ce => ?_)
    iterate 2 refine mj_T.pl rfl rfl rfl rfl ?_
    exact mj_T.ret rfl rfl rfl ⟨0, z, az, ⟨by decide, by decide⟩, rfl, fun _ => ⟨⟨by have := jz.1; omega, by have := jz.2; omega⟩, ce⟩, yZ.set y1⟩
  · obtain ⟨⟨hi, o1⟩, y1, y2⟩ := hq
    simp only [List.mem_cons, List.not_mem_nil, or_false] at hi
    · subst hi
      refine Or.inr ⟨3, 13, rfl, (Nat.le_of_ble_eq_true rfl), ?_⟩
      refine mj_T.pl rfl rfl rfl rfl ?_
      exact mj_T.ret rfl rfl rfl ⟨1, 0, y2 0, ⟨by decide, by decide⟩, rfl, fun q => absurd q (by decide), y1⟩
theorem jz_327 {p1 : Int} {p2 : Int} (w : jLw cK cL cR 571 n tm h) (rp1 : -2147483648 ≤ p1 ∧ p1 ≤ 2147483647) (rp2 : -2147483648 ≤ p2 ∧ p2 ≤ 2147483647) (c : mj_Ok 59 121 [.ref 1, .int (jn p1), .int (jn p2)] h (fun r => yZ Φ r.2 ∧ cA (fun k => 1) A r)) : mj_Ok 60 327 [.ref 1, .int (jn p1), .int (jn p2), .ref 571] h (oA A Φ) := by
  have hg : h.length ≤ n := Nat.le_of_eq w.1.1
  refine mj_Ok.of (M := mj_m327) (loc := [some (.ref 1), some (.int (jn p1)), some (.int (jn p2)), some (.ref 571), none]) rfl rfl rfl ?_
  iterate 5 refine mj_T.pl rfl rfl rfl rfl ?_
  refine mj_T.call rfl rfl (Nat.le_of_ble_eq_true rfl) (Nat.le_of_ble_eq_true rfl) (jrv_of w.1 cK4.1 (by decide) rfl (by decide) rfl _) rfl ((mj_Ok.up (by decide) (mj_Ok.to (jc_121 (D := 0) cTY hg w.1 cK4.1 rp1 rp2) (fun _ k => jQp.toQ w.1 k))).and c) (fun v h1 hq => ?_) (fun i h1 hq => ?_)
  · obtain ⟨⟨_, o1⟩, y1, z, jz, rfl, az⟩ := hq
    obtain ⟨_, _, f, hf⟩ := w.thr o1
    refine mj_T.i2l rfl jz ?_
    refine jcx.lastv hf rfl (fun e ce => ?_)
    iterate 2 refine mj_T.pl rfl rfl rfl rfl ?_
    exact mj_T.ret rfl rfl rfl ⟨0, z, az, ⟨by decide, by decide⟩, rfl, fun _ => ⟨⟨by have := jz.1; omega, by have := jz.2; omega⟩, ce⟩, yZ.set y1⟩
  · obtain ⟨⟨hi, o1⟩, y1, y2⟩ := hq
    simp only [List.mem_cons, List.not_mem_nil, or_false] at hi
    · subst hi
      refine Or.inr ⟨4, 15, rfl, (Nat.le_of_ble_eq_true rfl), ?_⟩
      refine mj_T.pl rfl rfl rfl rfl ?_
      exact mj_T.ret rfl rfl rfl ⟨1, 0, y2 0, ⟨by decide, by decide⟩, rfl, fun q => absurd q (by decide), y1⟩
theorem jz_328 {p1 : Int} {p2 : Int} (w : jLw cK cL cR 571 n tm h) (rp1 : -2147483648 ≤ p1 ∧ p1 ≤ 2147483647) (rp2 : -2147483648 ≤ p2 ∧ p2 ≤ 2147483647) (c : mj_Ok 59 122 [.ref 1, .int (jn p1), .int (jn p2)] h (fun r => yZ Φ r.2 ∧ cA (fun k => if k = 0 then 1 else 2) A r)) : mj_Ok 60 328 [.ref 1, .int (jn p1), .int (jn p2), .ref 571] h (oA A Φ) := by
  have hg : h.length ≤ n := Nat.le_of_eq w.1.1
  refine mj_Ok.of (M := mj_m328) (loc := [some (.ref 1), some (.int (jn p1)), some (.int (jn p2)), some (.ref 571), none]) rfl rfl rfl ?_
  iterate 5 refine mj_T.pl rfl rfl rfl rfl ?_
  refine mj_T.call rfl rfl (Nat.le_of_ble_eq_true rfl) (Nat.le_of_ble_eq_true rfl) (jrv_of w.1 cK4.1 (by decide) rfl (by decide) rfl _) rfl ((mj_Ok.up (by decide) (jc_122 (D := 0) cTY hg w.1 cK4.1 rp1 rp2)).and c) (fun v h1 hq => ?_) (fun i h1 hq => ?_)
  · obtain ⟨⟨_, o1⟩, y1, z, jz, rfl, az⟩ := hq
    obtain ⟨_, _, f, hf⟩ := w.thr o1
    refine mj_T.i2l rfl jz ?_
    refine jcx.lastv hf rfl (fun e ce => ?_)
    iterate 2 refine mj_T.pl rfl rfl rfl rfl ?_
    exact mj_T.ret rfl rfl rfl ⟨0, z, az, ⟨by decide, by decide⟩, rfl, fun _ => ⟨⟨by have := jz.1; omega, by have := jz.2; omega⟩, ce⟩, yZ.set y1⟩
  · obtain ⟨⟨hi, o1⟩, y1, y2⟩ := hq
    simp only [List.mem_cons, List.not_mem_nil, or_false] at hi
    rcases hi with hi | hi
    · subst hi
      refine Or.inr ⟨4, 15, rfl, (Nat.le_of_ble_eq_true rfl), ?_⟩
      refine mj_T.pl rfl rfl rfl rfl ?_
      exact mj_T.ret rfl rfl rfl ⟨1, 0, y2 0, ⟨by decide, by decide⟩, rfl, fun q => absurd q (by decide), y1⟩
    · subst hi
      refine Or.inr ⟨4, 19, rfl, (Nat.le_of_ble_eq_true rfl), ?_⟩
      refine mj_T.pl rfl rfl rfl rfl ?_
      exact mj_T.ret rfl rfl rfl ⟨2, 0, y2 0, ⟨by decide, by decide⟩, rfl, fun q => absurd q (by decide), y1⟩
theorem jz_329 {p1 : Int} (w : jLw cK cL cR 571 n tm h) (rp1 : -2147483648 ≤ p1 ∧ p1 ≤ 2147483647) (c : mj_Ok 59 123 [.ref 1, .int (jn p1)] h (fun r => yZ Φ r.2 ∧ cA (fun k => 1) A r)) : mj_Ok 60 329 [.ref 1, .int (jn p1), .ref 571] h (oA A Φ) := by
  have hg : h.length ≤ n := Nat.le_of_eq w.1.1
  refine mj_Ok.of (M := mj_m329) (loc := [some (.ref 1), some (.int (jn p1)), some (.ref 571), none]) rfl rfl rfl ?_
  iterate 4 refine mj_T.pl rfl rfl rfl rfl ?_
  refine mj_T.call rfl rfl (Nat.le_of_ble_eq_true rfl) (Nat.le_of_ble_eq_true rfl) (jrv_of w.1 cK4.1 (by decide) rfl (by decide) rfl _) rfl ((mj_Ok.up (by decide) (jc_123 (D := 0) cTY hg w.1 cK4.1 rp1)).and c) (fun v h1 hq => ?_) (fun i h1 hq => ?_)
  · obtain ⟨⟨_, o1⟩, y1, z, jz, rfl, az⟩ := hq
    obtain ⟨_, _, f, hf⟩ := w.thr o1
    refine mj_T.i2l rfl jz ?_
    refine jcx.lastv hf rfl (fun e ce => ?_)
    iterate 2 refine mj_T.pl rfl rfl rfl rfl ?_
    exact mj_T.ret rfl rfl rfl ⟨0, z, az, ⟨by decide, by decide⟩, rfl, fun _ => ⟨⟨by have := jz.1; omega, by have := jz.2; omega⟩, ce⟩, yZ.set y1⟩
  · obtain ⟨⟨hi, o1⟩, y1, y2⟩ := hq
    simp only [List.mem_cons, List.not_mem_nil, or_false] at hi
    · subst hi
      refine Or.inr ⟨3, 13, rfl, (Nat.le_of_ble_eq_true rfl), ?_⟩
      refine mj_T.pl rfl rfl rfl rfl ?_
      exact mj_T.ret rfl rfl rfl ⟨1, 0, y2 0, ⟨by decide, by decide⟩, rfl, fun q => absurd q (by decide), y1⟩
theorem jz_330 {p1 : Int} {p2 : Int} {p3 : Int} (w : jLw cK cL cR 571 n tm h) (rp1 : -2147483648 ≤ p1 ∧ p1 ≤ 2147483647) (rp2 : -2147483648 ≤ p2 ∧ p2 ≤ 2147483647) (rp3 : -2147483648 ≤ p3 ∧ p3 ≤ 2147483647) (c : mj_Ok 59 124 [.ref 1, .int (jn p1), .int (jn p2), .int (jn p3)] h (fun r => yZ Φ r.2 ∧ cA (fun k => if k = 0 then 1 else 2) A r)) : mj_Ok 60 330 [.ref 1, .int (jn p1), .int (jn p2), .int (jn p3), .ref 571] h (oA A Φ) := by
  have hg : h.length ≤ n := Nat.le_of_eq w.1.1
  refine mj_Ok.of (M := mj_m330) (loc := [some (.ref 1), some (.int (jn p1)), some (.int (jn p2)), some (.int (jn p3)), some (.ref 571), none]) rfl rfl rfl ?_
  iterate 6 refine mj_T.pl rfl rfl rfl rfl ?_
  refine mj_T.call rfl rfl (Nat.le_of_ble_eq_true rfl) (Nat.le_of_ble_eq_true rfl) (jrv_of w.1 cK4.1 (by decide) rfl (by decide) rfl _) rfl ((mj_Ok.up (by decide) (jc_124 (D := 0) cTY hg w.1 cK4.1 rp1 rp2 rp3)).and c) (fun v h1 hq => ?_) (fun i h1 hq => ?_)
  · obtain ⟨⟨_, o1⟩, y1, z, jz, rfl, az⟩ := hq
    obtain ⟨_, _, f, hf⟩ := w.thr o1
    refine mj_T.i2l rfl jz ?_
    refine jcx.lastv hf rfl (fun e ce => ?_)
    iterate 2 refine mj_T.pl rfl rfl rfl rfl ?_
    exact mj_T.ret rfl rfl rfl ⟨0, z, az, ⟨by decide, by decide⟩, rfl, fun _ => ⟨⟨by have := jz.1; omega, by have := jz.2; omega⟩, ce⟩, yZ.set y1⟩
  · obtain ⟨⟨hi, o1⟩, y1, y2⟩ := hq
    simp only [List.mem_cons, List.not_mem_nil, or_false] at hi
    rcases hi with hi | hi
    · subst hi
      refine Or.inr ⟨5, 17, rfl, (Nat.le_of_ble_eq_true rfl), ?_⟩
      refine mj_T.pl rfl rfl rfl rfl ?_
      exact mj_T.ret rfl rfl rfl ⟨1, 0, y2 0, ⟨by decide, by decide⟩, rfl, fun q => absurd q (by decide), y1⟩
    · subst hi
      refine Or.inr ⟨5, 21, rfl, (Nat.le_of_ble_eq_true rfl), ?_⟩
      refine mj_T.pl rfl rfl rfl rfl ?_
      exact mj_T.ret rfl rfl rfl ⟨2, 0, y2 0, ⟨by decide, by decide⟩, rfl, fun q => absurd q (by decide), y1⟩
theorem jz_333 {p1 : Int} {p2 : Int} (w : jLw cK cL cR 571 n tm h) (rp1 : -2147483648 ≤ p1 ∧ p1 ≤ 2147483647) (rp2 : -2147483648 ≤ p2 ∧ p2 ≤ 2147483647) (c : mj_Ok 59 127 [.ref 1, .int (jn p1), .int (jn p2)] h (fun r => yZ Φ r.2 ∧ cA (fun k => 1) A r)) : mj_Ok 60 333 [.ref 1, .int (jn p1), .int (jn p2), .ref 571] h (oA A Φ) := by
  have hg : h.length ≤ n := Nat.le_of_eq w.1.1
  refine mj_Ok.of (M := mj_m333) (loc := [some (.ref 1), some (.int (jn p1)), some (.int (jn p2)), some (.ref 571), none]) rfl rfl rfl ?_
  iterate 5 refine mj_T.pl rfl rfl rfl rfl ?_
  refine mj_T.call rfl rfl (Nat.le_of_ble_eq_true rfl) (Nat.le_of_ble_eq_true rfl) (jrv_of w.1 cK4.1 (by decide) rfl (by decide) rfl _) rfl ((mj_Ok.up (by decide) (jc_127 (D := 0) cTY hg w.1 cK4.1 rp1 rp2)).and c) (fun v h1 hq => ?_) (fun i h1 hq => ?_)
  · obtain ⟨⟨_, o1⟩, y1, z, jz, rfl, az⟩ := hq
    obtain ⟨_, _, f, hf⟩ := w.thr o1
    refine mj_T.i2l rfl jz ?_
    refine jcx.lastv hf rfl (fun e ce => ?_)
    iterate 2 refine mj_T.pl rfl rfl rfl rfl ?_
    exact mj_T.ret rfl rfl rfl ⟨0, z, az, ⟨by decide, by decide⟩, rfl, fun _ => ⟨⟨by have := jz.1; omega, by have := jz.2; omega⟩, ce⟩, yZ.set y1⟩
  · obtain ⟨⟨hi, o1⟩, y1, y2⟩ := hq
    simp only [List.mem_cons, List.not_mem_nil, or_false] at hi
    · subst hi
      refine Or.inr ⟨4, 15, rfl, (Nat.le_of_ble_eq_true rfl), ?_⟩
      refine mj_T.pl rfl rfl rfl rfl ?_
      exact mj_T.ret rfl rfl rfl ⟨1, 0, y2 0, ⟨by decide, by decide⟩, rfl, fun q => absurd q (by decide), y1⟩
theorem jz_334 {p1 : Int} {p2 : Int} (w : jLw cK cL cR 571 n tm h) (ap1 : 0 ≤ p1 ∧ p1 ≤ 1) (rp2 : -2147483648 ≤ p2 ∧ p2 ≤ 2147483647) (c : mj_Ok 59 129 [.ref 1, .int (jn p1), .int (jn p2)] h (fun r => yZ Φ r.2 ∧ cA (fun k => 1) A r)) : mj_Ok 60 334 [.ref 1, .int (jn p1), .int (jn p2), .ref 571] h (oA A Φ) := by
  have hg : h.length ≤ n := Nat.le_of_eq w.1.1
  refine mj_Ok.of (M := mj_m334) (loc := [some (.ref 1), some (.int (jn p1)), some (.int (jn p2)), some (.ref 571), none]) rfl rfl rfl ?_
  iterate 5 refine mj_T.pl rfl rfl rfl rfl ?_
  refine mj_T.call rfl rfl (Nat.le_of_ble_eq_true rfl) (Nat.le_of_ble_eq_true rfl) (jrv_of w.1 cK4.1 (by decide) rfl (by decide) rfl _) rfl ((mj_Ok.up (by decide) (mj_Ok.to (jc_129 (D := 0) cTY hg w.1 cK4.1 ap1 rp2) (fun _ k => jQp.toQ w.1 k))).and c) (fun v h1 hq => ?_) (fun i h1 hq => ?_)
  · obtain ⟨⟨_, o1⟩, y1, z, jz, rfl, az⟩ := hq
    obtain ⟨_, _, f, hf⟩ := w.thr o1
    refine mj_T.i2l rfl jz ?_
    refine jcx.lastv hf rfl (fun e ce => ?_)
    iterate 2 refine mj_T.pl rfl rfl rfl rfl ?_
    exact mj_T.ret rfl rfl rfl ⟨0, z, az, ⟨by decide, by decide⟩, rfl, fun _ => ⟨⟨by have := jz.1; omega, by have := jz.2; omega⟩, ce⟩, yZ.set y1⟩
  · obtain ⟨⟨hi, o1⟩, y1, y2⟩ := hq
    simp only [List.mem_cons, List.not_mem_nil, or_false] at hi
    · subst hi
      refine Or.inr ⟨4, 15, rfl, (Nat.le_of_ble_eq_true rfl), ?_⟩
      refine mj_T.pl rfl rfl rfl rfl ?_
      exact mj_T.ret rfl rfl rfl ⟨1, 0, y2 0, ⟨by decide, by decide⟩, rfl, fun q => absurd q (by decide), y1⟩
theorem jz_335 {p1 : Int} (w : jLw cK cL cR 571 n tm h) (rp1 : -2147483648 ≤ p1 ∧ p1 ≤ 2147483647) (c : mj_Ok 59 131 [.ref 1, .int (jn p1)] h (fun r => yZ Φ r.2 ∧ cA (fun k => if k = 0 then 1 else 2) A r)) : mj_Ok 60 335 [.ref 1, .int (jn p1), .ref 571] h (oA A Φ) := by
  have hg : h.length ≤ n := Nat.le_of_eq w.1.1
  refine mj_Ok.of (M := mj_m335) (loc := [some (.ref 1), some (.int (jn p1)), some (.ref 571), none]) rfl rfl rfl ?_
  iterate 4 refine mj_T.pl rfl rfl rfl rfl ?_
  refine mj_T.call rfl rfl (Nat.le_of_ble_eq_true rfl) (Nat.le_of_ble_eq_true rfl) (jrv_of w.1 cK4.1 (by decide) rfl (by decide) rfl _) rfl ((mj_Ok.up (by decide) (jc_131 (D := 0) cTY hg w.1 cK4.1 rp1)).and c) (fun v h1 hq => ?_) (fun i h1 hq => ?_)
  · obtain ⟨⟨_, o1⟩, y1, z, jz, rfl, az⟩ := hq
    obtain ⟨_, _, f, hf⟩ := w.thr o1
    refine mj_T.i2l rfl jz ?_
    refine jcx.lastv hf rfl (fun e ce => ?_)
    iterate 2 refine mj_T.pl rfl rfl rfl rfl ?_
    exact mj_T.ret rfl rfl rfl ⟨0, z, az, ⟨by decide, by decide⟩, rfl, fun _ => ⟨⟨by have := jz.1; omega, by have := jz.2; omega⟩, ce⟩, yZ.set y1⟩
  · obtain ⟨⟨hi, o1⟩, y1, y2⟩ := hq
    simp only [List.mem_cons, List.not_mem_nil, or_false] at hi
    rcases hi with hi | hi
    · subst hi
      refine Or.inr ⟨3, 13, rfl, (Nat.le_of_ble_eq_true rfl), ?_⟩
      refine mj_T.pl rfl rfl rfl rfl ?_
      exact mj_T.ret rfl rfl rfl ⟨1, 0, y2 0, ⟨by decide, by decide⟩, rfl, fun q => absurd q (by decide), y1⟩
    · subst hi
      refine Or.inr ⟨3, 16, rfl, (Nat.le_of_ble_eq_true rfl), ?_⟩
      refine mj_T.pl rfl rfl rfl rfl ?_
      exact mj_T.ret rfl rfl rfl ⟨2, 0, y2 0, ⟨by decide, by decide⟩, rfl, fun q => absurd q (by decide), y1⟩
theorem jz_336 {p1 : Int} {p2 : Int} {p3 : Int} {p4 : Int} {p5 : Int} (w : jLw cK cL cR 571 n tm h) (rp1 : -2147483648 ≤ p1 ∧ p1 ≤ 2147483647) (rp2 : -2147483648 ≤ p2 ∧ p2 ≤ 2147483647) (rp3 : -2147483648 ≤ p3 ∧ p3 ≤ 2147483647) (rp4 : -2147483648 ≤ p4 ∧ p4 ≤ 2147483647) (rp5 : -2147483648 ≤ p5 ∧ p5 ≤ 2147483647) (c : mj_Ok 59 132 [.ref 1, .int (jn p1), .int (jn p2), .int (jn p3), .int (jn p4), .int (jn p5)] h (fun r => yZ Φ r.2 ∧ cA (fun k => if k = 0 then 1 else if k = 2 then 2 else if k = 3 then 3 else 4) A r)) : mj_Ok 60 336 [.ref 1, .int (jn p1), .int (jn p2), .int (jn p3), .int (jn p4), .int (jn p5), .ref 571] h (oA A Φ) := by
  have hg : h.length ≤ n := Nat.le_of_eq w.1.1
  refine mj_Ok.of (M := mj_m336) (loc := [some (.ref 1), some (.int (jn p1)), some (.int (jn p2)), some (.int (jn p3)), some (.int (jn p4)), some (.int (jn p5)), some (.ref 571), none]) rfl rfl rfl ?_
  iterate 8 refine mj_T.pl rfl rfl rfl rfl ?_
  refine mj_T.call rfl rfl (Nat.le_of_ble_eq_true rfl) (Nat.le_of_ble_eq_true rfl) (jrv_of w.1 cK4.1 (by decide) rfl (by decide) rfl _) rfl ((mj_Ok.up (by decide) (jc_132 (D := 0) cTY hg w.1 cK4.1 rp1 rp2 rp3 rp4 rp5)).and c) (fun v h1 hq => ?_) (fun i h1 hq => ?_)
  · obtain ⟨⟨_, o1⟩, y1, z, jz, rfl, az⟩ := hq
    obtain ⟨_, _, f, hf⟩ := w.thr o1
    refine mj_T.i2l rfl jz ?_
    refine jcx.lastv hf rfl (fun e ce => ?_)
    iterate 2 refine mj_T.pl rfl rfl rfl rfl ?_
    exact mj_T.ret rfl rfl rfl ⟨0, z, az, ⟨by decide, by decide⟩, rfl, fun _ => ⟨⟨by have := jz.1; omega, by have := jz.2; omega⟩, ce⟩, yZ.set y1⟩
  · obtain ⟨⟨hi, o1⟩, y1, y2⟩ := hq
    simp only [List.mem_cons, List.not_mem_nil, or_false] at hi
    rcases hi with hi | hi | hi | hi
    · subst hi
      refine Or.inr ⟨7, 21, rfl, (Nat.le_of_ble_eq_true rfl), ?_⟩
      refine mj_T.pl rfl rfl rfl rfl ?_
      exact mj_T.ret rfl rfl rfl ⟨1, 0, y2 0, ⟨by decide, by decide⟩, rfl, fun q => absurd q (by decide), y1⟩
    · subst hi
      refine Or.inr ⟨7, 25, rfl, (Nat.le_of_ble_eq_true rfl), ?_⟩
      refine mj_T.pl rfl rfl rfl rfl ?_
      exact mj_T.ret rfl rfl rfl ⟨2, 0, y2 0, ⟨by decide, by decide⟩, rfl, fun q => absurd q (by decide), y1⟩
    · subst hi
      refine Or.inr ⟨7, 29, rfl, (Nat.le_of_ble_eq_true rfl), ?_⟩
      refine mj_T.pl rfl rfl rfl rfl ?_
      exact mj_T.ret rfl rfl rfl ⟨3, 0, y2 0, ⟨by decide, by decide⟩, rfl, fun q => absurd q (by decide), y1⟩
    · subst hi
      refine Or.inr ⟨7, 33, rfl, (Nat.le_of_ble_eq_true rfl), ?_⟩
      refine mj_T.pl rfl rfl rfl rfl ?_
      exact mj_T.ret rfl rfl rfl ⟨4, 0, y2 0, ⟨by decide, by decide⟩, rfl, fun q => absurd q (by decide), y1⟩
theorem jz_337 {p1 : Int} (w : jLw cK cL cR 571 n tm h) (rp1 : -2147483648 ≤ p1 ∧ p1 ≤ 2147483647) (c : mj_Ok 59 133 [.ref 1, .int (jn p1)] h (fun r => yZ Φ r.2 ∧ cA (fun k => if k = 0 then 1 else 2) A r)) : mj_Ok 60 337 [.ref 1, .int (jn p1), .ref 571] h (oA A Φ) := by
  have hg : h.length ≤ n := Nat.le_of_eq w.1.1
  refine mj_Ok.of (M := mj_m337) (loc := [some (.ref 1), some (.int (jn p1)), some (.ref 571), none]) rfl rfl rfl ?_
  iterate 4 refine mj_T.pl rfl rfl rfl rfl ?_
  refine mj_T.call rfl rfl (Nat.le_of_ble_eq_true rfl) (Nat.le_of_ble_eq_true rfl) (jrv_of w.1 cK4.1 (by decide) rfl (by decide) rfl _) rfl ((mj_Ok.up (by decide) (jc_133 (D := 0) cTY hg w.1 cK4.1 rp1)).and c) (fun v h1 hq => ?_) (fun i h1 hq => ?_)
  · obtain ⟨⟨_, o1⟩, y1, z, jz, rfl, az⟩ := hq
    obtain ⟨_, _, f, hf⟩ := w.thr o1
    refine mj_T.i2l rfl jz ?_
    refine jcx.lastv hf rfl (fun e ce => ?_)
    iterate 2 refine mj_T.pl rfl rfl rfl rfl ?_
    exact mj_T.ret rfl rfl rfl ⟨0, z, az, ⟨by decide, by decide⟩, rfl, fun _ => ⟨⟨by have := jz.1; omega, by have := jz.2; omega⟩, ce⟩, yZ.set y1⟩
  · obtain ⟨⟨hi, o1⟩, y1, y2⟩ := hq
    simp only [List.mem_cons, List.not_mem_nil, or_false] at hi
    rcases hi with hi | hi
    · subst hi
      refine Or.inr ⟨3, 13, rfl, (Nat.le_of_ble_eq_true rfl), ?_⟩
      refine mj_T.pl rfl rfl rfl rfl ?_
      exact mj_T.ret rfl rfl rfl ⟨1, 0, y2 0, ⟨by decide, by decide⟩, rfl, fun q => absurd q (by decide), y1⟩
    · subst hi
      refine Or.inr ⟨3, 16, rfl, (Nat.le_of_ble_eq_true rfl), ?_⟩
      refine mj_T.pl rfl rfl rfl rfl ?_
      exact mj_T.ret rfl rfl rfl ⟨2, 0, y2 0, ⟨by decide, by decide⟩, rfl, fun q => absurd q (by decide), y1⟩
theorem jz_338 {p1 : Int} {p2 : Int} {p3 : Int} (w : jLw cK cL cR 571 n tm h) (rp1 : -2147483648 ≤ p1 ∧ p1 ≤ 2147483647) (rp2 : -2147483648 ≤ p2 ∧ p2 ≤ 2147483647) (rp3 : -2147483648 ≤ p3 ∧ p3 ≤ 2147483647) (c : mj_Ok 59 134 [.ref 1, .int (jn p1), .int (jn p2), .int (jn p3)] h (fun r => yZ Φ r.2 ∧ cA (fun k => if k = 0 then 1 else if k = 2 then 2 else 3) A r)) : mj_Ok 60 338 [.ref 1, .int (jn p1), .int (jn p2), .int (jn p3), .ref 571] h (oA A Φ) := by
  have hg : h.length ≤ n := Nat.le_of_eq w.1.1
  refine mj_Ok.of (M := mj_m338) (loc := [some (.ref 1), some (.int (jn p1)), some (.int (jn p2)), some (.int (jn p3)), some (.ref 571), none]) rfl rfl rfl ?_
  iterate 6 refine mj_T.pl rfl rfl rfl rfl ?_
  refine mj_T.call rfl rfl (Nat.le_of_ble_eq_true rfl) (Nat.le_of_ble_eq_true rfl) (jrv_of w.1 cK4.1 (by decide) rfl (by decide) rfl _) rfl ((mj_Ok.up (by decide) (jc_134 (D := 0) cTY hg w.1 cK4.1 rp1 rp2 rp3)).and c) (fun v h1 hq => ?_) (fun i h1 hq => ?_)
  · obtain ⟨⟨_, o1⟩, y1, z, jz, rfl, az⟩ := hq
    obtain ⟨_, _, f, hf⟩ := w.thr o1
    refine mj_T.i2l rfl jz ?_
    refine jcx.lastv hf rfl (fun e ce => ?_)
    iterate 2 refine mj_T.pl rfl rfl rfl rfl ?_
    exact mj_T.ret rfl rfl rfl ⟨0, z, az, ⟨by decide, by decide⟩, rfl, fun _ => ⟨⟨by have := jz.1; omega, by have := jz.2; omega⟩, ce⟩, yZ.set y1⟩
  · obtain ⟨⟨hi, o1⟩, y1, y2⟩ := hq
    simp only [List.mem_cons, List.not_mem_nil, or_false] at hi
    rcases hi with hi | hi | hi
    · subst hi
      refine Or.inr ⟨5, 17, rfl, (Nat.le_of_ble_eq_true rfl), ?_⟩
      refine mj_T.pl rfl rfl rfl rfl ?_
      exact mj_T.ret rfl rfl rfl ⟨1, 0, y2 0, ⟨by decide, by decide⟩, rfl, fun q => absurd q (by decide), y1⟩
    · subst hi
      refine Or.inr ⟨5, 21, rfl, (Nat.le_of_ble_eq_true rfl), ?_⟩
      refine mj_T.pl rfl rfl rfl rfl ?_
      exact mj_T.ret rfl rfl rfl ⟨2, 0, y2 0, ⟨by decide, by decide⟩, rfl, fun q => absurd q (by decide), y1⟩
    · subst hi
      refine Or.inr ⟨5, 25, rfl, (Nat.le_of_ble_eq_true rfl), ?_⟩
      refine mj_T.pl rfl rfl rfl rfl ?_
      exact mj_T.ret rfl rfl rfl ⟨3, 0, y2 0, ⟨by decide, by decide⟩, rfl, fun q => absurd q (by decide), y1⟩
theorem jz_339 {p1 : Int} {p2 : Int} {p3 : Int} (w : jLw cK cL cR 571 n tm h) (rp1 : -2147483648 ≤ p1 ∧ p1 ≤ 2147483647) (rp2 : -2147483648 ≤ p2 ∧ p2 ≤ 2147483647) (rp3 : -2147483648 ≤ p3 ∧ p3 ≤ 2147483647) (c : mj_Ok 59 135 [.ref 1, .int (jn p1), .int (jn p2), .int (jn p3)] h (fun r => yZ Φ r.2 ∧ cA (fun k => if k = 0 then 1 else 2) A r)) : mj_Ok 60 339 [.ref 1, .int (jn p1), .int (jn p2), .int (jn p3), .ref 571] h (oA A Φ) := by
  have hg : h.length ≤ n := Nat.le_of_eq w.1.1
  refine mj_Ok.of (M := mj_m339) (loc := [some (.ref 1), some (.int (jn p1)), some (.int (jn p2)), some (.int (jn p3)), some (.ref 571), none]) rfl rfl rfl ?_
  iterate 6 refine mj_T.pl rfl rfl rfl rfl ?_
  refine mj_T.call rfl rfl (Nat.le_of_ble_eq_true rfl) (Nat.le_of_ble_eq_true rfl) (jrv_of w.1 cK4.1 (by decide) rfl (by decide) rfl _) rfl ((mj_Ok.up (by decide) (jc_135 (D := 0) cTY hg w.1 cK4.1 rp1 rp2 rp3)).and c) (fun v h1 hq => ?_) (fun i h1 hq => ?_)
  · obtain ⟨⟨_, o1⟩, y1, z, jz, rfl, az⟩ := hq
    obtain ⟨_, _, f, hf⟩ := w.thr o1
    refine mj_T.i2l rfl jz ?_
    refine jcx.lastv hf rfl (fun e ce => ?_)
    iterate 2 refine mj_T.pl rfl rfl rfl rfl ?_
    exact mj_T.ret rfl rfl rfl ⟨0, z, az, ⟨by decide, by decide⟩, rfl, fun _ => ⟨⟨by have := jz.1; omega, by have := jz.2; omega⟩, ce⟩, yZ.set y1⟩
  · obtain ⟨⟨hi, o1⟩, y1, y2⟩ := hq
    simp only [List.mem_cons, List.not_mem_nil, or_false] at hi
    rcases hi with hi | hi
    · subst hi
      refine Or.inr ⟨5, 17, rfl, (Nat.le_of_ble_eq_true rfl), ?_⟩
      refine mj_T.pl rfl rfl rfl rfl ?_
      exact mj_T.ret rfl rfl rfl ⟨1, 0, y2 0, ⟨by decide, by decide⟩, rfl, fun q => absurd q (by decide), y1⟩
    · subst hi
      refine Or.inr ⟨5, 21, rfl, (Nat.le_of_ble_eq_true rfl), ?_⟩
      refine mj_T.pl rfl rfl rfl rfl ?_
      exact mj_T.ret rfl rfl rfl ⟨2, 0, y2 0, ⟨by decide, by decide⟩, rfl, fun q => absurd q (by decide), y1⟩
theorem jz_340 {p1 : Int} (w : jLw cK cL cR 571 n tm h) (rp1 : -2147483648 ≤ p1 ∧ p1 ≤ 2147483647) (c : mj_Ok 59 136 [.ref 1, .int (jn p1)] h (fun r => yZ Φ r.2 ∧ cA (fun k => if k = 0 then 1 else 2) A r)) : mj_Ok 60 340 [.ref 1, .int (jn p1), .ref 571] h (oA A Φ) := by
  have hg : h.length ≤ n := Nat.le_of_eq w.1.1
  refine mj_Ok.of (M := mj_m340) (loc := [some (.ref 1), some (.int (jn p1)), some (.ref 571), none]) rfl rfl rfl ?_
  iterate 4 refine mj_T.pl rfl rfl rfl rfl ?_
  refine mj_T.call rfl rfl (Nat.le_of_ble_eq_true rfl) (Nat.le_of_ble_eq_true rfl) (jrv_of w.1 cK4.1 (by decide) rfl (by decide) rfl _) rfl ((mj_Ok.up (by decide) (jc_136 (D := 0) cTY hg w.1 cK4.1 rp1)).and c) (fun v h1 hq => ?_) (fun i h1 hq => ?_)
  · obtain ⟨⟨_, o1⟩, y1, z, jz, rfl, az⟩ := hq
    obtain ⟨_, _, f, hf⟩ := w.thr o1
    refine mj_T.i2l rfl jz ?_
    refine jcx.lastv hf rfl (fun e ce => ?_)
    iterate 2 refine mj_T.pl rfl rfl rfl rfl ?_
    exact mj_T.ret rfl rfl rfl ⟨0, z, az, ⟨by decide, by decide⟩, rfl, fun _ => ⟨⟨by have := jz.1; omega, by have := jz.2; omega⟩, ce⟩, yZ.set y1⟩
  · obtain ⟨⟨hi, o1⟩, y1, y2⟩ := hq
    simp only [List.mem_cons, List.not_mem_nil, or_false] at hi
    rcases hi with hi | hi
    · subst hi
      refine Or.inr ⟨3, 13, rfl, (Nat.le_of_ble_eq_true rfl), ?_⟩
      refine mj_T.pl rfl rfl rfl rfl ?_
      exact mj_T.ret rfl rfl rfl ⟨1, 0, y2 0, ⟨by decide, by decide⟩, rfl, fun q => absurd q (by decide), y1⟩
    · subst hi
      refine Or.inr ⟨3, 16, rfl, (Nat.le_of_ble_eq_true rfl), ?_⟩
      refine mj_T.pl rfl rfl rfl rfl ?_
      exact mj_T.ret rfl rfl rfl ⟨2, 0, y2 0, ⟨by decide, by decide⟩, rfl, fun q => absurd q (by decide), y1⟩
theorem jz_341 {p1 : Int} {p2 : Int} (w : jLw cK cL cR 571 n tm h) (rp1 : -2147483648 ≤ p1 ∧ p1 ≤ 2147483647) (rp2 : -2147483648 ≤ p2 ∧ p2 ≤ 2147483647) (c : mj_Ok 59 137 [.ref 1, .int (jn p1), .int (jn p2)] h (fun r => yZ Φ r.2 ∧ cA (fun k => 1) A r)) : mj_Ok 60 341 [.ref 1, .int (jn p1), .int (jn p2), .ref 571] h (oA A Φ) := by
  have hg : h.length ≤ n := Nat.le_of_eq w.1.1
  refine mj_Ok.of (M := mj_m341) (loc := [some (.ref 1), some (.int (jn p1)), some (.int (jn p2)), some (.ref 571), none]) rfl rfl rfl ?_
  iterate 5 refine mj_T.pl rfl rfl rfl rfl ?_
  refine mj_T.call rfl rfl (Nat.le_of_ble_eq_true rfl) (Nat.le_of_ble_eq_true rfl) (jrv_of w.1 cK4.1 (by decide) rfl (by decide) rfl _) rfl ((mj_Ok.up (by decide) (jc_137 (D := 0) cTY hg w.1 cK4.1 rp1 rp2)).and c) (fun v h1 hq => ?_) (fun i h1 hq => ?_)
  · obtain ⟨⟨_, o1⟩, y1, z, jz, rfl, az⟩ := hq
    obtain ⟨_, _, f, hf⟩ := w.thr o1
    refine mj_T.i2l rfl jz ?_
    refine jcx.lastv hf rfl (fun e ce => ?_)
    iterate 2 refine mj_T.pl rfl rfl rfl rfl ?_
    exact mj_T.ret rfl rfl rfl ⟨0, z, az, ⟨by decide, by decide⟩, rfl, fun _ => ⟨⟨by have := jz.1; omega, by have := jz.2; omega⟩, ce⟩, yZ.set y1⟩
  · obtain ⟨⟨hi, o1⟩, y1, y2⟩ := hq
    simp only [List.mem_cons, List.not_mem_nil, or_false] at hi
    · subst hi
      refine Or.inr ⟨4, 15, rfl, (Nat.le_of_ble_eq_true rfl), ?_⟩
      refine mj_T.pl rfl rfl rfl rfl ?_
      exact mj_T.ret rfl rfl rfl ⟨1, 0, y2 0, ⟨by decide, by decide⟩, rfl, fun q => absurd q (by decide), y1⟩
theorem jz_342 {p1 : Int} {p2 : Int} (w : jLw cK cL cR 571 n tm h) (rp1 : -2147483648 ≤ p1 ∧ p1 ≤ 2147483647) (rp2 : -2147483648 ≤ p2 ∧ p2 ≤ 2147483647) (c : mj_Ok 59 138 [.ref 1, .int (jn p1), .int (jn p2)] h (fun r => yZ Φ r.2 ∧ cA (fun k => if k = 0 then 1 else 2) A r)) : mj_Ok 60 342 [.ref 1, .int (jn p1), .int (jn p2), .ref 571] h (oA A Φ) := by
  have hg : h.length ≤ n := Nat.le_of_eq w.1.1
  refine mj_Ok.of (M := mj_m342) (loc := [some (.ref 1), some (.int (jn p1)), some (.int (jn p2)), some (.ref 571), none]) rfl rfl rfl ?_
  iterate 5 refine mj_T.pl rfl rfl rfl rfl ?_
  refine mj_T.call rfl rfl (Nat.le_of_ble_eq_true rfl) (Nat.le_of_ble_eq_true rfl) (jrv_of w.1 cK4.1 (by decide) rfl (by decide) rfl _) rfl ((mj_Ok.up (by decide) (mj_Ok.to (jc_138 (D := 0) cTY hg w.1 cK4.1 rp1 rp2) (fun _ k => jQp.toQ w.1 k))).and c) (fun v h1 hq => ?_) (fun i h1 hq => ?_)
  · obtain ⟨⟨_, o1⟩, y1, z, jz, rfl, az⟩ := hq
    obtain ⟨_, _, f, hf⟩ := w.thr o1
    refine mj_T.i2l rfl jz ?_
    refine jcx.lastv hf rfl (fun e ce => ?_)
    iterate 2 refine mj_T.pl rfl rfl rfl rfl ?_
    exact mj_T.ret rfl rfl rfl ⟨0, z, az, ⟨by decide, by decide⟩, rfl, fun _ => ⟨⟨by have := jz.1; omega, by have := jz.2; omega⟩, ce⟩, yZ.set y1⟩
  · obtain ⟨⟨hi, o1⟩, y1, y2⟩ := hq
    simp only [List.mem_cons, List.not_mem_nil, or_false] at hi
    rcases hi with hi | hi
    · subst hi
      refine Or.inr ⟨4, 15, rfl, (Nat.le_of_ble_eq_true rfl), ?_⟩
      refine mj_T.pl rfl rfl rfl rfl ?_
      exact mj_T.ret rfl rfl rfl ⟨1, 0, y2 0, ⟨by decide, by decide⟩, rfl, fun q => absurd q (by decide), y1⟩
    · subst hi
      refine Or.inr ⟨4, 19, rfl, (Nat.le_of_ble_eq_true rfl), ?_⟩
      refine mj_T.pl rfl rfl rfl rfl ?_
      exact mj_T.ret rfl rfl rfl ⟨2, 0, y2 0, ⟨by decide, by decide⟩, rfl, fun q => absurd q (by decide), y1⟩
theorem jz_343 {p1 : Int} {p2 : Int} (w : jLw cK cL cR 571 n tm h) (rp1 : -2147483648 ≤ p1 ∧ p1 ≤ 2147483647) (rp2 : -2147483648 ≤ p2 ∧ p2 ≤ 2147483647) (c : mj_Ok 59 139 [.ref 1, .int (jn p1), .int (jn p2)] h (fun r => yZ Φ r.2 ∧ cA (fun k => if k = 0 then 1 else if k = 2 then 2 else 3) A r)) : mj_Ok 60 343 [.ref 1, .int (jn p1), .int (jn p2), .ref 571] h (oA A Φ) := by
  have hg : h.length ≤ n := Nat.le_of_eq w.1.1
  refine mj_Ok.of (M := mj_m343) (loc := [some (.ref 1), some (.int (jn p1)), some (.int (jn p2)), some (.ref 571), none]) rfl rfl rfl ?_
  iterate 5 refine mj_T.pl rfl rfl rfl rfl ?_
  refine mj_T.call rfl rfl (Nat.le_of_ble_eq_true rfl) (Nat.le_of_ble_eq_true rfl) (jrv_of w.1 cK4.1 (by decide) rfl (by decide) rfl _) rfl ((mj_Ok.up (by decide) (mj_Ok.to (jc_139 (D := 0) cTY hg w.1 cK4.1 rp1 rp2) (fun _ k => jQp.toQ w.1 k))).and c) (fun v h1 hq => ?_) (fun i h1 hq => ?_)
  · obtain ⟨⟨_, o1⟩, y1, z, jz, rfl, az⟩ := hq
    obtain ⟨_, _, f, hf⟩ := w.thr o1
    refine mj_T.i2l rfl jz ?_
    refine jcx.lastv hf rfl (fun e ce => ?_)
    iterate 2 refine mj_T.pl rfl rfl rfl rfl ?_
    exact mj_T.ret rfl rfl rfl ⟨0, z, az, ⟨by decide, by decide⟩, rfl, fun _ => ⟨⟨by have := jz.1; omega, by have := jz.2; omega⟩, ce⟩, yZ.set y1⟩
  · obtain ⟨⟨hi, o1⟩, y1, y2⟩ := hq
    simp only [List.mem_cons, List.not_mem_nil, or_false] at hi
    rcases hi with hi | hi | hi
    · subst hi
      refine Or.inr ⟨4, 15, rfl, (Nat.le_of_ble_eq_true rfl), ?_⟩
      refine mj_T.pl rfl rfl rfl rfl ?_
      exact mj_T.ret rfl rfl rfl ⟨1, 0, y2 0, ⟨by decide, by decide⟩, rfl, fun q => absurd q (by decide), y1⟩
    · subst hi
      refine Or.inr ⟨4, 19, rfl, (Nat.le_of_ble_eq_true rfl), ?_⟩
      refine mj_T.pl rfl rfl rfl rfl ?_
      exact mj_T.ret rfl rfl rfl ⟨2, 0, y2 0, ⟨by decide, by decide⟩, rfl, fun q => absurd q (by decide), y1⟩
    · subst hi
      refine Or.inr ⟨4, 23, rfl, (Nat.le_of_ble_eq_true rfl), ?_⟩
      refine mj_T.pl rfl rfl rfl rfl ?_
      exact mj_T.ret rfl rfl rfl ⟨3, 0, y2 0, ⟨by decide, by decide⟩, rfl, fun q => absurd q (by decide), y1⟩
theorem jz_345 {p1 : Int} (w : jLw cK cL cR 571 n tm h) (rp1 : -2147483648 ≤ p1 ∧ p1 ≤ 2147483647) (c : mj_Ok 59 144 [.ref 1, .int (jn p1)] h (fun r => yZ Φ r.2 ∧ cA (fun k => 1) A r)) : mj_Ok 60 345 [.ref 1, .int (jn p1), .ref 571] h (oA A Φ) := by
  have hg : h.length ≤ n := Nat.le_of_eq w.1.1
  refine mj_Ok.of (M := mj_m345) (loc := [some (.ref 1), some (.int (jn p1)), some (.ref 571), none]) rfl rfl rfl ?_
  iterate 4 refine mj_T.pl rfl rfl rfl rfl ?_
  refine mj_T.call rfl rfl (Nat.le_of_ble_eq_true rfl) (Nat.le_of_ble_eq_true rfl) (jrv_of w.1 cK4.1 (by decide) rfl (by decide) rfl _) rfl ((mj_Ok.up (by decide) (jc_144 (D := 0) cTY hg w.1 cK4.1 rp1)).and c) (fun v h1 hq => ?_) (fun i h1 hq => ?_)
  · obtain ⟨⟨_, o1⟩, y1, z, jz, rfl, az⟩ := hq
    obtain ⟨_, _, f, hf⟩ := w.thr o1
    refine mj_T.i2l rfl jz ?_
    refine jcx.lastv hf rfl (fun e ce => ?_)
    iterate 2 refine mj_T.pl rfl rfl rfl rfl ?_
    exact mj_T.ret rfl rfl rfl ⟨0, z, az, ⟨by decide, by decide⟩, rfl, fun _ => ⟨⟨by have := jz.1; omega, by have := jz.2; omega⟩, ce⟩, yZ.set y1⟩
  · obtain ⟨⟨hi, o1⟩, y1, y2⟩ := hq
    simp only [List.mem_cons, List.not_mem_nil, or_false] at hi
    · subst hi
      refine Or.inr ⟨3, 13, rfl, (Nat.le_of_ble_eq_true rfl), ?_⟩
      refine mj_T.pl rfl rfl rfl rfl ?_
      exact mj_T.ret rfl rfl rfl ⟨1, 0, y2 0, ⟨by decide, by decide⟩, rfl, fun q => absurd q (by decide), y1⟩
theorem jz_346 {p1 : Int} (w : jLw cK cL cR 571 n tm h) (rp1 : -2147483648 ≤ p1 ∧ p1 ≤ 2147483647) (c : mj_Ok 59 145 [.ref 1, .int (jn p1)] h (fun r => yZ Φ r.2 ∧ cA (fun k => 1) A r)) : mj_Ok 60 346 [.ref 1, .int (jn p1), .ref 571] h (oA A Φ) := by
  have hg : h.length ≤ n := Nat.le_of_eq w.1.1
  refine mj_Ok.of (M := mj_m346) (loc := [some (.ref 1), some (.int (jn p1)), some (.ref 571), none]) rfl rfl rfl ?_
  iterate 4 refine mj_T.pl rfl rfl rfl rfl ?_
  refine mj_T.call rfl rfl (Nat.le_of_ble_eq_true rfl) (Nat.le_of_ble_eq_true rfl) (jrv_of w.1 cK4.1 (by decide) rfl (by decide) rfl _) rfl ((mj_Ok.up (by decide) (mj_Ok.to (jc_145 (D := 0) cTY hg w.1 cK4.1 rp1) (fun _ k => jQp.toQ w.1 k))).and c) (fun v h1 hq => ?_) (fun i h1 hq => ?_)
  · obtain ⟨⟨_, o1⟩, y1, z, jz, rfl, az⟩ := hq
    obtain ⟨_, _, f, hf⟩ := w.thr o1
    refine mj_T.i2l rfl jz ?_
    refine jcx.lastv hf rfl (fun e ce => ?_)
    iterate 2 refine mj_T.pl rfl rfl rfl rfl ?_
    exact mj_T.ret rfl rfl rfl ⟨0, z, az, ⟨by decide, by decide⟩, rfl, fun _ => ⟨⟨by have := jz.1; omega, by have := jz.2; omega⟩, ce⟩, yZ.set y1⟩
  · obtain ⟨⟨hi, o1⟩, y1, y2⟩ := hq
    simp only [List.mem_cons, List.not_mem_nil, or_false] at hi
    · subst hi
      refine Or.inr ⟨3, 13, rfl, (Nat.le_of_ble_eq_true rfl), ?_⟩
      refine mj_T.pl rfl rfl rfl rfl ?_
      exact mj_T.ret rfl rfl rfl ⟨1, 0, y2 0, ⟨by decide, by decide⟩, rfl, fun q => absurd q (by decide), y1⟩
end JZL
/-! The reference's calls that change registers: what is answered and thrown. -/
def rIc (c : Int) (F : Int → Prop) (N0 : Nat → Int) (u : Nat) (H : Nat → Nat → Int) (tm er : Int) (T : Nat → Int) (r : mj_R) : Prop := ∃ (z : Int) (h' : mj_H), (jr z ∧ F z) ∧ r = (.inl (some (.int (jn z))), h') ∧ jItx N0 u H c tm er T h'
def rOc (tm er : Int) (T : Nat → Int) (N0 : Nat → Int) (u0 : Nat) (H : Nat → Nat → Int) (r : Nat) (c : Int) (w : Nat → Int) (z : mj_R) : Prop := (sml w ∧ rIc 0 (fun v => v = (fdg w 13 : Int) - 1) (jfl N0 r w 13) (upu u0) (pushH N0 H) tm er T z) ∨ (¬ sml w ∧ rIc c (fun _ => True) N0 u0 H tm er T z)
def RRc (tm er : Int) (T : Nat → Int) (N0 : Nat → Int) (u0 : Nat) (H : Nat → Nat → Int) (reg : Prop) (res : (Nat → Int) → Prop) (to : Int) (z : mj_R) : Prop := (reg ∧ ∃ w, res w ∧ rOc tm er T N0 u0 H to.toNat 2 w z) ∨ (¬ reg ∧ rIc 1 (fun _ => True) N0 u0 H tm er T z)
def RPc (k : Int) (cf : Int → Prop) (tm er : Int) (T : Nat → Int) (N0 : Nat → Int) (u0 : Nat) (H : Nat → Nat → Int) (reg : Prop) (P : pz_P) (to : Int) (z : mj_R) : Prop := (reg ∧ ((fit13 P ∧ ∃ w : Nat → Int, (∀ j, j < 13 → w j = P j) ∧ rIc 0 (fun v => v = (fdg w 13 : Int) - 1) (jfl N0 to.toNat w 13) (upu u0) (pushH N0 H) tm er T z) ∨ (¬ fit13 P ∧ rIc k (fun _ => True) N0 u0 H tm er T z))) ∨ (¬ reg ∧ ∃ c, cf c ∧ rIc c (fun _ => True) N0 u0 H tm er T z)
theorem fdg_jdg (V : Nat → Int) (p : Nat) : ∀ k, fdg (fun e => V (p * 13 + e)) k = jdg V p k
  | 0 => rfl
  | k + 1 => by
    unfold fdg jdg
    rw [fdg_jdg V p k]
section RAK
variable {h : mj_H} {D : Nat} {S N B X V : Nat → Int} {tm er : Int} {T : Nat → Int} {N0 : Nat → Int} {u0 : Nat} {H : Nat → Nat → Int}
theorem ra_puts {r p : Nat} {c : Int} (hr : r ≤ 5) (hp : p ≤ 50) (hc : jr c) (K : jKx N0 u0 H tm er S N B T) (hs : rS S N B T X V h) (e3 : S 3 = 0) : mj_Ok (D + 5) 229 [.ref 0, .int (jn (r : Nat)), .int (jn (p : Nat)), .int (jn c)] h (rOc tm er T N0 u0 H r c (fun e => V (p * 13 + e))) := by
  have hd := jdg_le V p 13
  refine mj_Ok.of (M := mj_m229) rfl rfl rfl ?_
  iterate 2 refine mj_T.pl rfl rfl rfl rfl ?_
  refine mj_T.call (ins := .invokevirtual 195) rfl rfl (Nat.le_of_ble_eq_true rfl) (Nat.le_of_ble_eq_true rfl) (by simp [mj_recv, rS_f hs]) rfl (jp_isInBounds (D := D + 2) (rG S N B T X) (p := p) hp (fun e he => jS_700 hs (by omega)) hs) (fun v' h' hq' => ?_) (fun i h' hq' => by cases hq')
  cases hq'
  have hb := jib_le V p 13
  refine mj_T.if0 (a := ((jib V p 13 : Nat) : Int)) rfl ⟨by omega, by omega⟩ (fun hc1 => ?_) (fun hc1 => ?_)
  · simp only [jc, Bool.not_eq_true', decide_eq_false_iff_not] at hc1
    have h2 := jib_one (V := V) (p := p) 13 (by omega)
    have h3 : ∀ e, e < 13 → -999999999999999999 ≤ V (p * 13 + e) ∧ V (p * 13 + e) ≤ 999999999999999999 := fun e he => by
      have k1 := jnl_le_lt.mp (h2 e he)
      rw [show jB ^ 2 = 1000000000000000000 from rfl] at k1
      omega
    refine mj_T.pl rfl rfl rfl rfl ?_
    refine mj_T.call (ins := .invokevirtual 201) rfl rfl (Nat.le_of_ble_eq_true rfl) (Nat.le_of_ble_eq_true rfl) (by simp [mj_recv, rS_f hs]) rfl (rx_keeps (D := D + 3) K hs) (fun v' h1 hq' => ?_) (fun i h' hq' => by obtain ⟨_, _, _, _, _, _, h⟩ := hq'; cases h)
    obtain ⟨S', B', _, hs1, K1, k1, hq'⟩ := hq'
    cases hq'
    iterate 3 refine mj_T.pl rfl rfl rfl rfl ?_
    refine mj_T.call (ins := .invokevirtual 204) rfl rfl (Nat.le_of_ble_eq_true rfl) (Nat.le_of_ble_eq_true rfl) (by simp [mj_recv, rS_f hs1]) rfl (rp_stores (D := D) (p := p) (r := r) hp hr hs1) (fun v' h2 hq' => ?_) (fun i h' hq' => by obtain ⟨_, _, h⟩ := hq'; cases h)
    obtain ⟨_, hs2, hq'⟩ := hq'
    cases hq'
    iterate 2 refine mj_T.pl rfl rfl rfl rfl ?_
    refine mj_T.call (ins := .invokevirtual 114) rfl rfl (Nat.le_of_ble_eq_true rfl) (Nat.le_of_ble_eq_true rfl) (by simp [mj_recv, rS_f hs2]) rfl (jp_degreeOf (D := D + 2) (rG S' (jfl N r (fun e => V (p * 13 + e)) 13) B' T X) (p := p) hp hs2) (fun v' h' hq' => ?_) (fun i h' hq' => by cases hq')
    cases hq'
    exact mj_T.ret rfl rfl rfl (Or.inl ⟨fun e he => by have := h3 e he; show (V (p * 13 + e)).natAbs ≤ 999999999999999999; omega, _, h2, ⟨⟨by omega, by omega⟩, by rw [fdg_jdg]⟩, rfl, ⟨S', _, B', X, V, hs2, K1.row (gN_row K.1.1 hr h3) (jfl_cg K.2.1 r _), k1.trans e3⟩⟩)
  simp only [jc, Bool.not_eq_false', decide_eq_true_eq] at hc1
  have hno : ¬ sml (fun e => V (p * 13 + e)) := fun q => jib_no (V := V) (p := p) 13 (by omega) (fun e he => jnl_two.mpr (q e he))
  iterate 2 refine mj_T.pl rfl rfl rfl rfl ?_
  refine mj_T.call (ins := .invokevirtual 198) rfl rfl (Nat.le_of_ble_eq_true rfl) (Nat.le_of_ble_eq_true rfl) (by simp [mj_recv, rS_f hs]) rfl (rp_fails (D := D + 3) (c := c) hs) (fun v' h1 hq' => ?_) (fun i h' hq' => by obtain ⟨_, _, h⟩ := hq'; cases h)
  obtain ⟨_, hs1, hq'⟩ := hq'
  cases hq'
  exact mj_T.ret rfl rfl rfl (Or.inr ⟨hno, 0, h1, ⟨⟨by decide, by decide⟩, trivial⟩, rfl, ⟨_, N, B, X, V, hs1, K.put hc (by decide) (by decide) (by decide) (by decide) (by decide), jvu_at _ _ _⟩⟩)
end RAK
section RAS
variable {h : mj_H} {tm er : Int} {T : Nat → Int} {N0 : Nat → Int} {u0 : Nat} {H : Nat → Nat → Int}
theorem ra_sums {x y z : Int} (hx : jr x) (hy : jr y) (hz : jr z) {f : Int} (hf : f = 1 ∨ f = -1) (hI : jIx N0 u0 H tm er T h) : mj_Ok 40 232 [.ref 0, .int (jn x), .int (jn y), .int (jn z), .int (jn f)] h (RRc tm er T N0 u0 H ((0 ≤ x ∧ x ≤ 5) ∧ (0 ≤ y ∧ y ≤ 5) ∧ (0 ≤ z ∧ z ≤ 5)) (fun w => ∀ j, j < 13 → w j = sumN N0 f y z j) x) := by
  refine mj_Ok.of (M := mj_m232) rfl rfl rfl ?_
  obtain ⟨S, N, B, X, V, hs, K⟩ := hI
  iterate 2 refine mj_T.pl rfl rfl rfl rfl ?_
  refine rT_put (v := 0) hs rfl rfl (by decide) rfl (fun g1 hs1 => ?_)
  have K1 := K.put (k := 3) (v := 0) ⟨by decide, by decide⟩ (by decide) (by decide) (by decide) (by decide) (by decide)
  have e1 : jvu S 3 0 3 = 0 := jvu_at S 3 0
  generalize jvu S 3 0 = S1 at hs1 K1 e1
  iterate 3 refine mj_T.pl rfl rfl rfl rfl ?_
  refine mj_T.call (ins := .invokestatic 210) rfl rfl (Nat.le_of_ble_eq_true rfl) (Nat.le_of_ble_eq_true rfl) rfl rfl (mj_Ok.up (by decide) (rx_areRegisters (D := 0) hx hy hz)) (fun v' h' hq' => ?_) (fun i h' hq' => by rcases hq' with ⟨_, _, h⟩ | ⟨_, h⟩ <;> cases h)
  rcases hq' with ⟨⟨x1, x2⟩, ⟨y3, y4, z5, z6⟩, hq'⟩ | ⟨hno, hq'⟩
  case' inr =>
    cases hq'
    refine mj_T.if0 (a := 0) rfl ⟨by decide, by decide⟩ (fun hc => ?_) (fun hc => ?_)
    · simp [jc] at hc
    iterate 2 refine mj_T.pl rfl rfl rfl rfl ?_
    refine mj_T.call (ins := .invokevirtual 198) rfl rfl (Nat.le_of_ble_eq_true rfl) (Nat.le_of_ble_eq_true rfl) (by simp [mj_recv, rS_f hs1]) rfl (mj_Ok.up (by decide) (rp_fails (D := 0) (c := 1) hs1)) (fun v' g2 hq' => ?_) (fun i h' hq' => by obtain ⟨_, _, h⟩ := hq'; cases h)
    obtain ⟨_, hs2, hq'⟩ := hq'
    cases hq'
    exact mj_T.ret rfl rfl rfl (Or.inr ⟨hno, 0, g2, ⟨⟨by decide, by decide⟩, trivial⟩, rfl, ⟨_, N, B, X, V, hs2, K1.put ⟨by decide, by decide⟩ (by decide) (by decide) (by decide) (by decide) (by decide), jvu_at _ _ _⟩⟩)
  cases hq'
  refine mj_T.if0 (a := 1) rfl ⟨by decide, by decide⟩ (fun hc => ?_) (fun hc => ?_)
  rotate_left
  · simp [jc] at hc
  obtain ⟨x, rfl⟩ := Int.eq_ofNat_of_zero_le x1
  obtain ⟨y, rfl⟩ := Int.eq_ofNat_of_zero_le y3
  obtain ⟨z, rfl⟩ := Int.eq_ofNat_of_zero_le z5
  iterate 3 refine mj_T.pl rfl rfl rfl rfl ?_
  refine mj_T.call (ins := .invokevirtual 213) rfl rfl (Nat.le_of_ble_eq_true rfl) (Nat.le_of_ble_eq_true rfl) (by simp [mj_recv, rS_f hs1]) rfl (mj_Ok.up (by decide) (rp_loads (D := 0) (p := 0) (r := y) (by decide) (by omega) K1.nR hs1)) (fun v' g3 hq' => ?_) (fun i h' hq' => by obtain ⟨_, _, h⟩ := hq'; cases h)
  obtain ⟨_, hs3, hq'⟩ := hq'
  cases hq'
  have a3 : ∀ e, e < 13 → jfl V 0 (fun e => N (y * 13 + e)) 13 (0 * 13 + e) = N (y * 13 + e) := fun e he => jfl_at _ _ _ he
  have b3 : ∀ s, (s < 0 * 13 ∨ 0 * 13 + 13 ≤ s) → jfl V 0 (fun e => N (y * 13 + e)) 13 s = V s := fun s hc => jfl_off _ _ _ hc
  generalize jfl V 0 (fun e => N (y * 13 + e)) 13 = W3 at hs3 a3 b3
  iterate 3 refine mj_T.pl rfl rfl rfl rfl ?_
  refine mj_T.call (ins := .invokevirtual 213) rfl rfl (Nat.le_of_ble_eq_true rfl) (Nat.le_of_ble_eq_true rfl) (by simp [mj_recv, rS_f hs3]) rfl (mj_Ok.up (by decide) (rp_loads (D := 0) (p := 1) (r := z) (by decide) (by omega) K1.nR hs3)) (fun v' g4 hq' => ?_) (fun i h' hq' => by obtain ⟨_, _, h⟩ := hq'; cases h)
  obtain ⟨_, hs4, hq'⟩ := hq'
  cases hq'
  have a4 : ∀ e, e < 13 → jfl W3 1 (fun e => N (z * 13 + e)) 13 (1 * 13 + e) = N (z * 13 + e) := fun e he => jfl_at _ _ _ he
  have b4 : ∀ s, (s < 1 * 13 ∨ 1 * 13 + 13 ≤ s) → jfl W3 1 (fun e => N (z * 13 + e)) 13 s = W3 s := fun s hc => jfl_off _ _ _ hc
  generalize jfl W3 1 (fun e => N (z * 13 + e)) 13 = W4 at hs4 a4 b4
  have c0 : ∀ e, e < 13 → (W4 (0 * 13 + e) + f * W4 (1 * 13 + e)).natAbs ≤ 10 ^ 18 + 10 ^ 18 := fun e he => by
    rw [a4 e he, b4 _ (by omega), a3 e he]
    have h1 := K1.sh (r := y) (e := e) (by omega) he
    have h2 := K1.sh (r := z) (e := e) (by omega) he
    rcases hf with q | q <;> subst q <;> omega
  iterate 5 refine mj_T.pl rfl rfl rfl rfl ?_
  refine mj_T.call (ins := .invokevirtual 216) rfl rfl (Nat.le_of_ble_eq_true rfl) (Nat.le_of_ble_eq_true rfl) (by simp [mj_recv, rS_f hs4]) rfl (mj_Ok.up (by decide) (jp_addsPoly (D := 0) (rG S1 N B T X) (p := 0) (a := 0) (b := 1) (f := f) (by decide) (by decide) (by decide) hf (fun e he => jnl_of_lt (c0 e he) rp_small) hs4)) (fun v' g5 hq' => ?_) (fun i h' hq' => by obtain ⟨_, _, h⟩ := hq'; cases h)
  obtain ⟨_, hs5, hq'⟩ := hq'
  cases hq'
  iterate 4 refine mj_T.pl rfl rfl rfl rfl ?_
  refine mj_T.call (ins := .invokevirtual 219) rfl rfl (Nat.le_of_ble_eq_true rfl) (Nat.le_of_ble_eq_true rfl) (by simp [mj_recv, rS_f hs5]) rfl (mj_Ok.up (by decide) (ra_puts (D := 0) (r := x) (p := 0) (c := 2) (by omega) (by decide) ⟨by decide, by decide⟩ K1 hs5 e1)) (fun v' h' hq' => ?_) (fun i h' hq' => by rcases hq' with ⟨_, _, _, _, h, _⟩ | ⟨_, _, _, _, h, _⟩ <;> cases h)
  have hN : ∀ r e, r ≤ 5 → e < 13 → N (r * 13 + e) = rwN N0 (r : Int) e := fun r e hr he => by
    show _ = if e < 13 then N0 ((r : Int).toNat * 13 + e) else 0
    rw [if_pos he, Int.toNat_natCast]
    exact K1.2.1 _ (by omega)
  have hres : ∀ j, j < 13 → (fun e => (jfl W4 0 (fun e => W4 (0 * 13 + e) + f * W4 (1 * 13 + e)) 13) (0 * 13 + e)) j = sumN N0 f (y : Int) (z : Int) j := fun j hj => by
    show (jfl W4 0 (fun e => W4 (0 * 13 + e) + f * W4 (1 * 13 + e)) 13) (0 * 13 + j) = rwN N0 (y : Int) j + f * rwN N0 (z : Int) j
    rw [jfl_at _ _ _ hj, a4 j hj, b4 _ (by omega), a3 j hj, hN y j (by omega) hj, hN z j (by omega) hj]
  rcases hq' with ⟨hs9, z9, h9, hz9, e9, hI9⟩ | ⟨hs9, z9, h9, hz9, e9, hI9⟩
  · cases e9
    exact mj_T.ret rfl rfl rfl (Or.inl ⟨⟨⟨by omega, by omega⟩, ⟨by omega, by omega⟩, ⟨by omega, by omega⟩⟩, _, hres, Or.inl ⟨hs9, z9, _, hz9, rfl, hI9⟩⟩)
  · cases e9
    exact mj_T.ret rfl rfl rfl (Or.inl ⟨⟨⟨by omega, by omega⟩, ⟨by omega, by omega⟩, ⟨by omega, by omega⟩⟩, _, hres, Or.inr ⟨hs9, z9, _, hz9, rfl, hI9⟩⟩)
theorem ra_add {x y z : Int} (hx : jr x) (hy : jr y) (hz : jr z) (hI : jIx N0 u0 H tm er T h) : mj_Ok 41 230 [.ref 0, .int (jn x), .int (jn y), .int (jn z)] h (RRc tm er T N0 u0 H ((0 ≤ x ∧ x ≤ 5) ∧ (0 ≤ y ∧ y ≤ 5) ∧ (0 ≤ z ∧ z ≤ 5)) (fun w => ∀ j, j < 13 → w j = sumN N0 1 y z j) x) := by
  refine mj_Ok.of (M := mj_m230) rfl rfl rfl ?_
  have hI0 := hI
  obtain ⟨S, N, B, X, V, hs, K⟩ := hI0
  iterate 5 refine mj_T.pl rfl rfl rfl rfl ?_
  refine mj_T.call (ins := .invokevirtual 207) rfl rfl (Nat.le_of_ble_eq_true rfl) (Nat.le_of_ble_eq_true rfl) (by simp [mj_recv, rS_f hs]) rfl (ra_sums (f := 1) hx hy hz (Or.inl rfl) hI) (fun v' h9 hq' => ?_) (fun i h' hq' => by rcases hq' with ⟨_, _, _, ⟨_, _, _, _, h, _⟩ | ⟨_, _, _, _, h, _⟩⟩ | ⟨_, _, _, _, h, _⟩ <;> cases h)
  rcases hq' with ⟨hr, w, hw, ⟨hs9, z9, h9, hz9, e9, hI9⟩ | ⟨hs9, z9, h9, hz9, e9, hI9⟩⟩ | ⟨hr, z9, h9, hz9, e9, hI9⟩
  · cases e9
    exact mj_T.ret rfl rfl rfl (Or.inl ⟨hr, w, hw, Or.inl ⟨hs9, z9, _, hz9, rfl, hI9⟩⟩)
  · cases e9
    exact mj_T.ret rfl rfl rfl (Or.inl ⟨hr, w, hw, Or.inr ⟨hs9, z9, _, hz9, rfl, hI9⟩⟩)
  · cases e9
    exact mj_T.ret rfl rfl rfl (Or.inr ⟨hr, z9, _, hz9, rfl, hI9⟩)
theorem ra_subtract {x y z : Int} (hx : jr x) (hy : jr y) (hz : jr z) (hI : jIx N0 u0 H tm er T h) : mj_Ok 41 231 [.ref 0, .int (jn x), .int (jn y), .int (jn z)] h (RRc tm er T N0 u0 H ((0 ≤ x ∧ x ≤ 5) ∧ (0 ≤ y ∧ y ≤ 5) ∧ (0 ≤ z ∧ z ≤ 5)) (fun w => ∀ j, j < 13 → w j = sumN N0 (-1) y z j) x) := by
  refine mj_Ok.of (M := mj_m231) rfl rfl rfl ?_
  have hI0 := hI
  obtain ⟨S, N, B, X, V, hs, K⟩ := hI0
  iterate 5 refine mj_T.pl rfl rfl rfl rfl ?_
  refine mj_T.call (ins := .invokevirtual 207) rfl rfl (Nat.le_of_ble_eq_true rfl) (Nat.le_of_ble_eq_true rfl) (by simp [mj_recv, rS_f hs]) rfl (ra_sums (f := -1) hx hy hz (Or.inr rfl) hI) (fun v' h9 hq' => ?_) (fun i h' hq' => by rcases hq' with ⟨_, _, _, ⟨_, _, _, _, h, _⟩ | ⟨_, _, _, _, h, _⟩⟩ | ⟨_, _, _, _, h, _⟩ <;> cases h)
  rcases hq' with ⟨hr, w, hw, ⟨hs9, z9, h9, hz9, e9, hI9⟩ | ⟨hs9, z9, h9, hz9, e9, hI9⟩⟩ | ⟨hr, z9, h9, hz9, e9, hI9⟩
  · cases e9
    exact mj_T.ret rfl rfl rfl (Or.inl ⟨hr, w, hw, Or.inl ⟨hs9, z9, _, hz9, rfl, hI9⟩⟩)
  · cases e9
    exact mj_T.ret rfl rfl rfl (Or.inl ⟨hr, w, hw, Or.inr ⟨hs9, z9, _, hz9, rfl, hI9⟩⟩)
  · cases e9
    exact mj_T.ret rfl rfl rfl (Or.inr ⟨hr, z9, _, hz9, rfl, hI9⟩)
theorem ra_derive {x y : Int} (hx : jr x) (hy : jr y) (hI : jIx N0 u0 H tm er T h) : mj_Ok 40 235 [.ref 0, .int (jn x), .int (jn y)] h (RRc tm er T N0 u0 H ((0 ≤ x ∧ x ≤ 5) ∧ (0 ≤ y ∧ y ≤ 5)) (fun w => ∀ j, j < 13 → w j = drN N0 y j) x) := by
  refine mj_Ok.of (M := mj_m235) rfl rfl rfl ?_
  obtain ⟨S, N, B, X, V, hs, K⟩ := hI
  iterate 2 refine mj_T.pl rfl rfl rfl rfl ?_
  refine rT_put (v := 0) hs rfl rfl (by decide) rfl (fun g14 hs14 => ?_)
  have K14 := K.put (k := 3) (v := 0) ⟨by decide, by decide⟩ (by decide) (by decide) (by decide) (by decide) (by decide)
  have e14 : jvu S 3 0 3 = 0 := jvu_at S 3 0
  generalize jvu S 3 0 = S14 at hs14 K14 e14
  iterate 3 refine mj_T.pl rfl rfl rfl rfl ?_
  refine mj_T.call (ins := .invokestatic 210) rfl rfl (Nat.le_of_ble_eq_true rfl) (Nat.le_of_ble_eq_true rfl) rfl rfl (mj_Ok.up (by decide) (rx_areRegisters (D := 0) hx hy hy)) (fun v' h' hq' => ?_) (fun i h' hq' => by rcases hq' with ⟨_, _, h⟩ | ⟨_, h⟩ <;> cases h)
  rcases hq' with ⟨⟨x1, x2⟩, ⟨y3, y4, y5, y6⟩, hq'⟩ | ⟨hno, hq'⟩
  case' inr =>
    cases hq'
    refine mj_T.if0 (a := 0) rfl ⟨by decide, by decide⟩ (fun hc => ?_) (fun hc => ?_)
    · simp [jc] at hc
    iterate 2 refine mj_T.pl rfl rfl rfl rfl ?_
    refine mj_T.call (ins := .invokevirtual 198) rfl rfl (Nat.le_of_ble_eq_true rfl) (Nat.le_of_ble_eq_true rfl) (by simp [mj_recv, rS_f hs14]) rfl (mj_Ok.up (by decide) (rp_fails (D := 0) (c := 1) hs14)) (fun v' g15 hq' => ?_) (fun i h' hq' => by obtain ⟨_, _, h⟩ := hq'; cases h)
    obtain ⟨_, hs15, hq'⟩ := hq'
    cases hq'
    exact mj_T.ret rfl rfl rfl (Or.inr ⟨fun q => hno ⟨q.1, q.2, q.2⟩, 0, g15, ⟨⟨by decide, by decide⟩, trivial⟩, rfl, ⟨_, N, B, X, V, hs15, K14.put ⟨by decide, by decide⟩ (by decide) (by decide) (by decide) (by decide) (by decide), jvu_at _ _ _⟩⟩)
  cases hq'
  refine mj_T.if0 (a := 1) rfl ⟨by decide, by decide⟩ (fun hc => ?_) (fun hc => ?_)
  rotate_left
  · simp [jc] at hc
  obtain ⟨x, rfl⟩ := Int.eq_ofNat_of_zero_le x1
  obtain ⟨y, rfl⟩ := Int.eq_ofNat_of_zero_le y3
  iterate 3 refine mj_T.pl rfl rfl rfl rfl ?_
  refine mj_T.call (ins := .invokevirtual 213) rfl rfl (Nat.le_of_ble_eq_true rfl) (Nat.le_of_ble_eq_true rfl) (by simp [mj_recv, rS_f hs14]) rfl (mj_Ok.up (by decide) (rp_loads (D := 0) (p := 0) (r := y) (by decide) (by omega) K14.nR hs14)) (fun v' g16 hq' => ?_) (fun i h' hq' => by obtain ⟨_, _, h⟩ := hq'; cases h)
  obtain ⟨_, hs16, hq'⟩ := hq'
  cases hq'
  have a16 : ∀ e, e < 13 → jfl V 0 (fun e => N (y * 13 + e)) 13 (0 * 13 + e) = N (y * 13 + e) := fun e he => jfl_at _ _ _ he
  have b16 : ∀ s, (s < 0 * 13 ∨ 0 * 13 + 13 ≤ s) → jfl V 0 (fun e => N (y * 13 + e)) 13 s = V s := fun s hc => jfl_off _ _ _ hc
  generalize jfl V 0 (fun e => N (y * 13 + e)) 13 = W16 at hs16 a16 b16
  have c1 : ∀ e, e < 13 → (W16 (0 * 13 + e)).natAbs ≤ 10 ^ 18 := fun e he => by
    rw [a16 e he]
    exact K14.sh (r := y) (by omega) he
  iterate 3 refine mj_T.pl rfl rfl rfl rfl ?_
  refine mj_T.call (ins := .invokevirtual 149) rfl rfl (Nat.le_of_ble_eq_true rfl) (Nat.le_of_ble_eq_true rfl) (by simp [mj_recv, rS_f hs16]) rfl (mj_Ok.up (by decide) (jp_derives (D := 0) (V := W16) (rG S14 N B T X) (p := 1) (a := 0) (by decide) (by decide) (by decide) (fun e he => jnl_of_lt (M := 10 ^ 18 * 13) (by rw [Int.natAbs_mul]; exact Nat.mul_le_mul (c1 (e + 1) (by omega)) (by omega)) kq_small) hs16)) (fun v' g17 hq' => ?_) (fun i h' hq' => by obtain ⟨_, _, _, _, h⟩ := hq'; cases h)
  obtain ⟨W17, _, hs17, hW, hq'⟩ := hq'
  cases hq'
  iterate 4 refine mj_T.pl rfl rfl rfl rfl ?_
  refine mj_T.call (ins := .invokevirtual 219) rfl rfl (Nat.le_of_ble_eq_true rfl) (Nat.le_of_ble_eq_true rfl) (by simp [mj_recv, rS_f hs17]) rfl (mj_Ok.up (by decide) (ra_puts (D := 0) (r := x) (p := 1) (c := 2) (by omega) (by decide) ⟨by decide, by decide⟩ K14 hs17 e14)) (fun v' h' hq' => ?_) (fun i h' hq' => by rcases hq' with ⟨_, _, _, _, h, _⟩ | ⟨_, _, _, _, h, _⟩ <;> cases h)
  have hres : ∀ j, j < 13 → (fun e => W17 (1 * 13 + e)) j = drN N0 (y : Int) j := fun j hj => by
    show W17 (1 * 13 + j) = if j < 12 then rwN N0 (y : Int) (j + 1) * ((j + 1 : Nat) : Int) else 0
    rw [hW _ (by omega), jfl_at _ _ _ hj]
    by_cases q : j < 12
    · rw [if_pos q, if_pos q]
      show W16 (0 * 13 + j + 1) * ((j + 1 : Nat) : Int) = _
      rw [show 0 * 13 + j + 1 = 0 * 13 + (j + 1) by omega, a16 (j + 1) (by omega), rwN_at K14.2.1 (by omega) (by omega)]
    · rw [if_neg q, if_neg q]
  rcases hq' with ⟨hs9, z9, h9, hz9, e9, hI9⟩ | ⟨hs9, z9, h9, hz9, e9, hI9⟩
  · cases e9
    exact mj_T.ret rfl rfl rfl (Or.inl ⟨⟨⟨by omega, by omega⟩, ⟨by omega, by omega⟩⟩, _, hres, Or.inl ⟨hs9, z9, _, hz9, rfl, hI9⟩⟩)
  · cases e9
    exact mj_T.ret rfl rfl rfl (Or.inl ⟨⟨⟨by omega, by omega⟩, ⟨by omega, by omega⟩⟩, _, hres, Or.inr ⟨hs9, z9, _, hz9, rfl, hI9⟩⟩)
theorem ra_multiply {x y z : Int} (hx : jr x) (hy : jr y) (hz : jr z) (hI : jIx N0 u0 H tm er T h) : mj_Ok 40 233 [.ref 0, .int (jn x), .int (jn y), .int (jn z)] h (RPc 2 (fun c => c = 1) tm er T N0 u0 H ((0 ≤ x ∧ x ≤ 5) ∧ (0 ≤ y ∧ y ≤ 5) ∧ (0 ≤ z ∧ z ≤ 5)) (pz_mul (rwN N0 y) (rwN N0 z)) x) := by
  refine mj_Ok.of (M := mj_m233) rfl rfl rfl ?_
  obtain ⟨S, N, B, X, V, hs, K⟩ := hI
  iterate 2 refine mj_T.pl rfl rfl rfl rfl ?_
  refine rT_put (v := 0) hs rfl rfl (by decide) rfl (fun g1 hs1 => ?_)
  have K1 := K.put (k := 3) (v := 0) ⟨by decide, by decide⟩ (by decide) (by decide) (by decide) (by decide) (by decide)
  have e1 : jvu S 3 0 3 = 0 := jvu_at S 3 0
  generalize jvu S 3 0 = S1 at hs1 K1 e1
  iterate 3 refine mj_T.pl rfl rfl rfl rfl ?_
  refine mj_T.call (ins := .invokestatic 210) rfl rfl (Nat.le_of_ble_eq_true rfl) (Nat.le_of_ble_eq_true rfl) rfl rfl (mj_Ok.up (by decide) (rx_areRegisters (D := 0) hx hy hz)) (fun v' h' hq' => ?_) (fun i h' hq' => by rcases hq' with ⟨_, _, h⟩ | ⟨_, h⟩ <;> cases h)
  rcases hq' with ⟨⟨x1, x2⟩, ⟨y3, y4, z5, z6⟩, hq'⟩ | ⟨hno, hq'⟩
  case' inr =>
    cases hq'
    refine mj_T.if0 (a := 0) rfl ⟨by decide, by decide⟩ (fun hc => ?_) (fun hc => ?_)
    · simp [jc] at hc
    iterate 2 refine mj_T.pl rfl rfl rfl rfl ?_
    refine mj_T.call (ins := .invokevirtual 198) rfl rfl (Nat.le_of_ble_eq_true rfl) (Nat.le_of_ble_eq_true rfl) (by simp [mj_recv, rS_f hs1]) rfl (mj_Ok.up (by decide) (rp_fails (D := 0) (c := 1) hs1)) (fun v' g2 hq' => ?_) (fun i h' hq' => by obtain ⟨_, _, h⟩ := hq'; cases h)
    obtain ⟨_, hs2, hq'⟩ := hq'
    cases hq'
    exact mj_T.ret rfl rfl rfl (Or.inr ⟨hno, 1, rfl, 0, g2, ⟨⟨by decide, by decide⟩, trivial⟩, rfl, ⟨_, N, B, X, V, hs2, K1.put ⟨by decide, by decide⟩ (by decide) (by decide) (by decide) (by decide) (by decide), jvu_at _ _ _⟩⟩)
  cases hq'
  refine mj_T.if0 (a := 1) rfl ⟨by decide, by decide⟩ (fun hc => ?_) (fun hc => ?_)
  rotate_left
  · simp [jc] at hc
  obtain ⟨x, rfl⟩ := Int.eq_ofNat_of_zero_le x1
  obtain ⟨y, rfl⟩ := Int.eq_ofNat_of_zero_le y3
  obtain ⟨z, rfl⟩ := Int.eq_ofNat_of_zero_le z5
  iterate 3 refine mj_T.pl rfl rfl rfl rfl ?_
  refine mj_T.call (ins := .invokevirtual 213) rfl rfl (Nat.le_of_ble_eq_true rfl) (Nat.le_of_ble_eq_true rfl) (by simp [mj_recv, rS_f hs1]) rfl (mj_Ok.up (by decide) (rp_loads (D := 0) (p := 0) (r := y) (by decide) (by omega) K1.nR hs1)) (fun v' g3 hq' => ?_) (fun i h' hq' => by obtain ⟨_, _, h⟩ := hq'; cases h)
  obtain ⟨_, hs3, hq'⟩ := hq'
  cases hq'
  have a3 : ∀ e, e < 13 → jfl V 0 (fun e => N (y * 13 + e)) 13 (0 * 13 + e) = N (y * 13 + e) := fun e he => jfl_at _ _ _ he
  have b3 : ∀ s, (s < 0 * 13 ∨ 0 * 13 + 13 ≤ s) → jfl V 0 (fun e => N (y * 13 + e)) 13 s = V s := fun s hc => jfl_off _ _ _ hc
  generalize jfl V 0 (fun e => N (y * 13 + e)) 13 = W3 at hs3 a3 b3
  iterate 3 refine mj_T.pl rfl rfl rfl rfl ?_
  refine mj_T.call (ins := .invokevirtual 213) rfl rfl (Nat.le_of_ble_eq_true rfl) (Nat.le_of_ble_eq_true rfl) (by simp [mj_recv, rS_f hs3]) rfl (mj_Ok.up (by decide) (rp_loads (D := 0) (p := 1) (r := z) (by decide) (by omega) K1.nR hs3)) (fun v' g4 hq' => ?_) (fun i h' hq' => by obtain ⟨_, _, h⟩ := hq'; cases h)
  obtain ⟨_, hs4, hq'⟩ := hq'
  cases hq'
  have a4 : ∀ e, e < 13 → jfl W3 1 (fun e => N (z * 13 + e)) 13 (1 * 13 + e) = N (z * 13 + e) := fun e he => jfl_at _ _ _ he
  have b4 : ∀ s, (s < 1 * 13 ∨ 1 * 13 + 13 ≤ s) → jfl W3 1 (fun e => N (z * 13 + e)) 13 s = W3 s := fun s hc => jfl_off _ _ _ hc
  generalize jfl W3 1 (fun e => N (z * 13 + e)) 13 = W4 at hs4 a4 b4
  have eA : jpo W4 0 = rwN N0 (y : Int) := funext fun e => by
    unfold jpo
    by_cases q : e < 13
    · rw [if_pos q, b4 _ (by omega), a3 e q]
      exact rwN_at K1.2.1 (by omega) q
    · rw [if_neg q]
      show 0 = if e < 13 then _ else 0
      rw [if_neg q]
  have eB : jpo W4 1 = rwN N0 (z : Int) := funext fun e => by
    unfold jpo
    by_cases q : e < 13
    · rw [if_pos q, a4 e q]
      exact rwN_at K1.2.1 (by omega) q
    · rw [if_neg q]
      show 0 = if e < 13 then _ else 0
      rw [if_neg q]
  have c1 : ∀ e, e < 13 → (W4 (0 * 13 + e)).natAbs ≤ 10 ^ 18 := fun e he => by
    rw [b4 _ (by omega), a3 e he]
    exact K1.sh (r := y) (by omega) he
  have c2 : ∀ e, e < 13 → (W4 (1 * 13 + e)).natAbs ≤ 10 ^ 18 := fun e he => by
    rw [a4 e he]
    exact K1.sh (r := z) (by omega) he
  iterate 3 refine mj_T.pl rfl rfl rfl rfl ?_
  refine mj_T.call (ins := .invokevirtual 223) rfl rfl (Nat.le_of_ble_eq_true rfl) (Nat.le_of_ble_eq_true rfl) (by simp [mj_recv, rS_f hs4]) rfl (mj_Ok.up (by decide) (jp_isTooHigh (D := 0) (rG S1 N B T X) (a := 0) (b := 1) (by decide) (by decide) hs4)) (fun v' h' hq' => ?_) (fun i h' hq' => by rcases hq' with ⟨_, _, _, h⟩ | ⟨_, h⟩ <;> cases h)
  rcases hq' with ⟨t1, t2, t3, hq'⟩ | ⟨hdeg, hq'⟩
  case' inl =>
    cases hq'
    refine mj_T.if0 (a := 1) rfl ⟨by decide, by decide⟩ (fun hc => ?_) (fun hc => ?_)
    · simp [jc] at hc
    iterate 2 refine mj_T.pl rfl rfl rfl rfl ?_
    refine mj_T.call (ins := .invokevirtual 198) rfl rfl (Nat.le_of_ble_eq_true rfl) (Nat.le_of_ble_eq_true rfl) (by simp [mj_recv, rS_f hs4]) rfl (mj_Ok.up (by decide) (rp_fails (D := 0) (c := 2) hs4)) (fun v' g5 hq' => ?_) (fun i h' hq' => by obtain ⟨_, _, h⟩ := hq'; cases h)
    obtain ⟨_, hs5, hq'⟩ := hq'
    cases hq'
    have hbad := jpo_big t1 t2 t3
    rw [eA, eB] at hbad
    exact mj_T.ret rfl rfl rfl (Or.inl ⟨⟨⟨by omega, by omega⟩, ⟨by omega, by omega⟩, ⟨by omega, by omega⟩⟩, Or.inr ⟨hbad, 0, g5, ⟨⟨by decide, by decide⟩, trivial⟩, rfl, ⟨_, N, B, X, W4, hs5, K1.put ⟨by decide, by decide⟩ (by decide) (by decide) (by decide) (by decide) (by decide), jvu_at _ _ _⟩⟩⟩)
  cases hq'
  refine mj_T.if0 (a := 0) rfl ⟨by decide, by decide⟩ (fun hc => ?_) (fun hc => ?_)
  rotate_left
  · simp [jc] at hc
  iterate 4 refine mj_T.pl rfl rfl rfl rfl ?_
  refine mj_T.call (ins := .invokevirtual 121) rfl rfl (Nat.le_of_ble_eq_true rfl) (Nat.le_of_ble_eq_true rfl) (by simp [mj_recv, rS_f hs4]) rfl (mj_Ok.up (by decide) (jx_multipliesPoly (D := 0) (rG S1 N B T X) (to := 2) (a := 0) (b := 1) (by decide) (by decide) (by decide) (by decide) (by decide) c1 c2 hdeg rp_small2 hs4)) (fun v' g6 hq' => ?_) (fun i h' hq' => by obtain ⟨_, _, _, _, _, _, _, h⟩ := hq'; cases h)
  obtain ⟨W6, _, hs6, _, _, _, hW, hq'⟩ := hq'
  cases hq'
  iterate 4 refine mj_T.pl rfl rfl rfl rfl ?_
  refine mj_T.call (ins := .invokevirtual 219) rfl rfl (Nat.le_of_ble_eq_true rfl) (Nat.le_of_ble_eq_true rfl) (by simp [mj_recv, rS_f hs6]) rfl (mj_Ok.up (by decide) (ra_puts (D := 0) (r := x) (p := 2) (c := 2) (by omega) (by decide) ⟨by decide, by decide⟩ K1 hs6 e1)) (fun v' h' hq' => ?_) (fun i h' hq' => by rcases hq' with ⟨_, _, _, _, h, _⟩ | ⟨_, _, _, _, h, _⟩ <;> cases h)
  have hres : ∀ j, j < 13 → (fun e => W6 (2 * 13 + e)) j = pz_mul (rwN N0 (y : Int)) (rwN N0 (z : Int)) j := fun j hj => by
    rw [← eA, ← eB]
    exact (hW j hj).trans (prs_mul W4 0 1 j)
  have hz : ∀ i, 13 ≤ i → pz_mul (rwN N0 (y : Int)) (rwN N0 (z : Int)) i = 0 := fun i hi => by
    rw [← eA, ← eB]
    have ha := jdg_le W4 0 13
    have hb := jdg_le W4 1 13
    exact pz_lt.mul (c := 13) (jpo_ltd W4 0) (jpo_ltd W4 1) (by omega) i hi
  rcases hq' with ⟨hs9, z9, h9, hz9, e9, hI9⟩ | ⟨hs9, z9, h9, hz9, e9, hI9⟩
  · cases e9
    exact mj_T.ret rfl rfl rfl (Or.inl ⟨⟨⟨by omega, by omega⟩, ⟨by omega, by omega⟩, ⟨by omega, by omega⟩⟩, Or.inl ⟨⟨sml_cg hres hs9, hz⟩, _, hres, z9, _, hz9, rfl, hI9⟩⟩)
  · cases e9
    exact mj_T.ret rfl rfl rfl (Or.inl ⟨⟨⟨by omega, by omega⟩, ⟨by omega, by omega⟩, ⟨by omega, by omega⟩⟩, Or.inr ⟨fun q => hs9 (sml_cg (fun j hj => (hres j hj).symm) q.1), z9, _, hz9, rfl, hI9⟩⟩)
theorem ra_primitive {x y : Int} (hx : jr x) (hy : jr y) (hI : jIx N0 u0 H tm er T h) : mj_Ok 40 239 [.ref 0, .int (jn x), .int (jn y)] h (RPc 2 (fun c => c = 1) tm er T N0 u0 H ((0 ≤ x ∧ x ≤ 5) ∧ (0 ≤ y ∧ y ≤ 5)) (ppr (rwN N0 y)) x) := by
  refine mj_Ok.of (M := mj_m239) rfl rfl rfl ?_
  obtain ⟨S, N, B, X, V, hs, K⟩ := hI
  iterate 2 refine mj_T.pl rfl rfl rfl rfl ?_
  refine rT_put (v := 0) hs rfl rfl (by decide) rfl (fun g18 hs18 => ?_)
  have K18 := K.put (k := 3) (v := 0) ⟨by decide, by decide⟩ (by decide) (by decide) (by decide) (by decide) (by decide)
  have e18 : jvu S 3 0 3 = 0 := jvu_at S 3 0
  generalize jvu S 3 0 = S18 at hs18 K18 e18
  iterate 3 refine mj_T.pl rfl rfl rfl rfl ?_
  refine mj_T.call (ins := .invokestatic 210) rfl rfl (Nat.le_of_ble_eq_true rfl) (Nat.le_of_ble_eq_true rfl) rfl rfl (mj_Ok.up (by decide) (rx_areRegisters (D := 0) hx hy hy)) (fun v' h' hq' => ?_) (fun i h' hq' => by rcases hq' with ⟨_, _, h⟩ | ⟨_, h⟩ <;> cases h)
  rcases hq' with ⟨⟨x1, x2⟩, ⟨y3, y4, y5, y6⟩, hq'⟩ | ⟨hno, hq'⟩
  case' inr =>
    cases hq'
    refine mj_T.if0 (a := 0) rfl ⟨by decide, by decide⟩ (fun hc => ?_) (fun hc => ?_)
    · simp [jc] at hc
    iterate 2 refine mj_T.pl rfl rfl rfl rfl ?_
    refine mj_T.call (ins := .invokevirtual 198) rfl rfl (Nat.le_of_ble_eq_true rfl) (Nat.le_of_ble_eq_true rfl) (by simp [mj_recv, rS_f hs18]) rfl (mj_Ok.up (by decide) (rp_fails (D := 0) (c := 1) hs18)) (fun v' g19 hq' => ?_) (fun i h' hq' => by obtain ⟨_, _, h⟩ := hq'; cases h)
    obtain ⟨_, hs19, hq'⟩ := hq'
    cases hq'
    exact mj_T.ret rfl rfl rfl (Or.inr ⟨fun q => hno ⟨q.1, q.2, q.2⟩, 1, rfl, 0, g19, ⟨⟨by decide, by decide⟩, trivial⟩, rfl, ⟨_, N, B, X, V, hs19, K18.put ⟨by decide, by decide⟩ (by decide) (by decide) (by decide) (by decide) (by decide), jvu_at _ _ _⟩⟩)
  cases hq'
  refine mj_T.if0 (a := 1) rfl ⟨by decide, by decide⟩ (fun hc => ?_) (fun hc => ?_)
  rotate_left
  · simp [jc] at hc
  obtain ⟨x, rfl⟩ := Int.eq_ofNat_of_zero_le x1
  obtain ⟨y, rfl⟩ := Int.eq_ofNat_of_zero_le y3
  iterate 3 refine mj_T.pl rfl rfl rfl rfl ?_
  refine mj_T.call (ins := .invokevirtual 213) rfl rfl (Nat.le_of_ble_eq_true rfl) (Nat.le_of_ble_eq_true rfl) (by simp [mj_recv, rS_f hs18]) rfl (mj_Ok.up (by decide) (rp_loads (D := 0) (p := 0) (r := y) (by decide) (by omega) K18.nR hs18)) (fun v' g20 hq' => ?_) (fun i h' hq' => by obtain ⟨_, _, h⟩ := hq'; cases h)
  obtain ⟨_, hs20, hq'⟩ := hq'
  cases hq'
  have a20 : ∀ e, e < 13 → jfl V 0 (fun e => N (y * 13 + e)) 13 (0 * 13 + e) = N (y * 13 + e) := fun e he => jfl_at _ _ _ he
  have b20 : ∀ s, (s < 0 * 13 ∨ 0 * 13 + 13 ≤ s) → jfl V 0 (fun e => N (y * 13 + e)) 13 s = V s := fun s hc => jfl_off _ _ _ hc
  generalize jfl V 0 (fun e => N (y * 13 + e)) 13 = W20 at hs20 a20 b20
  iterate 2 refine mj_T.pl rfl rfl rfl rfl ?_
  refine mj_T.call (ins := .invokevirtual 142) rfl rfl (Nat.le_of_ble_eq_true rfl) (Nat.le_of_ble_eq_true rfl) (by simp [mj_recv, rS_f hs20]) rfl (mj_Ok.up (by decide) (jx_makesPrimitive (D := 0) (rG S18 N B T X) (p := 0) (by decide) hs20)) (fun v' g21 hq' => ?_) (fun i h' hq' => by obtain ⟨_, _, _, _, _, _, h⟩ := hq'; cases h)
  obtain ⟨W21, _, hs21, ⟨f, hf, hW⟩, _, hP, hq'⟩ := hq'
  cases hq'
  iterate 4 refine mj_T.pl rfl rfl rfl rfl ?_
  refine mj_T.call (ins := .invokevirtual 219) rfl rfl (Nat.le_of_ble_eq_true rfl) (Nat.le_of_ble_eq_true rfl) (by simp [mj_recv, rS_f hs21]) rfl (mj_Ok.up (by decide) (ra_puts (D := 0) (r := x) (p := 0) (c := 2) (by omega) (by decide) ⟨by decide, by decide⟩ K18 hs21 e18)) (fun v' h' hq' => ?_) (fun i h' hq' => by rcases hq' with ⟨_, _, _, _, h, _⟩ | ⟨_, _, _, _, h, _⟩ <;> cases h)
  have hR : ∀ e, e < 13 → W20 (0 * 13 + e) = rwN N0 (y : Int) e := fun e he => by
    rw [a20 e he]
    exact rwN_at K18.2.1 (by omega) he
  have hRs : sml (rwN N0 (y : Int)) := fun j hj => by
    rw [← rwN_at K18.2.1 (r := y) (by omega) hj]
    have := K18.1.1.1 (y * 13 + j) (by omega)
    omega
  have hres : ∀ j, j < 13 → (fun e => W21 (0 * 13 + e)) j = ppr (rwN N0 (y : Int)) j := ppr_of hf (fun e he => by
    show W21 (0 * 13 + e) = _
    rw [hW e he, hR e he, jgk_cgd hR]) (fun d hd h1 h2 => hP d hd h1 h2)
  have hfit : fit13 (ppr (rwN N0 (y : Int))) := ⟨fun j hj => ppr_sml hRs j, fun i hi => if_neg (by omega)⟩
  rcases hq' with ⟨hs9, z9, h9, hz9, e9, hI9⟩ | ⟨hs9, z9, h9, hz9, e9, hI9⟩
  · cases e9
    exact mj_T.ret rfl rfl rfl (Or.inl ⟨⟨⟨by omega, by omega⟩, ⟨by omega, by omega⟩⟩, Or.inl ⟨hfit, _, hres, z9, _, hz9, rfl, hI9⟩⟩)
  · exact absurd (sml_cg (fun j hj => (hres j hj).symm) hfit.1) hs9
theorem ra_power {x y z : Int} (hx : jr x) (hy : jr y) (hz : jr z) (hI : jIx N0 u0 H tm er T h) : mj_Ok 40 234 [.ref 0, .int (jn x), .int (jn y), .int (jn z)] h (RPc 3 (fun c => (¬ ((0 ≤ x ∧ x ≤ 5) ∧ (0 ≤ y ∧ y ≤ 5)) ∧ c = 1) ∨ (((0 ≤ x ∧ x ≤ 5) ∧ (0 ≤ y ∧ y ≤ 5)) ∧ ¬ (0 ≤ z ∧ z ≤ 12) ∧ c = 2)) tm er T N0 u0 H (((0 ≤ x ∧ x ≤ 5) ∧ (0 ≤ y ∧ y ≤ 5)) ∧ (0 ≤ z ∧ z ≤ 12)) (pw (rwN N0 y) z.toNat) x) := by
  refine mj_Ok.of (M := mj_m234) rfl rfl rfl ?_
  obtain ⟨S, N, B, X, V, hs, K⟩ := hI
  iterate 2 refine mj_T.pl rfl rfl rfl rfl ?_
  refine rT_put (v := 0) hs rfl rfl (by decide) rfl (fun g7 hs7 => ?_)
  have K7 := K.put (k := 3) (v := 0) ⟨by decide, by decide⟩ (by decide) (by decide) (by decide) (by decide) (by decide)
  have e7 : jvu S 3 0 3 = 0 := jvu_at S 3 0
  generalize jvu S 3 0 = S7 at hs7 K7 e7
  iterate 3 refine mj_T.pl rfl rfl rfl rfl ?_
  refine mj_T.call (ins := .invokestatic 210) rfl rfl (Nat.le_of_ble_eq_true rfl) (Nat.le_of_ble_eq_true rfl) rfl rfl (mj_Ok.up (by decide) (rx_areRegisters (D := 0) hx hy hy)) (fun v' h' hq' => ?_) (fun i h' hq' => by rcases hq' with ⟨_, _, h⟩ | ⟨_, h⟩ <;> cases h)
  rcases hq' with ⟨⟨x1, x2⟩, ⟨y3, y4, y5, y6⟩, hq'⟩ | ⟨hno, hq'⟩
  case' inr =>
    cases hq'
    refine mj_T.if0 (a := 0) rfl ⟨by decide, by decide⟩ (fun hc => ?_) (fun hc => ?_)
    · simp [jc] at hc
    iterate 2 refine mj_T.pl rfl rfl rfl rfl ?_
    refine mj_T.call (ins := .invokevirtual 198) rfl rfl (Nat.le_of_ble_eq_true rfl) (Nat.le_of_ble_eq_true rfl) (by simp [mj_recv, rS_f hs7]) rfl (mj_Ok.up (by decide) (rp_fails (D := 0) (c := 1) hs7)) (fun v' g8 hq' => ?_) (fun i h' hq' => by obtain ⟨_, _, h⟩ := hq'; cases h)
    obtain ⟨_, hs8, hq'⟩ := hq'
    cases hq'
    exact mj_T.ret rfl rfl rfl (Or.inr ⟨fun q => hno ⟨q.1.1, q.1.2, q.1.2⟩, 1, Or.inl ⟨fun q => hno ⟨q.1, q.2, q.2⟩, rfl⟩, 0, g8, ⟨⟨by decide, by decide⟩, trivial⟩, rfl, ⟨_, N, B, X, V, hs8, K7.put ⟨by decide, by decide⟩ (by decide) (by decide) (by decide) (by decide) (by decide), jvu_at _ _ _⟩⟩)
  cases hq'
  refine mj_T.if0 (a := 1) rfl ⟨by decide, by decide⟩ (fun hc => ?_) (fun hc => ?_)
  rotate_left
  · simp [jc] at hc
  obtain ⟨x, rfl⟩ := Int.eq_ofNat_of_zero_le x1
  obtain ⟨y, rfl⟩ := Int.eq_ofNat_of_zero_le y3
  refine mj_T.pl rfl rfl rfl rfl ?_
  refine mj_T.i2l rfl hz ?_
  iterate 2 refine mj_T.pl rfl rfl rfl rfl ?_
  refine mj_T.call (ins := .invokestatic 177) rfl rfl (Nat.le_of_ble_eq_true rfl) (Nat.le_of_ble_eq_true rfl) rfl rfl (mj_Ok.up (by decide) (rp_in (D := 0) (v := z) (lo := 0) (hi := 12) ⟨by have := hz.1; omega, by have := hz.2; omega⟩ ⟨by decide, by decide⟩ ⟨by decide, by decide⟩)) (fun v' h' hq' => ?_) (fun i h' hq' => by rcases hq' with ⟨_, _, h⟩ | ⟨_, h⟩ <;> cases h)
  rcases hq' with ⟨r9a, r9b, hq'⟩ | ⟨cn, hq'⟩
  case' inr =>
    cases hq'
    refine mj_T.if0 (a := 0) rfl ⟨by decide, by decide⟩ (fun hc => ?_) (fun hc => ?_)
    · simp [jc] at hc
    iterate 2 refine mj_T.pl rfl rfl rfl rfl ?_
    refine mj_T.call (ins := .invokevirtual 198) rfl rfl (Nat.le_of_ble_eq_true rfl) (Nat.le_of_ble_eq_true rfl) (by simp [mj_recv, rS_f hs7]) rfl (mj_Ok.up (by decide) (rp_fails (D := 0) (c := 2) hs7)) (fun v' g10 hq' => ?_) (fun i h' hq' => by obtain ⟨_, _, h⟩ := hq'; cases h)
    obtain ⟨_, hs10, hq'⟩ := hq'
    cases hq'
    exact mj_T.ret rfl rfl rfl (Or.inr ⟨by omega, 2, Or.inr ⟨⟨by omega, by omega⟩, by omega, rfl⟩, 0, g10, ⟨⟨by decide, by decide⟩, trivial⟩, rfl, ⟨_, N, B, X, V, hs10, K7.put ⟨by decide, by decide⟩ (by decide) (by decide) (by decide) (by decide) (by decide), jvu_at _ _ _⟩⟩)
  cases hq'
  refine mj_T.if0 (a := 1) rfl ⟨by decide, by decide⟩ (fun hc => ?_) (fun hc => ?_)
  rotate_left
  · simp [jc] at hc
  obtain ⟨z, rfl⟩ := Int.eq_ofNat_of_zero_le r9a
  iterate 3 refine mj_T.pl rfl rfl rfl rfl ?_
  refine mj_T.call (ins := .invokevirtual 213) rfl rfl (Nat.le_of_ble_eq_true rfl) (Nat.le_of_ble_eq_true rfl) (by simp [mj_recv, rS_f hs7]) rfl (mj_Ok.up (by decide) (rp_loads (D := 0) (p := 0) (r := y) (by decide) (by omega) K7.nR hs7)) (fun v' g11 hq' => ?_) (fun i h' hq' => by obtain ⟨_, _, h⟩ := hq'; cases h)
  obtain ⟨_, hs11, hq'⟩ := hq'
  cases hq'
  have a11 : ∀ e, e < 13 → jfl V 0 (fun e => N (y * 13 + e)) 13 (0 * 13 + e) = N (y * 13 + e) := fun e he => jfl_at _ _ _ he
  have b11 : ∀ s, (s < 0 * 13 ∨ 0 * 13 + 13 ≤ s) → jfl V 0 (fun e => N (y * 13 + e)) 13 s = V s := fun s hc => jfl_off _ _ _ hc
  generalize jfl V 0 (fun e => N (y * 13 + e)) 13 = W11 at hs11 a11 b11
  have eA : jpo W11 0 = rwN N0 (y : Int) := funext fun e => by
    unfold jpo
    by_cases q : e < 13
    · rw [if_pos q, a11 e q]
      exact rwN_at K7.2.1 (by omega) q
    · rw [if_neg q]
      show 0 = if e < 13 then _ else 0
      rw [if_neg q]
  have c1 : ∀ e, e < 13 → (W11 (0 * 13 + e)).natAbs ≤ 10 ^ 18 := fun e he => by
    rw [a11 e he]
    exact K7.sh (r := y) (by omega) he
  iterate 4 refine mj_T.pl rfl rfl rfl rfl ?_
  refine mj_T.call (ins := .invokevirtual 229) rfl rfl (Nat.le_of_ble_eq_true rfl) (Nat.le_of_ble_eq_true rfl) (by simp [mj_recv, rS_f hs11]) rfl (mj_Ok.up (by decide) (jx_raises (D := 0) (rG S7 N B T X) (p := 1) (a := 0) (al := 10 ^ 18) (n := z) (by decide) (by decide) (by decide) (by decide) (by decide) (by decide) c1 (by omega) rp_small3 hs11)) (fun v' g12 hq' => ?_) (fun i h' hq' => by obtain ⟨_, _, _, _, ⟨h, _⟩ | ⟨h, _⟩⟩ := hq' <;> cases h)
  obtain ⟨W12, _, hs12, _, ⟨hq', _, hbig⟩ | ⟨hq', hdg, hW⟩⟩ := hq'
  case' inl =>
    cases hq'
    refine mj_T.if0 (a := 0) rfl ⟨by decide, by decide⟩ (fun hc => ?_) (fun hc => ?_)
    rotate_left
    · simp [jc] at hc
    iterate 2 refine mj_T.pl rfl rfl rfl rfl ?_
    refine mj_T.call (ins := .invokevirtual 198) rfl rfl (Nat.le_of_ble_eq_true rfl) (Nat.le_of_ble_eq_true rfl) (by simp [mj_recv, rS_f hs12]) rfl (mj_Ok.up (by decide) (rp_fails (D := 0) (c := 3) hs12)) (fun v' g13 hq' => ?_) (fun i h' hq' => by obtain ⟨_, _, h⟩ := hq'; cases h)
    obtain ⟨_, hs13, hq'⟩ := hq'
    cases hq'
    have hbad := pw_nofit hbig
    rw [eA] at hbad
    exact mj_T.ret rfl rfl rfl (Or.inl ⟨⟨⟨⟨by omega, by omega⟩, ⟨by omega, by omega⟩⟩, ⟨by omega, by omega⟩⟩, Or.inr ⟨hbad, 0, g13, ⟨⟨by decide, by decide⟩, trivial⟩, rfl, ⟨_, N, B, X, W12, hs13, K7.put ⟨by decide, by decide⟩ (by decide) (by decide) (by decide) (by decide) (by decide), jvu_at _ _ _⟩⟩⟩)
  cases hq'
  refine mj_T.if0 (a := 1) rfl ⟨by decide, by decide⟩ (fun hc => ?_) (fun hc => ?_)
  · simp [jc] at hc
  iterate 4 refine mj_T.pl rfl rfl rfl rfl ?_
  refine mj_T.call (ins := .invokevirtual 219) rfl rfl (Nat.le_of_ble_eq_true rfl) (Nat.le_of_ble_eq_true rfl) (by simp [mj_recv, rS_f hs12]) rfl (mj_Ok.up (by decide) (ra_puts (D := 0) (r := x) (p := 1) (c := 3) (by omega) (by decide) ⟨by decide, by decide⟩ K7 hs12 e7)) (fun v' h' hq' => ?_) (fun i h' hq' => by rcases hq' with ⟨_, _, _, _, h, _⟩ | ⟨_, _, _, _, h, _⟩ <;> cases h)
  have hres : ∀ j, j < 13 → (fun e => W12 (1 * 13 + e)) j = pw (rwN N0 (y : Int)) z j := fun j hj => by
    rw [← eA]
    exact hW j hj
  rcases hq' with ⟨hs9, z9, h9, hz9, e9, hI9⟩ | ⟨hs9, z9, h9, hz9, e9, hI9⟩
  · cases e9
    refine mj_T.pl rfl rfl rfl rfl ?_
    have hz : ∀ i, 13 ≤ i → pw (rwN N0 (y : Int)) z i = 0 := by
      rw [← eA]
      exact pw_z (d := jdg W11 0 13 - 1) (fun i hi => jpo_zb (by omega)) hdg
    exact mj_T.ret rfl rfl rfl (Or.inl ⟨⟨⟨⟨by omega, by omega⟩, ⟨by omega, by omega⟩⟩, ⟨by omega, by omega⟩⟩, Or.inl ⟨⟨sml_cg hres hs9, hz⟩, _, hres, z9, _, hz9, rfl, hI9⟩⟩)
  · cases e9
    refine mj_T.pl rfl rfl rfl rfl ?_
    exact mj_T.ret rfl rfl rfl (Or.inl ⟨⟨⟨⟨by omega, by omega⟩, ⟨by omega, by omega⟩⟩, ⟨by omega, by omega⟩⟩, Or.inr ⟨fun q => hs9 (sml_cg (fun j hj => (hres j hj).symm) q.1), z9, _, hz9, rfl, hI9⟩⟩)
theorem ra_sb_loop {S N B X V0 : Nat → Int} {x : Nat} {y z : Int} {reg : Prop} (hreg : reg) {P : pz_P} (hP : P = hw (jpo V0 0) (jpo V0 1) 13) (hx : x ≤ 5) (K : jKx N0 u0 H tm er S N B T) (e3s : S 3 = 0) (hA : ∀ e, e < 13 → (V0 (0 * 13 + e)).natAbs ≤ 10 ^ 18) (hB : ∀ e, e < 13 → (V0 (1 * 13 + e)).natAbs ≤ 10 ^ 18) (hdeg : (jdg V0 0 13 - 1) * (jdg V0 1 13 - 1) ≤ 12) :
    ∀ (m s : Nat) (V : Nat → Int) (h : mj_H), m + s = jdg V0 0 13 → rS S N B T X V h → (∀ j, j < 26 → V j = V0 j) → (∀ e, e < 13 → (V (2 * 13 + e)).natAbs ≤ (170 * 10 ^ 18) ^ s) → ((s = 0 ∧ jdg V 2 13 = 0) ∨ (1 ≤ s ∧ jdg V 2 13 ≤ (s - 1) * (jdg V0 1 13 - 1) + 1)) → (∀ e, e < 13 → V (2 * 13 + e) = hw (jpo V0 0) (jpo V0 1) (13 - m) e) → mj_T 39 mj_m236 74 [some (.ref 0), some (.int (jn (x : Int))), some (.int (jn y)), some (.int (jn z)), some (.int (jn ((m : Int) - 1)))] [] h (RPc 2 (fun c => c = 1) tm er T N0 u0 H reg P (x : Int)) := by
  have hl0 := jdg_le V0 0 13
  have hl1 := jdg_le V0 1 13
  intro m
  induction m with
  | zero =>
    intro s V h hm hs f c1 c2 c3
    refine mj_T.pl rfl rfl rfl rfl ?_
    refine mj_T.if0 (a := ((0 : Nat) : Int) - 1) rfl ⟨by decide, by decide⟩ (fun hc => ?_) (fun hc => ?_)
    rotate_left
    · simp [jc] at hc
    iterate 4 refine mj_T.pl rfl rfl rfl rfl ?_
    refine mj_T.call (ins := .invokevirtual 219) rfl rfl (Nat.le_of_ble_eq_true rfl) (Nat.le_of_ble_eq_true rfl) (by simp [mj_recv, rS_f hs]) rfl (mj_Ok.up (by decide) (ra_puts (D := 0) (r := x) (p := 2) (c := 2) (by omega) (by decide) ⟨by decide, by decide⟩ K hs e3s)) (fun v' h' hq' => ?_) (fun i h' hq' => by rcases hq' with ⟨_, _, _, _, h, _⟩ | ⟨_, _, _, _, h, _⟩ <;> cases h)
    have hres : ∀ j, j < 13 → (fun e => V (2 * 13 + e)) j = P j := fun j hj => by
      rw [hP]
      exact c3 j hj
    have hz : ∀ i, 13 ≤ i → P i = 0 := by
      rw [hP]
      exact hw_fits hdeg
    rcases hq' with ⟨hs9, z9, h9, hz9, e9, hI9⟩ | ⟨hs9, z9, h9, hz9, e9, hI9⟩
    · cases e9
      exact mj_T.ret rfl rfl rfl (Or.inl ⟨hreg, Or.inl ⟨⟨sml_cg hres hs9, hz⟩, _, hres, z9, _, hz9, rfl, hI9⟩⟩)
    · cases e9
      exact mj_T.ret rfl rfl rfl (Or.inl ⟨hreg, Or.inr ⟨fun q => hs9 (sml_cg (fun j hj => (hres j hj).symm) q.1), z9, _, hz9, rfl, hI9⟩⟩)
  | succ m ih =>
    intro s V h hm hs f c1 c2 c3
    refine mj_T.pl rfl rfl rfl rfl ?_
    refine mj_T.if0 (a := ((m + 1 : Nat) : Int) - 1) rfl ⟨by omega, by omega⟩ (fun hc => ?_) (fun hc => ?_)
    · simp only [jc, decide_eq_true_eq] at hc
      omega
    rw [show ((m + 1 : Nat) : Int) - 1 = (m : Int) by omega]
    have e1 : jdg V 1 13 = jdg V0 1 13 := jdg_congr 13 fun e he => f _ (by omega)
    have hmul : (s - 1) * (jdg V0 1 13 - 1) + (jdg V0 1 13 - 1) = s * (jdg V0 1 13 - 1) ∨ s = 0 := by
      rcases Nat.eq_zero_or_pos s with q | q
      · exact Or.inr q
      · refine Or.inl ?_
        obtain ⟨t, rfl⟩ : ∃ t, s = t + 1 := ⟨s - 1, by omega⟩
        rw [Nat.add_sub_cancel, Nat.succ_mul]
    have hle : s * (jdg V0 1 13 - 1) ≤ 12 := Nat.le_trans (Nat.mul_le_mul_right _ (by omega)) hdeg
    have hpw : (170 * 10 ^ 18) ^ s ≤ (170 * 10 ^ 18) ^ 13 := Nat.pow_le_pow_right (by decide) (by omega)
    have hp1 : 1 ≤ (170 * 10 ^ 18) ^ s := Nat.pow_pos (by decide)
    have h6 := rp_small6
    have hps : (170 * 10 ^ 18) ^ (s + 1) = (170 * 10 ^ 18) ^ s * (170 * 10 ^ 18) := Nat.pow_succ _ _
    obtain ⟨al, ha1, ha2, ha3⟩ : ∃ al : Nat, (∀ e, e < 13 → (V (2 * 13 + e)).natAbs ≤ al) ∧ al ≤ (170 * 10 ^ 18) ^ s ∧ (s = 0 → al = 0) := by
      rcases c2 with ⟨q, q2⟩ | ⟨q, _⟩
      · exact ⟨0, fun e he => by rw [jdg_zero V 2 13 e (by omega) he]; exact Nat.zero_le _, Nat.zero_le _, fun _ => rfl⟩
      · exact ⟨_, c1, Nat.le_refl _, fun q2 => absurd q2 (by omega)⟩
    iterate 4 refine mj_T.pl rfl rfl rfl rfl ?_
    refine mj_T.call (ins := .invokevirtual 121) rfl rfl (Nat.le_of_ble_eq_true rfl) (Nat.le_of_ble_eq_true rfl) (by simp [mj_recv, rS_f hs]) rfl (mj_Ok.up (by decide) (jx_multipliesPoly (D := 0) (V := V) (rG S N B T X) (to := 7) (a := 2) (b := 1) (by decide) (by decide) (by decide) (by decide) (by decide) (al := al) (be := 10 ^ 18) ha1 (fun e he => by rw [f _ (by omega)]; exact hB e he) (by rw [e1]; omega) (by omega) hs)) (fun v' g1 hq' => ?_) (fun i h' hq' => by obtain ⟨_, _, _, _, _, _, _, h⟩ := hq'; cases h)
    obtain ⟨W1, _, hs1, d1, d2, d3, hW, hq'⟩ := hq'
    cases hq'
    iterate 3 refine mj_T.pl rfl rfl rfl rfl ?_
    refine mj_T.call (ins := .invokevirtual 124) rfl rfl (Nat.le_of_ble_eq_true rfl) (Nat.le_of_ble_eq_true rfl) (by simp [mj_recv, rS_f hs1]) rfl (mj_Ok.up (by decide) (jp_copiesPoly (D := 0) (V := W1) (rG S N B T X) (p := 2) (q := 7) (by decide) (by decide) (by decide) hs1)) (fun v' g2 hq' => ?_) (fun i h' hq' => by obtain ⟨_, _, h⟩ := hq'; cases h)
    obtain ⟨_, hs2, hq'⟩ := hq'
    cases hq'
    have q1 : ∀ e, e < 13 → jfl W1 2 (fun e => W1 (7 * 13 + e)) 13 (2 * 13 + e) = W1 (7 * 13 + e) := fun e he => jfl_at _ _ _ he
    have q2 : ∀ s, (s < 26 ∨ 39 ≤ s) → jfl W1 2 (fun e => W1 (7 * 13 + e)) 13 s = W1 s := fun s hc => jfl_off _ _ _ (by omega)
    generalize jfl W1 2 (fun e => W1 (7 * 13 + e)) 13 = W2 at hs2 q1 q2
    iterate 3 refine mj_T.pl rfl rfl rfl rfl ?_
    refine mj_T.call (ins := .invokestatic 104) rfl rfl (Nat.le_of_ble_eq_true rfl) (Nat.le_of_ble_eq_true rfl) rfl rfl (mj_Ok.up (by decide) (jq_slot (D := 0) (p := 2) (i := 0))) (fun v' h' hq' => ?_) (fun i h' hq' => by cases hq')
    cases hq'
    iterate 2 refine mj_T.pl rfl rfl rfl rfl ?_
    refine mj_T.call (ins := .invokestatic 104) rfl rfl (Nat.le_of_ble_eq_true rfl) (Nat.le_of_ble_eq_true rfl) rfl rfl (mj_Ok.up (by decide) (jq_slot (D := 0) (p := 2) (i := 0))) (fun v' h' hq' => ?_) (fun i h' hq' => by cases hq')
    cases hq'
    iterate 2 refine mj_T.pl rfl rfl rfl rfl ?_
    refine mj_T.call (ins := .invokestatic 104) rfl rfl (Nat.le_of_ble_eq_true rfl) (Nat.le_of_ble_eq_true rfl) rfl rfl (mj_Ok.up (by decide) (jq_slot (D := 0) (p := 0) (i := m))) (fun v' h' hq' => ?_) (fun i h' hq' => by cases hq')
    cases hq'
    refine mj_T.pl rfl rfl rfl rfl ?_
    have va : W2 (0 * 13 + m) = V0 (0 * 13 + m) := by rw [q2 _ (by omega), d1 _ (by omega) (by omega), f _ (by omega)]
    have v1 : (W2 (2 * 13 + 0) + 1 * W2 (0 * 13 + m)).natAbs ≤ (170 * 10 ^ 18) ^ (s + 1) := by
      rw [va, q1 0 (by decide), Int.one_mul]
      have k1 := d2 0 (by decide)
      have k2 := hA m (by omega)
      have k3 := Int.natAbs_add_le (W1 (7 * 13 + 0)) (V0 (0 * 13 + m))
      omega
    refine mj_T.call (ins := .invokevirtual 107) rfl rfl (Nat.le_of_ble_eq_true rfl) (Nat.le_of_ble_eq_true rfl) (by simp [mj_recv, rS_f hs2]) rfl (mj_Ok.up (by decide) (jS_adds (D := 0) (V := W2) (rG S N B T X) (to := 2 * 13 + 0) (a := 2 * 13 + 0) (b := 0 * 13 + m) (f := 1) (by decide) (by decide) (by omega) (Or.inl rfl) (jnl_of_lt v1 (by omega)) hs2)) (fun v' g3 hq' => ?_) (fun i h' hq' => by obtain ⟨_, _, h⟩ := hq'; cases h)
    obtain ⟨_, hs3, hq'⟩ := hq'
    cases hq'
    have u1 : jvu W2 (2 * 13 + 0) (W2 (2 * 13 + 0) + 1 * W2 (0 * 13 + m)) (2 * 13 + 0) = W2 (2 * 13 + 0) + 1 * W2 (0 * 13 + m) := jvu_at _ _ _
    have u2 : ∀ s, s ≠ 2 * 13 + 0 → jvu W2 (2 * 13 + 0) (W2 (2 * 13 + 0) + 1 * W2 (0 * 13 + m)) s = W2 s := fun s hne => jvu_ne _ _ _ hne
    generalize jvu W2 (2 * 13 + 0) (W2 (2 * 13 + 0) + 1 * W2 (0 * 13 + m)) = W3 at hs3 u1 u2
    refine mj_T.iinc (a := (m : Int)) rfl rfl ?_
    refine mj_T.pl rfl rfl rfl rfl ?_
    refine ih (s + 1) W3 g3 (by omega) hs3 (fun j hj => by rw [u2 _ (by omega), q2 _ (by omega), d1 _ (by omega) (by omega), f _ hj]) (fun e he => ?_) (Or.inr ⟨by omega, ?_⟩) (fun e he => ?_)
    · by_cases e0 : e = 0
      · subst e0
        rw [u1]
        exact v1
      · rw [u2 _ (by omega), q1 e he]
        have := d2 e he
        omega
    · have j1 : jdg W1 7 13 ≤ jdg V 2 13 + jdg V 1 13 - 1 := d3
      refine jdg_of_zero fun e x1 x2 => ?_
      rw [Nat.add_sub_cancel] at x1
      rw [u2 _ (by omega), q1 e x2]
      by_cases q : s = 0
      · have := d2 e x2
        rw [ha3 q, Nat.zero_mul, Nat.mul_zero] at this
        omega
      · exact jdg_zero W1 7 13 e (by omega) x2
    · have hk : 13 - m = 13 - (m + 1) + 1 := by omega
      have hks : 13 - (m + 1) = 13 - jdg V0 0 13 + s := by omega
      have hlt : ∀ i : Nat, ¬ i < 13 → (s - 1) * (jdg V0 1 13 - 1) < i := fun i q => by
        rcases hmul with q2 | q2
        · omega
        · rw [q2, Nat.zero_sub, Nat.zero_mul]
          omega
      have eV : jpo V 2 = hw (jpo V0 0) (jpo V0 1) (13 - (m + 1)) := funext fun i => by
        by_cases q : i < 13
        · rw [jpo_at q]
          exact c3 i q
        · have hdg := hw_deg (A := jpo V0 0) (B := jpo V0 1) (d := jdg V0 0 13) (b := jdg V0 1 13 - 1) (fun i hi => jpo_zb hi) (fun i hi => jpo_zb (by omega)) (jdg_le V0 0 13) s (by omega) i (hlt i q)
          rw [hks, hdg]
          exact jpo_zb (by have := jdg_le V 2 13; omega)
      have eB : jpo V 1 = jpo V0 1 := funext fun i => by
        by_cases q : i < 13
        · rw [jpo_at q, jpo_at q, f _ (by omega)]
        · have x1 := jdg_le V 1 13
          have x2 := jdg_le V0 1 13
          rw [jpo_zb (by omega), jpo_zb (by omega)]
      have hm9 := (hW e he).trans (prs_mul V 2 1 e)
      rw [eV, eB] at hm9
      rw [hk]
      by_cases e0 : e = 0
      · subst e0
        rw [u1, q1 0 (by decide), hm9, va, Int.one_mul]
        show _ = pz_mul _ _ 0 + (if 0 = 0 then jpo V0 0 (12 - (13 - (m + 1))) else 0)
        rw [if_pos rfl, show 12 - (13 - (m + 1)) = m by omega, jpo_at (by omega)]
      · rw [u2 _ (by omega), q1 e he, hm9, hw_rest _ _ _ _ (by omega)]
theorem ra_substitute {x y z : Int} (hx : jr x) (hy : jr y) (hz : jr z) (hI : jIx N0 u0 H tm er T h) : mj_Ok 40 236 [.ref 0, .int (jn x), .int (jn y), .int (jn z)] h (RPc 2 (fun c => c = 1) tm er T N0 u0 H ((0 ≤ x ∧ x ≤ 5) ∧ (0 ≤ y ∧ y ≤ 5) ∧ (0 ≤ z ∧ z ≤ 5)) (hw (rwN N0 y) (rwN N0 z) 13) x) := by
  refine mj_Ok.of (M := mj_m236) rfl rfl rfl ?_
  obtain ⟨S, N, B, X, V, hs, K⟩ := hI
  iterate 2 refine mj_T.pl rfl rfl rfl rfl ?_
  refine rT_put (v := 0) hs rfl rfl (by decide) rfl (fun g4 hs4 => ?_)
  have K4 := K.put (k := 3) (v := 0) ⟨by decide, by decide⟩ (by decide) (by decide) (by decide) (by decide) (by decide)
  have e4 : jvu S 3 0 3 = 0 := jvu_at S 3 0
  generalize jvu S 3 0 = S4 at hs4 K4 e4
  iterate 3 refine mj_T.pl rfl rfl rfl rfl ?_
  refine mj_T.call (ins := .invokestatic 210) rfl rfl (Nat.le_of_ble_eq_true rfl) (Nat.le_of_ble_eq_true rfl) rfl rfl (mj_Ok.up (by decide) (rx_areRegisters (D := 0) hx hy hz)) (fun v' h' hq' => ?_) (fun i h' hq' => by rcases hq' with ⟨_, _, h⟩ | ⟨_, h⟩ <;> cases h)
  rcases hq' with ⟨⟨x1, x2⟩, ⟨y3, y4, z5, z6⟩, hq'⟩ | ⟨hno, hq'⟩
  case' inr =>
    cases hq'
    refine mj_T.if0 (a := 0) rfl ⟨by decide, by decide⟩ (fun hc => ?_) (fun hc => ?_)
    · simp [jc] at hc
    iterate 2 refine mj_T.pl rfl rfl rfl rfl ?_
    refine mj_T.call (ins := .invokevirtual 198) rfl rfl (Nat.le_of_ble_eq_true rfl) (Nat.le_of_ble_eq_true rfl) (by simp [mj_recv, rS_f hs4]) rfl (mj_Ok.up (by decide) (rp_fails (D := 0) (c := 1) hs4)) (fun v' g5 hq' => ?_) (fun i h' hq' => by obtain ⟨_, _, h⟩ := hq'; cases h)
    obtain ⟨_, hs5, hq'⟩ := hq'
    cases hq'
    exact mj_T.ret rfl rfl rfl (Or.inr ⟨hno, 1, rfl, 0, g5, ⟨⟨by decide, by decide⟩, trivial⟩, rfl, ⟨_, N, B, X, V, hs5, K4.put ⟨by decide, by decide⟩ (by decide) (by decide) (by decide) (by decide) (by decide), jvu_at _ _ _⟩⟩)
  cases hq'
  refine mj_T.if0 (a := 1) rfl ⟨by decide, by decide⟩ (fun hc => ?_) (fun hc => ?_)
  rotate_left
  · simp [jc] at hc
  obtain ⟨x, rfl⟩ := Int.eq_ofNat_of_zero_le x1
  obtain ⟨y, rfl⟩ := Int.eq_ofNat_of_zero_le y3
  obtain ⟨z, rfl⟩ := Int.eq_ofNat_of_zero_le z5
  iterate 3 refine mj_T.pl rfl rfl rfl rfl ?_
  refine mj_T.call (ins := .invokevirtual 213) rfl rfl (Nat.le_of_ble_eq_true rfl) (Nat.le_of_ble_eq_true rfl) (by simp [mj_recv, rS_f hs4]) rfl (mj_Ok.up (by decide) (rp_loads (D := 0) (p := 0) (r := y) (by decide) (by omega) K4.nR hs4)) (fun v' g6 hq' => ?_) (fun i h' hq' => by obtain ⟨_, _, h⟩ := hq'; cases h)
  obtain ⟨_, hs6, hq'⟩ := hq'
  cases hq'
  have a6 : ∀ e, e < 13 → jfl V 0 (fun e => N (y * 13 + e)) 13 (0 * 13 + e) = N (y * 13 + e) := fun e he => jfl_at _ _ _ he
  have b6 : ∀ s, (s < 0 * 13 ∨ 0 * 13 + 13 ≤ s) → jfl V 0 (fun e => N (y * 13 + e)) 13 s = V s := fun s hc => jfl_off _ _ _ hc
  generalize jfl V 0 (fun e => N (y * 13 + e)) 13 = W6 at hs6 a6 b6
  iterate 3 refine mj_T.pl rfl rfl rfl rfl ?_
  refine mj_T.call (ins := .invokevirtual 213) rfl rfl (Nat.le_of_ble_eq_true rfl) (Nat.le_of_ble_eq_true rfl) (by simp [mj_recv, rS_f hs6]) rfl (mj_Ok.up (by decide) (rp_loads (D := 0) (p := 1) (r := z) (by decide) (by omega) K4.nR hs6)) (fun v' g7 hq' => ?_) (fun i h' hq' => by obtain ⟨_, _, h⟩ := hq'; cases h)
  obtain ⟨_, hs7, hq'⟩ := hq'
  cases hq'
  have a7 : ∀ e, e < 13 → jfl W6 1 (fun e => N (z * 13 + e)) 13 (1 * 13 + e) = N (z * 13 + e) := fun e he => jfl_at _ _ _ he
  have b7 : ∀ s, (s < 1 * 13 ∨ 1 * 13 + 13 ≤ s) → jfl W6 1 (fun e => N (z * 13 + e)) 13 s = W6 s := fun s hc => jfl_off _ _ _ hc
  generalize jfl W6 1 (fun e => N (z * 13 + e)) 13 = W7 at hs7 a7 b7
  have eA : jpo W7 0 = rwN N0 (y : Int) := funext fun e => by
    unfold jpo
    by_cases q : e < 13
    · rw [if_pos q, b7 _ (by omega), a6 e q]
      exact rwN_at K4.2.1 (by omega) q
    · rw [if_neg q]
      show 0 = if e < 13 then _ else 0
      rw [if_neg q]
  have eB : jpo W7 1 = rwN N0 (z : Int) := funext fun e => by
    unfold jpo
    by_cases q : e < 13
    · rw [if_pos q, a7 e q]
      exact rwN_at K4.2.1 (by omega) q
    · rw [if_neg q]
      show 0 = if e < 13 then _ else 0
      rw [if_neg q]
  have c1 : ∀ e, e < 13 → (W7 (0 * 13 + e)).natAbs ≤ 10 ^ 18 := fun e he => by
    rw [b7 _ (by omega), a6 e he]
    exact K4.sh (r := y) (by omega) he
  have c2 : ∀ e, e < 13 → (W7 (1 * 13 + e)).natAbs ≤ 10 ^ 18 := fun e he => by
    rw [a7 e he]
    exact K4.sh (r := z) (by omega) he
  have hl0 := jdg_le W7 0 13
  have hl1 := jdg_le W7 1 13
  have t62 : (jdg W7 0 13 - 1) * (jdg W7 1 13 - 1) ≤ 12 → mj_T 39 mj_m236 62 [some (.ref 0), some (.int (jn (x : Int))), some (.int (jn (y : Int))), some (.int (jn (z : Int))), none] [] g7 (RPc 2 (fun c => c = 1) tm er T N0 u0 H ((0 ≤ (x : Int) ∧ (x : Int) ≤ 5) ∧ (0 ≤ (y : Int) ∧ (y : Int) ≤ 5) ∧ (0 ≤ (z : Int) ∧ (z : Int) ≤ 5)) (hw (rwN N0 (y : Int)) (rwN N0 (z : Int)) 13) (x : Int)) := fun hd => by
    iterate 2 refine mj_T.pl rfl rfl rfl rfl ?_
    refine mj_T.call (ins := .invokevirtual 110) rfl rfl (Nat.le_of_ble_eq_true rfl) (Nat.le_of_ble_eq_true rfl) (by simp [mj_recv, rS_f hs7]) rfl (mj_Ok.up (by decide) (jp_empties (D := 0) (rG S4 N B T X) (p := 2) (by decide) hs7)) (fun v' g8 hq' => ?_) (fun i h' hq' => by obtain ⟨_, _, h⟩ := hq'; cases h)
    obtain ⟨_, hs8, hq'⟩ := hq'
    cases hq'
    have q1 : ∀ e, e < 13 → jfl W7 2 (fun _ => 0) 13 (2 * 13 + e) = 0 := fun e he => jfl_at _ _ _ he
    have q2 : ∀ s, (s < 26 ∨ 39 ≤ s) → jfl W7 2 (fun _ => 0) 13 s = W7 s := fun s hc => jfl_off _ _ _ (by omega)
    generalize jfl W7 2 (fun _ => 0) 13 = W8 at hs8 q1 q2
    have e0 : jdg W8 0 13 = jdg W7 0 13 := jdg_congr 13 fun e he => q2 _ (by omega)
    iterate 2 refine mj_T.pl rfl rfl rfl rfl ?_
    refine mj_T.call (ins := .invokevirtual 114) rfl rfl (Nat.le_of_ble_eq_true rfl) (Nat.le_of_ble_eq_true rfl) (by simp [mj_recv, rS_f hs8]) rfl (mj_Ok.up (by decide) (jp_degreeOf (D := 0) (rG S4 N B T X) (p := 0) (by decide) hs8)) (fun v' h' hq' => ?_) (fun i h' hq' => by cases hq')
    cases hq'
    rw [e0]
    refine mj_T.pl rfl rfl rfl rfl ?_
    exact ra_sb_loop (V0 := W7) ⟨⟨by omega, by omega⟩, ⟨by omega, by omega⟩, ⟨by omega, by omega⟩⟩ (by rw [eA, eB]) (by omega) K4 e4 c1 c2 hd (jdg W7 0 13) 0 _ _ (by omega) hs8 (fun j hj => q2 _ (by omega)) (fun e he => by rw [q1 e he]; exact Nat.zero_le _) (Or.inl ⟨rfl, by have := jdg_of_zero (W := W8) (p := 2) (d := 0) (k := 13) (fun e _ he => q1 e he); omega⟩) (fun e he => by rw [q1 e he]; exact (hw_low (d := jdg W7 0 13) (fun i hi => jpo_zb hi) _ (by omega) e).symm)
  iterate 2 refine mj_T.pl rfl rfl rfl rfl ?_
  refine mj_T.call (ins := .invokevirtual 114) rfl rfl (Nat.le_of_ble_eq_true rfl) (Nat.le_of_ble_eq_true rfl) (by simp [mj_recv, rS_f hs7]) rfl (mj_Ok.up (by decide) (jp_degreeOf (D := 0) (rG S4 N B T X) (p := 1) (by decide) hs7)) (fun v' h' hq' => ?_) (fun i h' hq' => by cases hq')
  cases hq'
  refine mj_T.if0 (a := (jdg W7 1 13 : Int) - 1) rfl ⟨by omega, by omega⟩ (fun hc => ?_) (fun hc => ?_)
  · simp only [jc, decide_eq_true_eq] at hc
    exact t62 (by rw [show jdg W7 1 13 - 1 = 0 by omega, Nat.mul_zero]; exact Nat.zero_le _)
  simp only [jc, decide_eq_false_iff_not] at hc
  iterate 2 refine mj_T.pl rfl rfl rfl rfl ?_
  refine mj_T.call (ins := .invokevirtual 114) rfl rfl (Nat.le_of_ble_eq_true rfl) (Nat.le_of_ble_eq_true rfl) (by simp [mj_recv, rS_f hs7]) rfl (mj_Ok.up (by decide) (jp_degreeOf (D := 0) (rG S4 N B T X) (p := 0) (by decide) hs7)) (fun v' h' hq' => ?_) (fun i h' hq' => by cases hq')
  cases hq'
  iterate 2 refine mj_T.pl rfl rfl rfl rfl ?_
  refine mj_T.call (ins := .invokevirtual 114) rfl rfl (Nat.le_of_ble_eq_true rfl) (Nat.le_of_ble_eq_true rfl) (by simp [mj_recv, rS_f hs7]) rfl (mj_Ok.up (by decide) (jp_degreeOf (D := 0) (rG S4 N B T X) (p := 1) (by decide) hs7)) (fun v' h' hq' => ?_) (fun i h' hq' => by cases hq')
  cases hq'
  refine mj_T.imul rfl ?_
  have e2 : (jdg W7 0 13 - 1) * (jdg W7 1 13 - 1) ≤ 12 * 12 := Nat.mul_le_mul (by omega) (by omega)
  have e3 : ((jdg W7 0 13 : Nat) : Int) - 1 = ((jdg W7 0 13 - 1 : Nat) : Int) ∨ jdg W7 0 13 = 0 := by omega
  have e4 : ((jdg W7 1 13 : Nat) : Int) - 1 = ((jdg W7 1 13 - 1 : Nat) : Int) := by omega
  have e5 : -12 ≤ (((jdg W7 0 13 : Nat) : Int) - 1) * (((jdg W7 1 13 : Nat) : Int) - 1) ∧ (((jdg W7 0 13 : Nat) : Int) - 1) * (((jdg W7 1 13 : Nat) : Int) - 1) ≤ 144 ∧ ((((jdg W7 0 13 : Nat) : Int) - 1) * (((jdg W7 1 13 : Nat) : Int) - 1) ≤ 12 → (jdg W7 0 13 - 1) * (jdg W7 1 13 - 1) ≤ 12) ∧ (12 < (((jdg W7 0 13 : Nat) : Int) - 1) * (((jdg W7 1 13 : Nat) : Int) - 1) → 12 < (jdg W7 0 13 - 1) * (jdg W7 1 13 - 1)) := by
    rcases e3 with e3 | e3
    · rw [e3, e4, ← Int.natCast_mul]
      omega
    · rw [e3]
      omega
  refine mj_T.pl rfl rfl rfl rfl ?_
  refine mj_T.icmp (a := (((jdg W7 0 13 : Nat) : Int) - 1) * (((jdg W7 1 13 : Nat) : Int) - 1)) (b := 12) rfl ⟨by omega, by omega⟩ ⟨by decide, by decide⟩ (fun hc2 => ?_) (fun hc2 => ?_)
  · simp only [jc, decide_eq_true_eq] at hc2
    exact t62 (e5.2.2.1 hc2)
  iterate 2 refine mj_T.pl rfl rfl rfl rfl ?_
  refine mj_T.call (ins := .invokevirtual 198) rfl rfl (Nat.le_of_ble_eq_true rfl) (Nat.le_of_ble_eq_true rfl) (by simp [mj_recv, rS_f hs7]) rfl (mj_Ok.up (by decide) (rp_fails (D := 0) (c := 2) hs7)) (fun v' g9 hq' => ?_) (fun i h' hq' => by obtain ⟨_, _, h⟩ := hq'; cases h)
  obtain ⟨_, hs9, hq'⟩ := hq'
  cases hq'
  have hbad := hw_nofit (V := W7) (e5.2.2.2 (by simp only [jc, decide_eq_false_iff_not] at hc2; omega))
  rw [eA, eB] at hbad
  exact mj_T.ret rfl rfl rfl (Or.inl ⟨⟨⟨by omega, by omega⟩, ⟨by omega, by omega⟩, ⟨by omega, by omega⟩⟩, Or.inr ⟨hbad, 0, g9, ⟨⟨by decide, by decide⟩, trivial⟩, rfl, ⟨_, N, B, X, W7, hs9, K4.put ⟨by decide, by decide⟩ (by decide) (by decide) (by decide) (by decide) (by decide), jvu_at _ _ _⟩⟩⟩)
end RAS
/-! The reference's calls that change registers: what is answered and thrown, the rest. -/
def dvC (N : Nat → Int) (x y z u c : Int) : Prop := (¬ ((0 ≤ x ∧ x ≤ 5) ∧ (0 ≤ y ∧ y ≤ 5) ∧ (0 ≤ z ∧ z ≤ 5) ∧ (0 ≤ u ∧ u ≤ 5)) ∧ c = 1) ∨ (((0 ≤ x ∧ x ≤ 5) ∧ (0 ≤ y ∧ y ≤ 5) ∧ (0 ≤ z ∧ z ≤ 5) ∧ (0 ≤ u ∧ u ≤ 5)) ∧ x = y ∧ c = 2) ∨ (((0 ≤ x ∧ x ≤ 5) ∧ (0 ≤ y ∧ y ≤ 5) ∧ (0 ≤ z ∧ z ≤ 5) ∧ (0 ≤ u ∧ u ≤ 5)) ∧ x ≠ y ∧ fdg (rwN N u) 13 = 0 ∧ c = 3) ∨ (((0 ≤ x ∧ x ≤ 5) ∧ (0 ≤ y ∧ y ≤ 5) ∧ (0 ≤ z ∧ z ≤ 5) ∧ (0 ≤ u ∧ u ≤ 5)) ∧ x ≠ y ∧ 0 < fdg (rwN N u) 13 ∧ ¬ (fit13 (dvQ (rwN N z) (rwN N u)) ∧ fit13 (dvT (rwN N z) (rwN N u))) ∧ c = 4)
def RDvc (tm er : Int) (T : Nat → Int) (N0 : Nat → Int) (u0 : Nat) (H : Nat → Nat → Int) (x y z u : Int) (r : mj_R) : Prop := (okDv N0 x y z u ∧ ∃ w v : Nat → Int, (∀ j, j < 13 → w j = dvQ (rwN N0 z) (rwN N0 u) j) ∧ (∀ j, j < 13 → v j = dvT (rwN N0 z) (rwN N0 u) j) ∧ rIc 0 (fun v => v = ((fdg (rwN N0 z) 13 - (fdg (rwN N0 u) 13 - 1) : Nat) : Int)) (jfl (jfl N0 x.toNat w 13) y.toNat v 13) (upu u0) (pushH N0 H) tm er T r) ∨ (¬ okDv N0 x y z u ∧ ∃ c, dvC N0 x y z u c ∧ rIc c (fun _ => True) N0 u0 H tm er T r)
def adRc (N0 : Nat → Int) (u0 : Nat) (H : Nat → Nat → Int) (tm er : Int) (T : Nat → Int) (x y : Int) (r : mj_R) : Prop := (okPt N0 x y ∧ rIc 0 (fun v => v = (((N0 78).toNat + 1 : Nat) : Int)) (adN N0 x y) (upu u0) (pushH N0 H) tm er T r) ∨ (¬ okPt N0 x y ∧ ∃ c, ((¬ ((-9 ≤ x ∧ x ≤ 9) ∧ (-999 ≤ y ∧ y ≤ 999)) ∧ c = 1) ∨ (((-9 ≤ x ∧ x ≤ 9) ∧ (-999 ≤ y ∧ y ≤ 999)) ∧ c = 2)) ∧ rIc c (fun _ => True) N0 u0 H tm er T r)
def RRdc (N0 : Nat → Int) (u0 : Nat) (H : Nat → Nat → Int) (tm : Nat) (er : Int) (T : Nat → Int) (x : Int) (r : mj_R) : Prop := ((0 ≤ x ∧ x ≤ 5) ∧ ((rdErr T tm = -1 ∧ ∃ P, rdV T tm = some P ∧ fit13 P ∧ ∃ w : Nat → Int, (∀ j, j < 13 → w j = P j) ∧ rIc 0 (fun v => v = (fdg w 13 : Int) - 1) (jfl N0 x.toNat w 13) (upu u0) (pushH N0 H) 0 (-1) T r) ∨ ((rdErr T tm ≠ -1 ∨ rdV T tm = none) ∧ ∃ c, ((rdErr T tm ≠ -1 ∧ c = 2) ∨ (rdErr T tm = -1 ∧ rdV T tm = none ∧ c = 3)) ∧ rIc c (fun _ => True) N0 u0 H 0 (rdErr T tm) T r))) ∨ (¬ (0 ≤ x ∧ x ≤ 5) ∧ rIc 1 (fun _ => True) N0 u0 H tm er T r)
section RAT
variable {h : mj_H} {tm er : Int} {T : Nat → Int} {N0 : Nat → Int} {u0 : Nat} {H : Nat → Nat → Int}
theorem ra_gcd_loop {S N B X : Nat → Int} {x : Nat} {y z : Int} {reg : Prop} (hreg : reg) {c : Int} {G0 P : pz_P} (hP : P = pz_sc c G0) (hG0 : pz_lt G0 13) (hx : x ≤ 5) (K : jKx N0 u0 H tm er S N B T) (e3s : S 3 = 0) :
    ∀ (m k : Nat) (V : Nat → Int) (h : mj_H), k + m = 13 → rS S N B T X V h → (V 656).natAbs ≤ 10 ^ 18 → (∀ e, k ≤ e → e < 13 → (V (4 * 13 + e)).natAbs ≤ kq_F (10 ^ 18) 24) → V 656 = c → (∀ e, e < k → V (4 * 13 + e) = c * G0 e) → (∀ e, k ≤ e → e < 13 → V (4 * 13 + e) = G0 e) → mj_T 39 mj_m238 74 [some (.ref 0), some (.int (jn (x : Int))), some (.int (jn y)), some (.int (jn z)), some (.int (jn (k : Int)))] [] h (RPc 2 (fun c => c = 1) tm er T N0 u0 H reg P (x : Int)) := by
  intro m
  induction m with
  | zero =>
    intro k V h hk hs c1 c2 v6 l1 l2
    have hk : k = 13 := by omega
    subst hk
    iterate 2 refine mj_T.pl rfl rfl rfl rfl ?_
    refine mj_T.icmp (a := ((13 : Nat) : Int)) (b := 13) rfl ⟨by decide, by decide⟩ ⟨by decide, by decide⟩ (fun hc => ?_) (fun hc => ?_)
    rotate_left
    · simp [jc] at hc
    iterate 4 refine mj_T.pl rfl rfl rfl rfl ?_
    refine mj_T.call (ins := .invokevirtual 219) rfl rfl (Nat.le_of_ble_eq_true rfl) (Nat.le_of_ble_eq_true rfl) (by simp [mj_recv, rS_f hs]) rfl (mj_Ok.up (by decide) (ra_puts (D := 0) (r := x) (p := 4) (c := 2) (by omega) (by decide) ⟨by decide, by decide⟩ K hs e3s)) (fun v' h' hq' => ?_) (fun i h' hq' => by rcases hq' with ⟨_, _, _, _, h, _⟩ | ⟨_, _, _, _, h, _⟩ <;> cases h)
    have hres : ∀ j, j < 13 → (fun e => V (4 * 13 + e)) j = P j := fun j hj => by
      rw [hP]
      exact l1 j hj
    have hz : ∀ i, 13 ≤ i → P i = 0 := fun i hi => by
      rw [hP]
      show c * G0 i = 0
      rw [hG0 i hi, Int.mul_zero]
    rcases hq' with ⟨hs9, z9, h9, hz9, e9, hI9⟩ | ⟨hs9, z9, h9, hz9, e9, hI9⟩
    · cases e9
      exact mj_T.ret rfl rfl rfl (Or.inl ⟨hreg, Or.inl ⟨⟨sml_cg hres hs9, hz⟩, _, hres, z9, _, hz9, rfl, hI9⟩⟩)
    · cases e9
      exact mj_T.ret rfl rfl rfl (Or.inl ⟨hreg, Or.inr ⟨fun q => hs9 (sml_cg (fun j hj => (hres j hj).symm) q.1), z9, _, hz9, rfl, hI9⟩⟩)
  | succ m ih =>
    intro k V h hk hs c1 c2 v6 l1 l2
    iterate 2 refine mj_T.pl rfl rfl rfl rfl ?_
    refine mj_T.icmp (a := (k : Int)) (b := 13) rfl ⟨by omega, by omega⟩ ⟨by decide, by decide⟩ (fun hc => ?_) (fun hc => ?_)
    · simp only [jc, decide_eq_true_eq] at hc
      omega
    iterate 3 refine mj_T.pl rfl rfl rfl rfl ?_
    refine mj_T.call (ins := .invokestatic 104) rfl rfl (Nat.le_of_ble_eq_true rfl) (Nat.le_of_ble_eq_true rfl) rfl rfl (mj_Ok.up (by decide) (jq_slot (D := 0) (p := 4) (i := k))) (fun v' h' hq' => ?_) (fun i h' hq' => by cases hq')
    cases hq'
    iterate 2 refine mj_T.pl rfl rfl rfl rfl ?_
    refine mj_T.call (ins := .invokestatic 104) rfl rfl (Nat.le_of_ble_eq_true rfl) (Nat.le_of_ble_eq_true rfl) rfl rfl (mj_Ok.up (by decide) (jq_slot (D := 0) (p := 4) (i := k))) (fun v' h' hq' => ?_) (fun i h' hq' => by cases hq')
    cases hq'
    refine mj_T.pl rfl rfl rfl rfl ?_
    refine mj_T.call (ins := .invokevirtual 117) rfl rfl (Nat.le_of_ble_eq_true rfl) (Nat.le_of_ble_eq_true rfl) (by simp [mj_recv, rS_f hs]) rfl (mj_Ok.up (by decide) (jS_mul (D := 0) (V := V) (rG S N B T X) (to := 4 * 13 + k) (a := 4 * 13 + k) (b := 656) (by omega) (by omega) (by decide) (jnl_of_lt (M := kq_F (10 ^ 18) 24 * 10 ^ 18) (by rw [Int.natAbs_mul]; exact Nat.mul_le_mul (c2 k (by omega) (by omega)) c1) rp_small5) hs)) (fun v' g1 hq' => ?_) (fun i h' hq' => by obtain ⟨_, _, h⟩ := hq'; cases h)
    obtain ⟨_, hs1, hq'⟩ := hq'
    cases hq'
    refine mj_T.iinc (a := (k : Int)) rfl rfl ?_
    refine mj_T.pl rfl rfl rfl rfl ?_
    refine ih (k + 1) _ g1 (by omega) hs1 (by rw [jvu_ne _ _ _ (by omega)]; exact c1) (fun e e1 e2 => by rw [jvu_ne _ _ _ (by omega)]; exact c2 e (by omega) e2) (by rw [jvu_ne _ _ _ (by omega)]; exact v6) (fun e he => ?_) (fun e e1 e2 => by rw [jvu_ne _ _ _ (by omega)]; exact l2 e (by omega) e2)
    by_cases q : e = k
    · subst q
      rw [jvu_at, l2 e (Nat.le_refl _) (by omega), v6, Int.mul_comm]
    · rw [jvu_ne _ _ _ (by omega)]
      exact l1 e (by omega)
theorem ra_gcd {x y z : Int} (hx : jr x) (hy : jr y) (hz : jr z) (hI : jIx N0 u0 H tm er T h) : mj_Ok 40 238 [.ref 0, .int (jn x), .int (jn y), .int (jn z)] h (fun r => ∃ R : pz_P, (((0 ≤ x ∧ x ≤ 5) ∧ (0 ≤ y ∧ y ≤ 5) ∧ (0 ≤ z ∧ z ≤ 5)) → gcR (rwN N0 y) (rwN N0 z) R) ∧ RPc 2 (fun c => c = 1) tm er T N0 u0 H ((0 ≤ x ∧ x ≤ 5) ∧ (0 ≤ y ∧ y ≤ 5) ∧ (0 ≤ z ∧ z ≤ 5)) R x r) := by
  refine mj_Ok.of (M := mj_m238) rfl rfl rfl ?_
  obtain ⟨S, N, B, X, V, hs, K⟩ := hI
  iterate 2 refine mj_T.pl rfl rfl rfl rfl ?_
  refine rT_put (v := 0) hs rfl rfl (by decide) rfl (fun g15 hs15 => ?_)
  have K15 := K.put (k := 3) (v := 0) ⟨by decide, by decide⟩ (by decide) (by decide) (by decide) (by decide) (by decide)
  have e15 : jvu S 3 0 3 = 0 := jvu_at S 3 0
  generalize jvu S 3 0 = S15 at hs15 K15 e15
  iterate 3 refine mj_T.pl rfl rfl rfl rfl ?_
  refine mj_T.call (ins := .invokestatic 210) rfl rfl (Nat.le_of_ble_eq_true rfl) (Nat.le_of_ble_eq_true rfl) rfl rfl (mj_Ok.up (by decide) (rx_areRegisters (D := 0) hx hy hz)) (fun v' h' hq' => ?_) (fun i h' hq' => by rcases hq' with ⟨_, _, h⟩ | ⟨_, h⟩ <;> cases h)
  rcases hq' with ⟨⟨x1, x2⟩, ⟨y3, y4, z5, z6⟩, hq'⟩ | ⟨hno, hq'⟩
  case' inr =>
    cases hq'
    refine mj_T.if0 (a := 0) rfl ⟨by decide, by decide⟩ (fun hc => ?_) (fun hc => ?_)
    · simp [jc] at hc
    iterate 2 refine mj_T.pl rfl rfl rfl rfl ?_
    refine mj_T.call (ins := .invokevirtual 198) rfl rfl (Nat.le_of_ble_eq_true rfl) (Nat.le_of_ble_eq_true rfl) (by simp [mj_recv, rS_f hs15]) rfl (mj_Ok.up (by decide) (rp_fails (D := 0) (c := 1) hs15)) (fun v' g16 hq' => ?_) (fun i h' hq' => by obtain ⟨_, _, h⟩ := hq'; cases h)
    obtain ⟨_, hs16, hq'⟩ := hq'
    cases hq'
    exact mj_T.ret rfl rfl rfl ⟨pz_0, fun q => absurd q hno, Or.inr ⟨hno, 1, rfl, 0, g16, ⟨⟨by decide, by decide⟩, trivial⟩, rfl, ⟨_, N, B, X, V, hs16, K15.put ⟨by decide, by decide⟩ (by decide) (by decide) (by decide) (by decide) (by decide), jvu_at _ _ _⟩⟩⟩
  cases hq'
  refine mj_T.if0 (a := 1) rfl ⟨by decide, by decide⟩ (fun hc => ?_) (fun hc => ?_)
  rotate_left
  · simp [jc] at hc
  obtain ⟨x, rfl⟩ := Int.eq_ofNat_of_zero_le x1
  obtain ⟨y, rfl⟩ := Int.eq_ofNat_of_zero_le y3
  obtain ⟨z, rfl⟩ := Int.eq_ofNat_of_zero_le z5
  iterate 3 refine mj_T.pl rfl rfl rfl rfl ?_
  refine mj_T.call (ins := .invokevirtual 213) rfl rfl (Nat.le_of_ble_eq_true rfl) (Nat.le_of_ble_eq_true rfl) (by simp [mj_recv, rS_f hs15]) rfl (mj_Ok.up (by decide) (rp_loads (D := 0) (p := 5) (r := y) (by decide) (by omega) K15.nR hs15)) (fun v' g17 hq' => ?_) (fun i h' hq' => by obtain ⟨_, _, h⟩ := hq'; cases h)
  obtain ⟨_, hs17, hq'⟩ := hq'
  cases hq'
  have a17 : ∀ e, e < 13 → jfl V 5 (fun e => N (y * 13 + e)) 13 (5 * 13 + e) = N (y * 13 + e) := fun e he => jfl_at _ _ _ he
  have b17 : ∀ s, (s < 5 * 13 ∨ 5 * 13 + 13 ≤ s) → jfl V 5 (fun e => N (y * 13 + e)) 13 s = V s := fun s hc => jfl_off _ _ _ hc
  generalize jfl V 5 (fun e => N (y * 13 + e)) 13 = W17 at hs17 a17 b17
  iterate 3 refine mj_T.pl rfl rfl rfl rfl ?_
  refine mj_T.call (ins := .invokevirtual 213) rfl rfl (Nat.le_of_ble_eq_true rfl) (Nat.le_of_ble_eq_true rfl) (by simp [mj_recv, rS_f hs17]) rfl (mj_Ok.up (by decide) (rp_loads (D := 0) (p := 6) (r := z) (by decide) (by omega) K15.nR hs17)) (fun v' g18 hq' => ?_) (fun i h' hq' => by obtain ⟨_, _, h⟩ := hq'; cases h)
  obtain ⟨_, hs18, hq'⟩ := hq'
  cases hq'
  have a18 : ∀ e, e < 13 → jfl W17 6 (fun e => N (z * 13 + e)) 13 (6 * 13 + e) = N (z * 13 + e) := fun e he => jfl_at _ _ _ he
  have b18 : ∀ s, (s < 6 * 13 ∨ 6 * 13 + 13 ≤ s) → jfl W17 6 (fun e => N (z * 13 + e)) 13 s = W17 s := fun s hc => jfl_off _ _ _ hc
  generalize jfl W17 6 (fun e => N (z * 13 + e)) 13 = W18 at hs18 a18 b18
  have c1 : ∀ e, e < 13 → (W18 (5 * 13 + e)).natAbs ≤ 10 ^ 18 := fun e he => by
    rw [b18 _ (by omega), a17 e he]
    exact K15.sh (r := y) (by omega) he
  have c2 : ∀ e, e < 13 → (W18 (6 * 13 + e)).natAbs ≤ 10 ^ 18 := fun e he => by
    rw [a18 e he]
    exact K15.sh (r := z) (by omega) he
  iterate 3 refine mj_T.pl rfl rfl rfl rfl ?_
  refine mj_T.call (ins := .invokevirtual 130) rfl rfl (Nat.le_of_ble_eq_true rfl) (Nat.le_of_ble_eq_true rfl) (by simp [mj_recv, rS_f hs18]) rfl (mj_Ok.up (by decide) (jp_contents (D := 0) (rG S15 N B T X) (to := 661) (p := 5) (by decide) (by decide) (by decide) (by decide) (by decide) (by decide) (by decide) hs18)) (fun v' g19 hq' => ?_) (fun i h' hq' => by obtain ⟨_, _, _, _, _, h⟩ := hq'; cases h)
  obtain ⟨W19, _, hs19, d1, d2, hq'⟩ := hq'
  cases hq'
  iterate 3 refine mj_T.pl rfl rfl rfl rfl ?_
  refine mj_T.call (ins := .invokevirtual 130) rfl rfl (Nat.le_of_ble_eq_true rfl) (Nat.le_of_ble_eq_true rfl) (by simp [mj_recv, rS_f hs19]) rfl (mj_Ok.up (by decide) (jp_contents (D := 0) (rG S15 N B T X) (to := 662) (p := 6) (by decide) (by decide) (by decide) (by decide) (by decide) (by decide) (by decide) hs19)) (fun v' g20 hq' => ?_) (fun i h' hq' => by obtain ⟨_, _, _, _, _, h⟩ := hq'; cases h)
  obtain ⟨W20, _, hs20, d3, d4, hq'⟩ := hq'
  cases hq'
  iterate 4 refine mj_T.pl rfl rfl rfl rfl ?_
  refine mj_T.call (ins := .invokevirtual 127) rfl rfl (Nat.le_of_ble_eq_true rfl) (Nat.le_of_ble_eq_true rfl) (by simp [mj_recv, rS_f hs20]) rfl (mj_Ok.up (by decide) (jp_commons (D := 0) (V := W20) (rG S15 N B T X) (to := 656) (i := 661) (j := 662) (by decide) (by decide) (by decide) (by decide) (by decide) (by decide) (by decide) hs20)) (fun v' g21 hq' => ?_) (fun i h' hq' => by obtain ⟨_, _, _, _, _, h⟩ := hq'; cases h)
  obtain ⟨W21, _, hs21, d5, d6, hq'⟩ := hq'
  cases hq'
  have k5 : jgk W18 5 13 ≤ 10 ^ 18 := jgk_le c1
  have c3 : ∀ e, e < 13 → (W19 (6 * 13 + e)).natAbs ≤ 10 ^ 18 := fun e he => by rw [d2 _ (by omega) (by omega) (by omega) (by omega) (by omega)]; exact c2 e he
  have k6 : jgk W19 6 13 ≤ 10 ^ 18 := jgk_le c3
  have k7 : (W21 656).natAbs ≤ 10 ^ 18 := by rw [d5, d4 661 (by decide) (by decide) (by decide) (by decide) (by decide), d1, d3, Int.natAbs_natCast, Int.natAbs_natCast, Int.natAbs_natCast]; exact gcd_le2 k5 k6
  have c5 : ∀ e, e < 13 → (W21 (5 * 13 + e)).natAbs ≤ 10 ^ 18 := fun e he => by rw [d6 _ (by omega) (by omega) (by omega) (by omega), d4 _ (by omega) (by omega) (by omega) (by omega) (by omega), d2 _ (by omega) (by omega) (by omega) (by omega) (by omega)]; exact c1 e he
  have c6 : ∀ e, e < 13 → (W21 (6 * 13 + e)).natAbs ≤ 10 ^ 18 := fun e he => by rw [d6 _ (by omega) (by omega) (by omega) (by omega), d4 _ (by omega) (by omega) (by omega) (by omega) (by omega)]; exact c3 e he
  iterate 4 refine mj_T.pl rfl rfl rfl rfl ?_
  refine mj_T.call (ins := .invokevirtual 152) rfl rfl (Nat.le_of_ble_eq_true rfl) (Nat.le_of_ble_eq_true rfl) (by simp [mj_recv, rS_f hs21]) rfl (mj_Ok.up (by decide) (jx_commonsA (D := 0) (V := W21) (rG S15 N B T X) (A := 10 ^ 18) kq_fit18 (to := 4) (a := 5) (b := 6) (by decide) (by decide) (by decide) (by decide) (by decide) (by decide) (by decide) (by decide) (by decide) c5 c6 hs21)) (fun v' g22 hq' => ?_) (fun i h' hq' => by obtain ⟨_, _, _, _, _, h⟩ := hq'; cases h)
  obtain ⟨W22, _, hs22, d7, ⟨d8, dX⟩, hq'⟩ := hq'
  cases hq'
  iterate 2 refine mj_T.pl rfl rfl rfl rfl ?_
  have v65 : ∀ e, e < 13 → W21 (5 * 13 + e) = rwN N0 (y : Int) e := fun e he => by
    rw [d6 _ (by omega) (by omega) (by omega) (by omega), d4 _ (by omega) (by omega) (by omega) (by omega) (by omega), d2 _ (by omega) (by omega) (by omega) (by omega) (by omega), b18 _ (by omega), a17 e he]
    exact rwN_at K15.2.1 (by omega) he
  have v66 : ∀ e, e < 13 → W21 (6 * 13 + e) = rwN N0 (z : Int) e := fun e he => by
    rw [d6 _ (by omega) (by omega) (by omega) (by omega), d4 _ (by omega) (by omega) (by omega) (by omega) (by omega), d2 _ (by omega) (by omega) (by omega) (by omega) (by omega), a18 e he]
    exact rwN_at K15.2.1 (by omega) he
  have eA : jpo W21 5 = rwN N0 (y : Int) := funext fun e => by
    by_cases q : e < 13
    · rw [jpo_at q, v65 e q]
    · rw [jpo_lt W21 5 e (by omega), rwN_z N0 _ e (by omega)]
  have eB : jpo W21 6 = rwN N0 (z : Int) := funext fun e => by
    by_cases q : e < 13
    · rw [jpo_at q, v66 e q]
    · rw [jpo_lt W21 6 e (by omega), rwN_z N0 _ e (by omega)]
  have hg1 : W21 656 = ((Nat.gcd (cgd (rwN N0 (y : Int)) 13) (cgd (rwN N0 (z : Int)) 13) : Nat) : Int) := by
    have j5 : jgk W18 5 13 = cgd (rwN N0 (y : Int)) 13 := jgk_cgd (fun e he => by
      rw [b18 _ (by omega), a17 e he]
      exact rwN_at K15.2.1 (by omega) he)
    have j6 : jgk W19 6 13 = cgd (rwN N0 (z : Int)) 13 := jgk_cgd (fun e he => by
      rw [d2 _ (by omega) (by omega) (by omega) (by omega) (by omega), a18 e he]
      exact rwN_at K15.2.1 (by omega) he)
    rw [d5, d4 661 (by decide) (by decide) (by decide) (by decide) (by decide), d1, d3, Int.natAbs_natCast, Int.natAbs_natCast, j5, j6]
  have sm : ∀ r : Nat, r ≤ 5 → sml (rwN N0 (r : Int)) := fun r hr j hj => by
    rw [← rwN_at K15.2.1 hr hj]
    have := K15.1.1.1 (r * 13 + j) (by omega)
    omega
  rw [eA, eB] at dX
  obtain ⟨x1', x2', x3', x4', x5'⟩ := dX.fin
  have hgc := gcR_of (G := jpo W22 4) (sm y (by omega)) (sm z (by omega)) (rwN_z N0 _) (rwN_z N0 _) (jpo_lt W22 4) x1' x2' x3' x4' x5'
  refine mj_T.to (ra_gcd_loop (reg := ((0 ≤ (x : Int) ∧ (x : Int) ≤ 5) ∧ (0 ≤ (y : Int) ∧ (y : Int) ≤ 5) ∧ (0 ≤ (z : Int) ∧ (z : Int) ≤ 5))) (c := W21 656) (G0 := jpo W22 4) ⟨⟨by omega, by omega⟩, ⟨by omega, by omega⟩, ⟨by omega, by omega⟩⟩ (by rw [hg1]) (jpo_lt W22 4) (by omega) K15 e15 13 0 _ _ (by omega) hs22 (by rw [d7 656 (by decide) (by decide) (by decide) (by decide) (by decide) (by decide) (by decide) (by decide) (by decide) (by decide)]; exact k7) (fun e _ he => by have := d8 e; rw [jpo_at he] at this; exact this) (d7 656 (by decide) (by decide) (by decide) (by decide) (by decide) (by decide) (by decide) (by decide) (by decide) (by decide)) (fun e he => absurd he (by omega)) (fun e _ he => (jpo_at he).symm)) (fun r hr => ⟨_, fun _ => hgc, hr⟩)
theorem ra_simple {x y : Int} (hx : jr x) (hy : jr y) (hI : jIx N0 u0 H tm er T h) : mj_Ok 40 240 [.ref 0, .int (jn x), .int (jn y)] h (fun r => ∃ S : pz_P, (((0 ≤ x ∧ x ≤ 5) ∧ (0 ≤ y ∧ y ≤ 5)) → 0 < fdg (rwN N0 y) 13 → smR (rwN N0 y) S) ∧ RPc 3 (fun c => (¬ ((0 ≤ x ∧ x ≤ 5) ∧ (0 ≤ y ∧ y ≤ 5)) ∧ c = 1) ∨ (((0 ≤ x ∧ x ≤ 5) ∧ (0 ≤ y ∧ y ≤ 5)) ∧ fdg (rwN N0 y) 13 = 0 ∧ c = 2)) tm er T N0 u0 H (((0 ≤ x ∧ x ≤ 5) ∧ (0 ≤ y ∧ y ≤ 5)) ∧ 0 < fdg (rwN N0 y) 13) S x r) := by
  refine mj_Ok.of (M := mj_m240) rfl rfl rfl ?_
  obtain ⟨S, N, B, X, V, hs, K⟩ := hI
  iterate 2 refine mj_T.pl rfl rfl rfl rfl ?_
  refine rT_put (v := 0) hs rfl rfl (by decide) rfl (fun g22 hs22 => ?_)
  have K22 := K.put (k := 3) (v := 0) ⟨by decide, by decide⟩ (by decide) (by decide) (by decide) (by decide) (by decide)
  have e22 : jvu S 3 0 3 = 0 := jvu_at S 3 0
  generalize jvu S 3 0 = S22 at hs22 K22 e22
  iterate 3 refine mj_T.pl rfl rfl rfl rfl ?_
  refine mj_T.call (ins := .invokestatic 210) rfl rfl (Nat.le_of_ble_eq_true rfl) (Nat.le_of_ble_eq_true rfl) rfl rfl (mj_Ok.up (by decide) (rx_areRegisters (D := 0) hx hy hy)) (fun v' h' hq' => ?_) (fun i h' hq' => by rcases hq' with ⟨_, _, h⟩ | ⟨_, h⟩ <;> cases h)
  rcases hq' with ⟨⟨x1, x2⟩, ⟨y3, y4, y5, y6⟩, hq'⟩ | ⟨hno, hq'⟩
  case' inr =>
    cases hq'
    refine mj_T.if0 (a := 0) rfl ⟨by decide, by decide⟩ (fun hc => ?_) (fun hc => ?_)
    · simp [jc] at hc
    iterate 2 refine mj_T.pl rfl rfl rfl rfl ?_
    refine mj_T.call (ins := .invokevirtual 198) rfl rfl (Nat.le_of_ble_eq_true rfl) (Nat.le_of_ble_eq_true rfl) (by simp [mj_recv, rS_f hs22]) rfl (mj_Ok.up (by decide) (rp_fails (D := 0) (c := 1) hs22)) (fun v' g23 hq' => ?_) (fun i h' hq' => by obtain ⟨_, _, h⟩ := hq'; cases h)
    obtain ⟨_, hs23, hq'⟩ := hq'
    cases hq'
    exact mj_T.ret rfl rfl rfl ⟨pz_0, fun q => absurd q (fun q => hno ⟨q.1, q.2, q.2⟩), Or.inr ⟨fun q => hno ⟨q.1.1, q.1.2, q.1.2⟩, 1, Or.inl ⟨fun q => hno ⟨q.1, q.2, q.2⟩, rfl⟩, 0, g23, ⟨⟨by decide, by decide⟩, trivial⟩, rfl, ⟨_, N, B, X, V, hs23, K22.put ⟨by decide, by decide⟩ (by decide) (by decide) (by decide) (by decide) (by decide), jvu_at _ _ _⟩⟩⟩
  cases hq'
  refine mj_T.if0 (a := 1) rfl ⟨by decide, by decide⟩ (fun hc => ?_) (fun hc => ?_)
  rotate_left
  · simp [jc] at hc
  obtain ⟨x, rfl⟩ := Int.eq_ofNat_of_zero_le x1
  obtain ⟨y, rfl⟩ := Int.eq_ofNat_of_zero_le y3
  iterate 2 refine mj_T.pl rfl rfl rfl rfl ?_
  refine mj_T.call (ins := .invokevirtual 232) rfl rfl (Nat.le_of_ble_eq_true rfl) (Nat.le_of_ble_eq_true rfl) (by simp [mj_recv, rS_f hs22]) rfl (mj_Ok.up (by decide) (rp_isZero (D := 0) (r := y) (by omega) K22.nR hs22)) (fun v' h' hq' => ?_) (fun i h' hq' => by rcases hq' with ⟨_, h⟩ | ⟨_, h⟩ <;> cases h)
  have hfu : fdg (rwN N0 (y : Int)) 13 = jdg N y 13 := by
    rw [← fdg_jpo]
    exact (fdg_congr 13 fun i hi => by
      rw [jpo_at hi]
      exact rwN_at K22.2.1 (by omega) hi).symm
  rcases hq' with ⟨z24, hq'⟩ | ⟨nz24, hq'⟩
  case' inl =>
    cases hq'
    refine mj_T.if0 (a := 1) rfl ⟨by decide, by decide⟩ (fun hc => ?_) (fun hc => ?_)
    · simp [jc] at hc
    iterate 2 refine mj_T.pl rfl rfl rfl rfl ?_
    refine mj_T.call (ins := .invokevirtual 198) rfl rfl (Nat.le_of_ble_eq_true rfl) (Nat.le_of_ble_eq_true rfl) (by simp [mj_recv, rS_f hs22]) rfl (mj_Ok.up (by decide) (rp_fails (D := 0) (c := 2) hs22)) (fun v' g25 hq' => ?_) (fun i h' hq' => by obtain ⟨_, _, h⟩ := hq'; cases h)
    obtain ⟨_, hs25, hq'⟩ := hq'
    cases hq'
    exact mj_T.ret rfl rfl rfl ⟨pz_0, fun _ q => absurd q (by omega), Or.inr ⟨fun q => by have := q.2; omega, 2, Or.inr ⟨⟨⟨by omega, by omega⟩, ⟨by omega, by omega⟩⟩, by omega, rfl⟩, 0, g25, ⟨⟨by decide, by decide⟩, trivial⟩, rfl, ⟨_, N, B, X, V, hs25, K22.put ⟨by decide, by decide⟩ (by decide) (by decide) (by decide) (by decide) (by decide), jvu_at _ _ _⟩⟩⟩
  cases hq'
  refine mj_T.if0 (a := 0) rfl ⟨by decide, by decide⟩ (fun hc => ?_) (fun hc => ?_)
  rotate_left
  · simp [jc] at hc
  iterate 3 refine mj_T.pl rfl rfl rfl rfl ?_
  refine mj_T.call (ins := .invokevirtual 213) rfl rfl (Nat.le_of_ble_eq_true rfl) (Nat.le_of_ble_eq_true rfl) (by simp [mj_recv, rS_f hs22]) rfl (mj_Ok.up (by decide) (rp_loads (D := 0) (p := 0) (r := y) (by decide) (by omega) K22.nR hs22)) (fun v' g26 hq' => ?_) (fun i h' hq' => by obtain ⟨_, _, h⟩ := hq'; cases h)
  obtain ⟨_, hs26, hq'⟩ := hq'
  cases hq'
  have a26 : ∀ e, e < 13 → jfl V 0 (fun e => N (y * 13 + e)) 13 (0 * 13 + e) = N (y * 13 + e) := fun e he => jfl_at _ _ _ he
  have b26 : ∀ s, (s < 0 * 13 ∨ 0 * 13 + 13 ≤ s) → jfl V 0 (fun e => N (y * 13 + e)) 13 s = V s := fun s hc => jfl_off _ _ _ hc
  generalize jfl V 0 (fun e => N (y * 13 + e)) 13 = W26 at hs26 a26 b26
  have eA : jpo W26 0 = rwN N0 (y : Int) := funext fun e => by
    by_cases q : e < 13
    · rw [jpo_at q, a26 e q]
      exact rwN_at K22.2.1 (by omega) q
    · rw [jpo_lt W26 0 e (by omega), rwN_z N0 _ e (by omega)]
  have hsm : sml (jpo W26 0) := fun j hj => by
    rw [jpo_at hj, a26 j hj]
    have := K22.1.1.1 (y * 13 + j) (by omega)
    omega
  have c1 : ∀ e, e < 13 → (W26 (0 * 13 + e)).natAbs ≤ 10 ^ 18 := fun e he => by
    rw [a26 e he]
    exact K22.sh (r := y) (by omega) he
  have c2 : jpo W26 0 ≠ pz_0 := jpo_ne_of (by rw [jdg_congr 13 a26]; exact nz24)
  iterate 3 refine mj_T.pl rfl rfl rfl rfl ?_
  refine mj_T.call (ins := .invokevirtual 235) rfl rfl (Nat.le_of_ble_eq_true rfl) (Nat.le_of_ble_eq_true rfl) (by simp [mj_recv, rS_f hs26]) rfl (mj_Ok.up (by decide) (jx_simplifies (D := 0) (rG S22 N B T X) hsm c2 c1 hs26)) (fun v' g27 hq' => ?_) (fun i h' hq' => by obtain ⟨_, _, _, _, _, h⟩ := hq'; cases h)
  obtain ⟨W27, _, hs27, _, hSm, hq'⟩ := hq'
  cases hq'
  iterate 4 refine mj_T.pl rfl rfl rfl rfl ?_
  refine mj_T.call (ins := .invokevirtual 219) rfl rfl (Nat.le_of_ble_eq_true rfl) (Nat.le_of_ble_eq_true rfl) (by simp [mj_recv, rS_f hs27]) rfl (mj_Ok.up (by decide) (ra_puts (D := 0) (r := x) (p := 8) (c := 3) (by omega) (by decide) ⟨by decide, by decide⟩ K22 hs27 e22)) (fun v' h' hq' => ?_) (fun i h' hq' => by rcases hq' with ⟨_, _, _, _, h, _⟩ | ⟨_, _, _, _, h, _⟩ <;> cases h)
  rw [eA] at hSm
  have hres : ∀ j, j < 13 → (fun e => W27 (8 * 13 + e)) j = jpo W27 8 j := fun j hj => (jpo_at hj).symm
  have hR : ((0 ≤ (x : Int) ∧ (x : Int) ≤ 5) ∧ (0 ≤ (y : Int) ∧ (y : Int) ≤ 5)) := ⟨⟨by omega, by omega⟩, ⟨by omega, by omega⟩⟩
  rcases hq' with ⟨hs9, z9, h9, hz9, e9, hI9⟩ | ⟨hs9, z9, h9, hz9, e9, hI9⟩
  · cases e9
    exact mj_T.ret rfl rfl rfl ⟨jpo W27 8, fun _ _ => hSm, Or.inl ⟨⟨hR, by omega⟩, Or.inl ⟨⟨sml_cg hres hs9, jpo_lt W27 8⟩, _, hres, z9, _, hz9, rfl, hI9⟩⟩⟩
  · cases e9
    exact mj_T.ret rfl rfl rfl ⟨jpo W27 8, fun _ _ => hSm, Or.inl ⟨⟨hR, by omega⟩, Or.inr ⟨fun q => hs9 (sml_cg (fun j hj => (hres j hj).symm) q.1), z9, _, hz9, rfl, hI9⟩⟩⟩
theorem ra_res_loop {S B X V : Nat → Int} {x y z : Nat} (hx : x ≤ 5) (hy : y ≤ 5) (hz : 2 ≤ z) (hz2 : z ≤ 97) (e3s : S 3 = 0) :
    ∀ (d k : Nat) (N : Nat → Int) (h : mj_H), k + d = 13 → rS S N B T X V h → jKx (jfl N0 x (fun e => rwN N0 (y : Int) e % (z : Int)) k) u0 H tm er S N B T → mj_T 39 mj_m243 40 [some (.ref 0), some (.int (jn (x : Int))), some (.int (jn (y : Int))), some (.int (jn (z : Int))), some (.int (jn (k : Int)))] [] h (rIc 0 (fun v => v = (fdg (fun e => rwN N0 (y : Int) e % (z : Int)) 13 : Int) - 1) (jfl N0 x (fun e => rwN N0 (y : Int) e % (z : Int)) 13) u0 H tm er T) := by
  intro d
  induction d with
  | zero =>
    intro k N h hk hs K
    have hk : k = 13 := by omega
    subst hk
    iterate 2 refine mj_T.pl rfl rfl rfl rfl ?_
    refine mj_T.icmp (a := ((13 : Nat) : Int)) (b := 13) rfl ⟨by decide, by decide⟩ ⟨by decide, by decide⟩ (fun hc => ?_) (fun hc => ?_)
    · have hd := jdg_le N x 13
      iterate 2 refine mj_T.pl rfl rfl rfl rfl ?_
      refine mj_T.call (ins := .invokevirtual 185) rfl rfl (Nat.le_of_ble_eq_true rfl) (Nat.le_of_ble_eq_true rfl) (by simp [mj_recv, rS_f hs]) rfl (mj_Ok.up (by decide) (rp_degreeIn (D := 0) (r := x) hx K.nR hs)) (fun v' h' hq' => ?_) (fun i h' hq' => by cases hq')
      cases hq'
      exact mj_T.ret rfl rfl rfl ⟨_, h, ⟨⟨by omega, by omega⟩, by rw [← fdg_jdg, fdg_congr 13 (fun e he => (K.2.1 (x * 13 + e) (by omega)).trans (jfl_at _ _ _ he))]⟩, rfl, ⟨S, N, B, X, V, hs, K, e3s⟩⟩
    · simp [jc] at hc
  | succ d ih =>
    intro k N h hk hs K
    iterate 2 refine mj_T.pl rfl rfl rfl rfl ?_
    refine mj_T.icmp (a := (k : Int)) (b := 13) rfl ⟨by omega, by omega⟩ ⟨by decide, by decide⟩ (fun hc => ?_) (fun hc => ?_)
    · simp only [jc, decide_eq_true_eq] at hc
      omega
    refine mj_T.pl rfl rfl rfl rfl ?_
    refine rT_get hs rfl rfl ?_
    iterate 2 refine mj_T.pl rfl rfl rfl rfl ?_
    refine mj_T.imul (a := (x : Int)) (b := 13) rfl ?_
    refine mj_T.pl rfl rfl rfl rfl ?_
    refine mj_T.iadd rfl ?_
    rw [show (x : Int) * 13 + (k : Int) = ((x * 13 + k : Nat) : Int) by omega]
    iterate 4 refine mj_T.pl rfl rfl rfl rfl ?_
    refine mj_T.call (ins := .invokevirtual 243) rfl rfl (Nat.le_of_ble_eq_true rfl) (Nat.le_of_ble_eq_true rfl) (by simp [mj_recv, rS_f hs]) rfl (mj_Ok.up (by decide) (rx_rest (D := 0) (r := y) (e := k) (x := z) hy (by omega) hz hz2 (K.nR _ (by omega)) hs)) (fun v' h' hq' => ?_) (fun i h' hq' => by cases hq')
    have hv0 : N (y * 13 + k) = rwN N0 (y : Int) k := by
      rw [K.2.1 _ (by omega), jfl_off _ _ _ (by omega)]
      exact rwN_at (fun j _ => rfl) hy (by omega)
    rw [hv0] at hq'
    have hv : 0 ≤ rwN N0 (y : Int) k % (z : Int) ∧ rwN N0 (y : Int) k % (z : Int) < (z : Int) := ⟨Int.emod_nonneg _ (by omega), Int.emod_lt_of_pos _ (by omega)⟩
    cases hq'
    refine rT_stN hs rfl ⟨by omega, by omega⟩ (fun h1 hs1 => ?_)
    rw [Int.toNat_natCast] at hs1
    refine mj_T.iinc (a := (k : Int)) rfl rfl ?_
    refine mj_T.pl rfl rfl rfl rfl ?_
    exact ih (k + 1) _ h1 (by omega) hs1 (K.row (gN_put K.1.1 (by omega) ⟨by omega, by omega⟩) (fun j hj => by
      rw [jfl_succ]
      unfold jvu
      split
      · rfl
      · exact K.2.1 j hj))
theorem ra_residue {x y z : Int} (hx : jr x) (hy : jr y) (hz : jr z) (hI : jIx N0 u0 H tm er T h) : mj_Ok 40 243 [.ref 0, .int (jn x), .int (jn y), .int (jn z)] h (fun r => ((((0 ≤ x ∧ x ≤ 5) ∧ (0 ≤ y ∧ y ≤ 5)) ∧ prm z) ∧ rIc 0 (fun v => v = (fdg (fun e => rwN N0 y e % z) 13 : Int) - 1) (jfl N0 x.toNat (fun e => rwN N0 y e % z) 13) (upu u0) (pushH N0 H) tm er T r) ∨ (¬ (((0 ≤ x ∧ x ≤ 5) ∧ (0 ≤ y ∧ y ≤ 5)) ∧ prm z) ∧ ∃ c, ((¬ ((0 ≤ x ∧ x ≤ 5) ∧ (0 ≤ y ∧ y ≤ 5)) ∧ c = 1) ∨ (((0 ≤ x ∧ x ≤ 5) ∧ (0 ≤ y ∧ y ≤ 5)) ∧ ¬ prm z ∧ c = 2)) ∧ rIc c (fun _ => True) N0 u0 H tm er T r)) := by
  refine mj_Ok.of (M := mj_m243) rfl rfl rfl ?_
  obtain ⟨S, N, B, X, V, hs, K⟩ := hI
  iterate 2 refine mj_T.pl rfl rfl rfl rfl ?_
  refine rT_put (v := 0) hs rfl rfl (by decide) rfl (fun g1 hs1 => ?_)
  have K1 := K.put (k := 3) (v := 0) ⟨by decide, by decide⟩ (by decide) (by decide) (by decide) (by decide) (by decide)
  have e1 : jvu S 3 0 3 = 0 := jvu_at S 3 0
  generalize jvu S 3 0 = S1 at hs1 K1 e1
  iterate 3 refine mj_T.pl rfl rfl rfl rfl ?_
  refine mj_T.call (ins := .invokestatic 210) rfl rfl (Nat.le_of_ble_eq_true rfl) (Nat.le_of_ble_eq_true rfl) rfl rfl (mj_Ok.up (by decide) (rx_areRegisters (D := 0) hx hy hy)) (fun v' h' hq' => ?_) (fun i h' hq' => by rcases hq' with ⟨_, _, h⟩ | ⟨_, h⟩ <;> cases h)
  rcases hq' with ⟨⟨x1, x2⟩, ⟨y3, y4, y5, y6⟩, hq'⟩ | ⟨hno, hq'⟩
  case' inr =>
    cases hq'
    refine mj_T.if0 (a := 0) rfl ⟨by decide, by decide⟩ (fun hc => ?_) (fun hc => ?_)
    · simp [jc] at hc
    iterate 2 refine mj_T.pl rfl rfl rfl rfl ?_
    refine mj_T.call (ins := .invokevirtual 198) rfl rfl (Nat.le_of_ble_eq_true rfl) (Nat.le_of_ble_eq_true rfl) (by simp [mj_recv, rS_f hs1]) rfl (mj_Ok.up (by decide) (rp_fails (D := 0) (c := 1) hs1)) (fun v' g2 hq' => ?_) (fun i h' hq' => by obtain ⟨_, _, h⟩ := hq'; cases h)
    obtain ⟨_, hs2, hq'⟩ := hq'
    cases hq'
    exact mj_T.ret rfl rfl rfl (Or.inr ⟨fun q => hno ⟨q.1.1, q.1.2, q.1.2⟩, 1, Or.inl ⟨fun q => hno ⟨q.1, q.2, q.2⟩, rfl⟩, 0, g2, ⟨⟨by decide, by decide⟩, trivial⟩, rfl, ⟨_, N, B, X, V, hs2, K1.put ⟨by decide, by decide⟩ (by decide) (by decide) (by decide) (by decide) (by decide), jvu_at _ _ _⟩⟩)
  cases hq'
  refine mj_T.if0 (a := 1) rfl ⟨by decide, by decide⟩ (fun hc => ?_) (fun hc => ?_)
  rotate_left
  · simp [jc] at hc
  obtain ⟨x, rfl⟩ := Int.eq_ofNat_of_zero_le x1
  obtain ⟨y, rfl⟩ := Int.eq_ofNat_of_zero_le y3
  refine mj_T.pl rfl rfl rfl rfl ?_
  refine mj_T.call (ins := .invokestatic 240) rfl rfl (Nat.le_of_ble_eq_true rfl) (Nat.le_of_ble_eq_true rfl) rfl rfl (mj_Ok.up (by decide) (rx_isPrime hz)) (fun v' h' hq' => ?_) (fun i h' hq' => by rcases hq' with ⟨_, h⟩ | ⟨_, h⟩ <;> cases h)
  rcases hq' with ⟨zp, hq'⟩ | ⟨hno, hq'⟩
  case' inr =>
    cases hq'
    refine mj_T.if0 (a := 0) rfl ⟨by decide, by decide⟩ (fun hc => ?_) (fun hc => ?_)
    · simp [jc] at hc
    iterate 2 refine mj_T.pl rfl rfl rfl rfl ?_
    refine mj_T.call (ins := .invokevirtual 198) rfl rfl (Nat.le_of_ble_eq_true rfl) (Nat.le_of_ble_eq_true rfl) (by simp [mj_recv, rS_f hs1]) rfl (mj_Ok.up (by decide) (rp_fails (D := 0) (c := 2) hs1)) (fun v' g3 hq' => ?_) (fun i h' hq' => by obtain ⟨_, _, h⟩ := hq'; cases h)
    obtain ⟨_, hs3, hq'⟩ := hq'
    cases hq'
    exact mj_T.ret rfl rfl rfl (Or.inr ⟨fun q => hno q.2, 2, Or.inr ⟨⟨⟨by omega, by omega⟩, ⟨by omega, by omega⟩⟩, hno, rfl⟩, 0, g3, ⟨⟨by decide, by decide⟩, trivial⟩, rfl, ⟨_, N, B, X, V, hs3, K1.put ⟨by decide, by decide⟩ (by decide) (by decide) (by decide) (by decide) (by decide), jvu_at _ _ _⟩⟩)
  cases hq'
  refine mj_T.if0 (a := 1) rfl ⟨by decide, by decide⟩ (fun hc => ?_) (fun hc => ?_)
  rotate_left
  · simp [jc] at hc
  have z1 := zp.1.1
  have z2 := zp.1.2
  obtain ⟨z, rfl⟩ := Int.eq_ofNat_of_zero_le (show 0 ≤ z by omega)
  refine mj_T.pl rfl rfl rfl rfl ?_
  refine mj_T.call (ins := .invokevirtual 201) rfl rfl (Nat.le_of_ble_eq_true rfl) (Nat.le_of_ble_eq_true rfl) (by simp [mj_recv, rS_f hs1]) rfl (mj_Ok.up (by decide) (rx_keeps (D := 0) K1 hs1)) (fun v' g4 hq' => ?_) (fun i h' hq' => by obtain ⟨_, _, _, _, _, _, h⟩ := hq'; cases h)
  obtain ⟨S4, B4, _, hs4, K4, s4, hq'⟩ := hq'
  cases hq'
  iterate 2 refine mj_T.pl rfl rfl rfl rfl ?_
  refine mj_T.to (ra_res_loop (N0 := N0) (by omega) (by omega) (by omega) (by omega) (s4.trans e1) 13 0 _ _ (by omega) hs4 (by rw [jfl_zero]; exact K4)) (fun r hr => Or.inl ⟨⟨⟨⟨by omega, by omega⟩, ⟨by omega, by omega⟩⟩, zp⟩, hr⟩)
theorem ra_setTerm {x y : Int} (hx : jr x) (hy : jr y) {z : Int} (hz : jR z) (hI : jIx N0 u0 H tm er T h) : mj_Ok 40 244 [.ref 0, .int (jn x), .int (jn y), .long (jl z)] h (fun r => (((0 ≤ x ∧ x ≤ 5) ∧ (0 ≤ y ∧ y ≤ 12) ∧ (-999999999999999999 ≤ z ∧ z ≤ 999999999999999999)) ∧ rIc 0 (fun v => v = (fdg (fun j => if j = y.toNat then z else rwN N0 x j) 13 : Int) - 1) (jvu N0 (x.toNat * 13 + y.toNat) z) (upu u0) (pushH N0 H) tm er T r) ∨ (¬ ((0 ≤ x ∧ x ≤ 5) ∧ (0 ≤ y ∧ y ≤ 12) ∧ (-999999999999999999 ≤ z ∧ z ≤ 999999999999999999)) ∧ ∃ c, ((¬ (0 ≤ x ∧ x ≤ 5) ∧ c = 1) ∨ ((0 ≤ x ∧ x ≤ 5) ∧ ¬ (0 ≤ y ∧ y ≤ 12) ∧ c = 2) ∨ ((0 ≤ x ∧ x ≤ 5) ∧ (0 ≤ y ∧ y ≤ 12) ∧ ¬ (-999999999999999999 ≤ z ∧ z ≤ 999999999999999999) ∧ c = 3)) ∧ rIc c (fun _ => True) N0 u0 H tm er T r)) := by
  refine mj_Ok.of (M := mj_m244) rfl rfl rfl ?_
  obtain ⟨S, N, B, X, V, hs, K⟩ := hI
  iterate 2 refine mj_T.pl rfl rfl rfl rfl ?_
  refine rT_put (v := 0) hs rfl rfl (by decide) rfl (fun g5 hs5 => ?_)
  have K5 := K.put (k := 3) (v := 0) ⟨by decide, by decide⟩ (by decide) (by decide) (by decide) (by decide) (by decide)
  have e5 : jvu S 3 0 3 = 0 := jvu_at S 3 0
  generalize jvu S 3 0 = S5 at hs5 K5 e5
  refine mj_T.pl rfl rfl rfl rfl ?_
  refine mj_T.call (ins := .invokestatic 181) rfl rfl (Nat.le_of_ble_eq_true rfl) (Nat.le_of_ble_eq_true rfl) rfl rfl (mj_Ok.up (by decide) (rp_isRegister (D := 0) hx)) (fun v' h' hq' => ?_) (fun i h' hq' => by rcases hq' with ⟨_, _, h⟩ | ⟨_, h⟩ <;> cases h)
  rcases hq' with ⟨x1, x2, hq'⟩ | ⟨cn, hq'⟩
  case' inr =>
    cases hq'
    refine mj_T.if0 (a := 0) rfl ⟨by decide, by decide⟩ (fun hc => ?_) (fun hc => ?_)
    · simp [jc] at hc
    iterate 2 refine mj_T.pl rfl rfl rfl rfl ?_
    refine mj_T.call (ins := .invokevirtual 198) rfl rfl (Nat.le_of_ble_eq_true rfl) (Nat.le_of_ble_eq_true rfl) (by simp [mj_recv, rS_f hs5]) rfl (mj_Ok.up (by decide) (rp_fails (D := 0) (c := 1) hs5)) (fun v' g6 hq' => ?_) (fun i h' hq' => by obtain ⟨_, _, h⟩ := hq'; cases h)
    obtain ⟨_, hs6, hq'⟩ := hq'
    cases hq'
    exact mj_T.ret rfl rfl rfl (Or.inr ⟨by omega, 1, Or.inl ⟨by omega, rfl⟩, 0, g6, ⟨⟨by decide, by decide⟩, trivial⟩, rfl, ⟨_, N, B, X, V, hs6, K5.put ⟨by decide, by decide⟩ (by decide) (by decide) (by decide) (by decide) (by decide), jvu_at _ _ _⟩⟩)
  cases hq'
  refine mj_T.if0 (a := 1) rfl ⟨by decide, by decide⟩ (fun hc => ?_) (fun hc => ?_)
  rotate_left
  · simp [jc] at hc
  obtain ⟨x, rfl⟩ := Int.eq_ofNat_of_zero_le x1
  refine mj_T.pl rfl rfl rfl rfl ?_
  refine mj_T.i2l rfl hy ?_
  iterate 2 refine mj_T.pl rfl rfl rfl rfl ?_
  refine mj_T.call (ins := .invokestatic 177) rfl rfl (Nat.le_of_ble_eq_true rfl) (Nat.le_of_ble_eq_true rfl) rfl rfl (mj_Ok.up (by decide) (rp_in (D := 0) (v := y) (lo := 0) (hi := 12) ⟨by have := hy.1; omega, by have := hy.2; omega⟩ ⟨by decide, by decide⟩ ⟨by decide, by decide⟩)) (fun v' h' hq' => ?_) (fun i h' hq' => by rcases hq' with ⟨_, _, h⟩ | ⟨_, h⟩ <;> cases h)
  rcases hq' with ⟨r7a, r7b, hq'⟩ | ⟨cn, hq'⟩
  case' inr =>
    cases hq'
    refine mj_T.if0 (a := 0) rfl ⟨by decide, by decide⟩ (fun hc => ?_) (fun hc => ?_)
    · simp [jc] at hc
    iterate 2 refine mj_T.pl rfl rfl rfl rfl ?_
    refine mj_T.call (ins := .invokevirtual 198) rfl rfl (Nat.le_of_ble_eq_true rfl) (Nat.le_of_ble_eq_true rfl) (by simp [mj_recv, rS_f hs5]) rfl (mj_Ok.up (by decide) (rp_fails (D := 0) (c := 2) hs5)) (fun v' g8 hq' => ?_) (fun i h' hq' => by obtain ⟨_, _, h⟩ := hq'; cases h)
    obtain ⟨_, hs8, hq'⟩ := hq'
    cases hq'
    exact mj_T.ret rfl rfl rfl (Or.inr ⟨by omega, 2, Or.inr (Or.inl ⟨⟨by omega, by omega⟩, by omega, rfl⟩), 0, g8, ⟨⟨by decide, by decide⟩, trivial⟩, rfl, ⟨_, N, B, X, V, hs8, K5.put ⟨by decide, by decide⟩ (by decide) (by decide) (by decide) (by decide) (by decide), jvu_at _ _ _⟩⟩)
  cases hq'
  refine mj_T.if0 (a := 1) rfl ⟨by decide, by decide⟩ (fun hc => ?_) (fun hc => ?_)
  rotate_left
  · simp [jc] at hc
  obtain ⟨y, rfl⟩ := Int.eq_ofNat_of_zero_le r7a
  refine mj_T.pl rfl rfl rfl rfl ?_
  iterate 2 refine mj_T.pl rfl rfl rfl rfl ?_
  refine mj_T.call (ins := .invokestatic 177) rfl rfl (Nat.le_of_ble_eq_true rfl) (Nat.le_of_ble_eq_true rfl) rfl rfl (mj_Ok.up (by decide) (rp_in (D := 0) (v := z) (lo := -999999999999999999) (hi := 999999999999999999) hz ⟨by decide, by decide⟩ ⟨by decide, by decide⟩)) (fun v' h' hq' => ?_) (fun i h' hq' => by rcases hq' with ⟨_, _, h⟩ | ⟨_, h⟩ <;> cases h)
  rcases hq' with ⟨r9a, r9b, hq'⟩ | ⟨cn, hq'⟩
  case' inr =>
    cases hq'
    refine mj_T.if0 (a := 0) rfl ⟨by decide, by decide⟩ (fun hc => ?_) (fun hc => ?_)
    · simp [jc] at hc
    iterate 2 refine mj_T.pl rfl rfl rfl rfl ?_
    refine mj_T.call (ins := .invokevirtual 198) rfl rfl (Nat.le_of_ble_eq_true rfl) (Nat.le_of_ble_eq_true rfl) (by simp [mj_recv, rS_f hs5]) rfl (mj_Ok.up (by decide) (rp_fails (D := 0) (c := 3) hs5)) (fun v' g10 hq' => ?_) (fun i h' hq' => by obtain ⟨_, _, h⟩ := hq'; cases h)
    obtain ⟨_, hs10, hq'⟩ := hq'
    cases hq'
    exact mj_T.ret rfl rfl rfl (Or.inr ⟨by omega, 3, Or.inr (Or.inr ⟨⟨by omega, by omega⟩, ⟨by omega, by omega⟩, by omega, rfl⟩), 0, g10, ⟨⟨by decide, by decide⟩, trivial⟩, rfl, ⟨_, N, B, X, V, hs10, K5.put ⟨by decide, by decide⟩ (by decide) (by decide) (by decide) (by decide) (by decide), jvu_at _ _ _⟩⟩)
  cases hq'
  refine mj_T.if0 (a := 1) rfl ⟨by decide, by decide⟩ (fun hc => ?_) (fun hc => ?_)
  rotate_left
  · simp [jc] at hc
  refine mj_T.pl rfl rfl rfl rfl ?_
  refine mj_T.call (ins := .invokevirtual 201) rfl rfl (Nat.le_of_ble_eq_true rfl) (Nat.le_of_ble_eq_true rfl) (by simp [mj_recv, rS_f hs5]) rfl (mj_Ok.up (by decide) (rx_keeps (D := 0) K5 hs5)) (fun v' g11 hq' => ?_) (fun i h' hq' => by obtain ⟨_, _, _, _, _, _, h⟩ := hq'; cases h)
  obtain ⟨S11, B11, _, hs11, K11, s11, hq'⟩ := hq'
  cases hq'
  refine mj_T.pl rfl rfl rfl rfl ?_
  refine rT_get hs11 rfl rfl ?_
  iterate 2 refine mj_T.pl rfl rfl rfl rfl ?_
  refine mj_T.imul (a := (x : Int)) (b := 13) rfl ?_
  refine mj_T.pl rfl rfl rfl rfl ?_
  refine mj_T.iadd rfl ?_
  rw [show (x : Int) * 13 + (y : Int) = ((x * 13 + y : Nat) : Int) by omega]
  refine mj_T.pl rfl rfl rfl rfl ?_
  refine rT_stN hs11 rfl ⟨by omega, by omega⟩ (fun g12 hs12 => ?_)
  rw [Int.toNat_natCast] at hs12
  have K12 := K11.row (gN_put (j := x * 13 + y) (z := z) K11.1.1 (by omega) ⟨by omega, by omega⟩) (N1 := jvu N0 (x * 13 + y) z) (fun j hj => by
    unfold jvu
    split
    · rfl
    · exact K11.2.1 j hj)
  generalize jvu N (x * 13 + y) z = N12 at hs12 K12
  have hd := jdg_le N12 x 13
  have hrow : ∀ e, e < 13 → N12 (x * 13 + e) = (if e = ((y : Nat) : Int).toNat then z else rwN N0 (x : Int) e) := fun e he => by
    rw [K12.2.1 (x * 13 + e) (by omega)]
    show (if x * 13 + e = x * 13 + y then z else N0 (x * 13 + e)) = _
    rw [Int.toNat_natCast]
    by_cases q : e = y
    · rw [if_pos q, if_pos (by omega)]
    · rw [if_neg q, if_neg (by omega)]
      show _ = if e < 13 then N0 ((x : Int).toNat * 13 + e) else 0
      rw [if_pos he, Int.toNat_natCast]
  iterate 2 refine mj_T.pl rfl rfl rfl rfl ?_
  refine mj_T.call (ins := .invokevirtual 185) rfl rfl (Nat.le_of_ble_eq_true rfl) (Nat.le_of_ble_eq_true rfl) (by simp [mj_recv, rS_f hs12]) rfl (mj_Ok.up (by decide) (rp_degreeIn (D := 0) (r := x) (by omega) K12.nR hs12)) (fun v' h' hq' => ?_) (fun i h' hq' => by cases hq')
  cases hq'
  exact mj_T.ret rfl rfl rfl (Or.inl ⟨⟨⟨by omega, by omega⟩, ⟨by omega, by omega⟩, ⟨by omega, by omega⟩⟩, _, g12, ⟨⟨by omega, by omega⟩, by rw [← fdg_jdg, fdg_congr 13 hrow]⟩, rfl, ⟨S11, N12, B11, X, V, hs12, K12, s11.trans e5⟩⟩)
theorem ra_pt_loop {S N B X V : Nat → Int} {x y : Int} (hx : -9 ≤ x ∧ x ≤ 9) (hy : -999 ≤ y ∧ y ≤ 999) {n : Nat} (hn : N 78 = (n : Int)) (hn6 : n ≤ 6) (hs : rS S N B T X V h) (K : jKx N0 u0 H tm er S N B T) (e3s : S 3 = 0) :
    ∀ (m k : Nat) (b : Int), k + m = n → (b = 0 ∨ b = 1) → (b = 0 → n ≠ 6 ∧ ∀ j, j < k → N (79 + j) ≠ x) → (b = 1 → n = 6 ∨ ∃ j, j < n ∧ N (79 + j) = x) → mj_T 39 mj_m246 62 [some (.ref 0), some (.int (jn x)), some (.int (jn y)), some (.int (jn b)), some (.int (jn (k : Int)))] [] h (adRc N0 u0 H tm er T x y) := by
  intro m
  induction m with
  | zero =>
    intro k b hk hb hinv hful
    have hk : k = n := by omega
    subst hk
    refine mj_T.pl rfl rfl rfl rfl ?_
    refine mj_T.i2l rfl ⟨by omega, by omega⟩ ?_
    refine mj_T.pl rfl rfl rfl rfl ?_
    refine rT_get hs rfl rfl ?_
    refine mj_T.pl rfl rfl rfl rfl ?_
    refine rT_ldN (i := ((78 : Nat) : Int)) hs rfl ⟨by decide, by decide⟩ ?_
    rw [Int.toNat_natCast, hn]
    refine mj_T.lif (a := (k : Int)) (b := (k : Int)) rfl rfl ⟨by omega, by omega⟩ ⟨by omega, by omega⟩ (fun hc => ?_) (fun hc => ?_)
    · refine mj_T.pl rfl rfl rfl rfl ?_
      refine mj_T.if0 (a := b) rfl ⟨by omega, by omega⟩ (fun hc2 => ?_) (fun hc2 => ?_)
      · simp only [jc, decide_eq_true_eq] at hc2
        obtain ⟨i1, i2⟩ := hinv hc2
        refine mj_T.pl rfl rfl rfl rfl ?_
        refine mj_T.call (ins := .invokevirtual 201) rfl rfl (Nat.le_of_ble_eq_true rfl) (Nat.le_of_ble_eq_true rfl) (by simp [mj_recv, rS_f hs]) rfl (mj_Ok.up (by decide) (rx_keeps (D := 0) K hs)) (fun v' g1 hq' => ?_) (fun i h' hq' => by obtain ⟨_, _, _, _, _, _, h⟩ := hq'; cases h)
        obtain ⟨S1, B1, _, hs1, K1, s1, hq'⟩ := hq'
        cases hq'
        refine mj_T.pl rfl rfl rfl rfl ?_
        refine rT_get hs1 rfl rfl ?_
        iterate 2 refine mj_T.pl rfl rfl rfl rfl ?_
        refine rT_get hs1 rfl rfl ?_
        refine mj_T.pl rfl rfl rfl rfl ?_
        refine rT_ldN (i := ((78 : Nat) : Int)) hs1 rfl ⟨by decide, by decide⟩ ?_
        rw [Int.toNat_natCast, hn]
        refine mj_T.l2i rfl ?_
        refine mj_T.iadd (a := 79) (b := (k : Int)) rfl ?_
        rw [show (79 : Int) + (k : Int) = ((79 + k : Nat) : Int) by omega]
        refine mj_T.pl rfl rfl rfl rfl ?_
        refine mj_T.i2l rfl ⟨by omega, by omega⟩ ?_
        refine rT_stN (z := x) hs1 rfl ⟨by omega, by omega⟩ (fun g2 hs2 => ?_)
        rw [Int.toNat_natCast] at hs2
        refine mj_T.pl rfl rfl rfl rfl ?_
        refine rT_get hs2 rfl rfl ?_
        iterate 2 refine mj_T.pl rfl rfl rfl rfl ?_
        refine rT_get hs2 rfl rfl ?_
        refine mj_T.pl rfl rfl rfl rfl ?_
        refine rT_ldN (i := ((78 : Nat) : Int)) hs2 rfl ⟨by decide, by decide⟩ ?_
        rw [Int.toNat_natCast, jvu_ne _ _ _ (by omega), hn]
        refine mj_T.l2i rfl ?_
        refine mj_T.iadd (a := 85) (b := (k : Int)) rfl ?_
        rw [show (85 : Int) + (k : Int) = ((85 + k : Nat) : Int) by omega]
        refine mj_T.pl rfl rfl rfl rfl ?_
        refine mj_T.i2l rfl ⟨by omega, by omega⟩ ?_
        refine rT_stN (z := y) hs2 rfl ⟨by omega, by omega⟩ (fun g3 hs3 => ?_)
        rw [Int.toNat_natCast] at hs3
        refine mj_T.pl rfl rfl rfl rfl ?_
        refine rT_get hs3 rfl rfl ?_
        iterate 2 refine mj_T.pl rfl rfl rfl rfl ?_
        refine rT_ldN (i := ((78 : Nat) : Int)) hs3 rfl ⟨by decide, by decide⟩ ?_
        rw [Int.toNat_natCast, jvu_ne _ _ _ (by omega), jvu_ne _ _ _ (by omega), hn]
        refine mj_T.pl rfl rfl rfl rfl ?_
        refine mj_T.ladd (a := (k : Int)) (b := 1) rfl ?_
        rw [show (k : Int) + 1 = ((k + 1 : Nat) : Int) by omega]
        refine rT_stN (i := ((78 : Nat) : Int)) (z := ((k + 1 : Nat) : Int)) hs3 rfl ⟨by decide, by decide⟩ (fun g4 hs4 => ?_)
        rw [Int.toNat_natCast] at hs4
        have n78 : N0 78 = (k : Int) := (K.2.1 78 (by decide)).symm.trans hn
        have ead : ∀ j, j < 91 → jvu (jvu (jvu N (79 + k) x) (85 + k) y) 78 ((k + 1 : Nat) : Int) j = adN N0 x y j := fun j hj => by
          unfold adN
          rw [show (N0 78).toNat = k by omega]
          unfold jvu
          split
          · rfl
          · split
            · rfl
            · split
              · rfl
              · exact K.2.1 j hj
        have hok : okPt N0 x y := ⟨⟨hx, hy⟩, by omega, fun j hj => by
          rw [← K.2.1 (79 + j) (by omega)]
          exact i2 j (by omega)⟩
        have K4 := K1.row (N1 := adN N0 x y) (gN_point (n := k) K.1.1 hn (by omega) hx hy i2) ead
        refine mj_T.pl rfl rfl rfl rfl ?_
        refine rT_get hs4 rfl rfl ?_
        refine mj_T.pl rfl rfl rfl rfl ?_
        refine rT_ldN (i := ((78 : Nat) : Int)) hs4 rfl ⟨by decide, by decide⟩ ?_
        rw [Int.toNat_natCast, jvu_at]
        refine mj_T.l2i rfl ?_
        exact mj_T.ret rfl rfl rfl (Or.inl ⟨hok, _, g4, ⟨⟨by omega, by omega⟩, by show _ = _; have n78 : N0 78 = (k : Int) := (K.2.1 78 (by decide)).symm.trans hn; omega⟩, rfl, ⟨S1, _, B1, X, V, hs4, K4, s1.trans e3s⟩⟩)
      · have hno : ¬ okPt N0 x y := fun q => by
          have n78 : N0 78 = (k : Int) := (K.2.1 78 (by decide)).symm.trans hn
          have hb1 : b = 1 := by
            simp only [jc, decide_eq_false_iff_not] at hc2
            exact hb.resolve_left hc2
          rcases hful hb1 with e | ⟨j, hj, e⟩
          · exact q.2.1 (by omega)
          · exact q.2.2 j (by omega) ((K.2.1 (79 + j) (by omega)).symm.trans e)
        iterate 2 refine mj_T.pl rfl rfl rfl rfl ?_
        refine mj_T.call (ins := .invokevirtual 198) rfl rfl (Nat.le_of_ble_eq_true rfl) (Nat.le_of_ble_eq_true rfl) (by simp [mj_recv, rS_f hs]) rfl (mj_Ok.up (by decide) (rp_fails (D := 0) (c := 2) hs)) (fun v' g5 hq' => ?_) (fun i h' hq' => by obtain ⟨_, _, h⟩ := hq'; cases h)
        obtain ⟨_, hs5, hq'⟩ := hq'
        cases hq'
        exact mj_T.ret rfl rfl rfl (Or.inr ⟨hno, 2, Or.inr ⟨⟨hx, hy⟩, rfl⟩, 0, g5, ⟨⟨by decide, by decide⟩, trivial⟩, rfl, ⟨_, N, B, X, V, hs5, K.put ⟨by decide, by decide⟩ (by decide) (by decide) (by decide) (by decide) (by decide), jvu_at _ _ _⟩⟩)
    · simp only [jc, decide_eq_false_iff_not] at hc
      omega
  | succ m ih =>
    intro k b hk hb hinv hful
    refine mj_T.pl rfl rfl rfl rfl ?_
    refine mj_T.i2l rfl ⟨by omega, by omega⟩ ?_
    refine mj_T.pl rfl rfl rfl rfl ?_
    refine rT_get hs rfl rfl ?_
    refine mj_T.pl rfl rfl rfl rfl ?_
    refine rT_ldN (i := ((78 : Nat) : Int)) hs rfl ⟨by decide, by decide⟩ ?_
    rw [Int.toNat_natCast, hn]
    refine mj_T.lif (a := (k : Int)) (b := (n : Int)) rfl rfl ⟨by omega, by omega⟩ ⟨by omega, by omega⟩ (fun hc => ?_) (fun hc => ?_)
    · simp only [jc, decide_eq_true_eq] at hc
      omega
    have t101 : ∀ b2 : Int, (b2 = 0 ∨ b2 = 1) → (b2 = 0 → n ≠ 6 ∧ ∀ j, j < k + 1 → N (79 + j) ≠ x) → (b2 = 1 → n = 6 ∨ ∃ j, j < n ∧ N (79 + j) = x) → mj_T 39 mj_m246 101 [some (.ref 0), some (.int (jn x)), some (.int (jn y)), some (.int (jn b)), some (.int (jn (k : Int)))] [.int (jn b2)] h (adRc N0 u0 H tm er T x y) := fun b2 hb2 hinv2 hful2 => by
      refine mj_T.pl rfl rfl rfl rfl ?_
      refine mj_T.iinc (a := (k : Int)) rfl rfl ?_
      refine mj_T.pl rfl rfl rfl rfl ?_
      exact ih (k + 1) b2 (by omega) hb2 hinv2 hful2
    refine mj_T.pl rfl rfl rfl rfl ?_
    refine mj_T.if0 (a := b) rfl ⟨by omega, by omega⟩ (fun hc2 => ?_) (fun hc2 => ?_)
    · iterate 2 refine mj_T.pl rfl rfl rfl rfl ?_
      exact t101 1 (Or.inr rfl) (fun e => absurd e (by decide)) (fun _ => hful (by simp only [jc, Bool.not_eq_true', decide_eq_false_iff_not] at hc2; exact hb.resolve_left hc2))
    simp only [jc, Bool.not_eq_false', decide_eq_true_eq] at hc2
    obtain ⟨i1, i2⟩ := hinv hc2
    refine mj_T.pl rfl rfl rfl rfl ?_
    refine rT_get hs rfl rfl ?_
    iterate 2 refine mj_T.pl rfl rfl rfl rfl ?_
    refine mj_T.iadd (a := 79) (b := (k : Int)) rfl ?_
    rw [show (79 : Int) + (k : Int) = ((79 + k : Nat) : Int) by omega]
    refine rT_ldN hs rfl ⟨by omega, by omega⟩ ?_
    rw [Int.toNat_natCast]
    refine mj_T.pl rfl rfl rfl rfl ?_
    refine mj_T.i2l rfl ⟨by omega, by omega⟩ ?_
    have hp := (K.1.1.2.2.1 k (by omega)).1
    refine mj_T.lif (a := N (79 + k)) (b := x) rfl rfl ⟨by omega, by omega⟩ ⟨by omega, by omega⟩ (fun hc3 => ?_) (fun hc3 => ?_)
    · simp only [jc, Bool.not_eq_true', decide_eq_false_iff_not] at hc3
      refine mj_T.pl rfl rfl rfl rfl ?_
      refine t101 0 (Or.inl rfl) (fun _ => ⟨i1, fun j hj => ?_⟩) (fun e => absurd e (by decide))
      by_cases q : j = k
      · rw [q]
        exact hc3
      · exact i2 j (by omega)
    · iterate 2 refine mj_T.pl rfl rfl rfl rfl ?_
      exact t101 1 (Or.inr rfl) (fun e => absurd e (by decide)) (fun _ => Or.inr ⟨k, by omega, by simp only [jc, Bool.not_eq_false', decide_eq_true_eq] at hc3; exact hc3⟩)
theorem ra_addPoint {x y : Int} (hx : jr x) (hy : jr y) (hI : jIx N0 u0 H tm er T h) : mj_Ok 40 246 [.ref 0, .int (jn x), .int (jn y)] h (adRc N0 u0 H tm er T x y) := by
  refine mj_Ok.of (M := mj_m246) rfl rfl rfl ?_
  obtain ⟨S, N, B, X, V, hs, K⟩ := hI
  iterate 2 refine mj_T.pl rfl rfl rfl rfl ?_
  refine rT_put (v := 0) hs rfl rfl (by decide) rfl (fun g6 hs6 => ?_)
  have K6 := K.put (k := 3) (v := 0) ⟨by decide, by decide⟩ (by decide) (by decide) (by decide) (by decide) (by decide)
  have e6 : jvu S 3 0 3 = 0 := jvu_at S 3 0
  generalize jvu S 3 0 = S6 at hs6 K6 e6
  have t33 : ¬ ((-9 ≤ x ∧ x ≤ 9) ∧ (-999 ≤ y ∧ y ≤ 999)) → mj_T 39 mj_m246 33 [some (.ref 0), some (.int (jn x)), some (.int (jn y)), none, none] [] g6 (adRc N0 u0 H tm er T x y) := by
    intro hno
    iterate 2 refine mj_T.pl rfl rfl rfl rfl ?_
    refine mj_T.call (ins := .invokevirtual 198) rfl rfl (Nat.le_of_ble_eq_true rfl) (Nat.le_of_ble_eq_true rfl) (by simp [mj_recv, rS_f hs6]) rfl (mj_Ok.up (by decide) (rp_fails (D := 0) (c := 1) hs6)) (fun v' g7 hq' => ?_) (fun i h' hq' => by obtain ⟨_, _, h⟩ := hq'; cases h)
    obtain ⟨_, hs7, hq'⟩ := hq'
    cases hq'
    exact mj_T.ret rfl rfl rfl (Or.inr ⟨fun q => hno q.1, 1, Or.inl ⟨hno, rfl⟩, 0, g7, ⟨⟨by decide, by decide⟩, trivial⟩, rfl, ⟨_, N, B, X, V, hs7, K6.put ⟨by decide, by decide⟩ (by decide) (by decide) (by decide) (by decide) (by decide), jvu_at _ _ _⟩⟩)
  refine mj_T.pl rfl rfl rfl rfl ?_
  refine mj_T.i2l rfl hx ?_
  iterate 2 refine mj_T.pl rfl rfl rfl rfl ?_
  refine mj_T.call (ins := .invokestatic 177) rfl rfl (Nat.le_of_ble_eq_true rfl) (Nat.le_of_ble_eq_true rfl) rfl rfl (mj_Ok.up (by decide) (rp_in (D := 0) (v := x) (lo := -9) (hi := 9) ⟨by have := hx.1; omega, by have := hx.2; omega⟩ ⟨by decide, by decide⟩ ⟨by decide, by decide⟩)) (fun v' h' hq' => ?_) (fun i h' hq' => by rcases hq' with ⟨_, _, h⟩ | ⟨_, h⟩ <;> cases h)
  rcases hq' with ⟨xa, xb, hq'⟩ | ⟨cn, hq'⟩
  case' inr =>
    cases hq'
    refine mj_T.if0 (a := 0) rfl ⟨by decide, by decide⟩ (fun hc => ?_) (fun hc => ?_)
    · exact t33 (by omega)
    · simp [jc] at hc
  cases hq'
  refine mj_T.if0 (a := 1) rfl ⟨by decide, by decide⟩ (fun hc => ?_) (fun hc => ?_)
  · simp [jc] at hc
  refine mj_T.pl rfl rfl rfl rfl ?_
  refine mj_T.i2l rfl hy ?_
  iterate 2 refine mj_T.pl rfl rfl rfl rfl ?_
  refine mj_T.call (ins := .invokestatic 177) rfl rfl (Nat.le_of_ble_eq_true rfl) (Nat.le_of_ble_eq_true rfl) rfl rfl (mj_Ok.up (by decide) (rp_in (D := 0) (v := y) (lo := -999) (hi := 999) ⟨by have := hy.1; omega, by have := hy.2; omega⟩ ⟨by decide, by decide⟩ ⟨by decide, by decide⟩)) (fun v' h' hq' => ?_) (fun i h' hq' => by rcases hq' with ⟨_, _, h⟩ | ⟨_, h⟩ <;> cases h)
  rcases hq' with ⟨ya, yb, hq'⟩ | ⟨cn, hq'⟩
  case' inr =>
    cases hq'
    refine mj_T.if0 (a := 0) rfl ⟨by decide, by decide⟩ (fun hc => ?_) (fun hc => ?_)
    · simp [jc] at hc
    · exact t33 (by omega)
  cases hq'
  refine mj_T.if0 (a := 1) rfl ⟨by decide, by decide⟩ (fun hc => ?_) (fun hc => ?_)
  rotate_left
  · simp [jc] at hc
  clear t33
  obtain ⟨n, hn⟩ := Int.eq_ofNat_of_zero_le K6.1.1.2.1.1
  have hn6 := K6.1.1.2.1.2
  refine mj_T.pl rfl rfl rfl rfl ?_
  refine rT_get hs6 rfl rfl ?_
  refine mj_T.pl rfl rfl rfl rfl ?_
  refine rT_ldN (i := ((78 : Nat) : Int)) hs6 rfl ⟨by decide, by decide⟩ ?_
  rw [Int.toNat_natCast]
  refine mj_T.pl rfl rfl rfl rfl ?_
  refine mj_T.lif (a := N 78) (b := 6) rfl rfl ⟨by omega, by omega⟩ ⟨by decide, by decide⟩ (fun hc => ?_) (fun hc => ?_)
  · simp only [jc, Bool.not_eq_true', decide_eq_false_iff_not] at hc
    iterate 4 refine mj_T.pl rfl rfl rfl rfl ?_
    exact ra_pt_loop ⟨xa, xb⟩ ⟨ya, yb⟩ hn (by omega) hs6 K6 e6 n 0 0 (by omega) (Or.inl rfl) (fun _ => ⟨by omega, fun j hj => absurd hj (by omega)⟩) (fun e => absurd e (by decide))
  · iterate 5 refine mj_T.pl rfl rfl rfl rfl ?_
    exact ra_pt_loop ⟨xa, xb⟩ ⟨ya, yb⟩ hn (by omega) hs6 K6 e6 n 0 1 (by omega) (Or.inr rfl) (fun e => absurd e (by decide)) (fun _ => Or.inl (by simp only [jc, Bool.not_eq_false', decide_eq_true_eq] at hc; omega))
theorem ra_divide {x y z u : Int} (hx : jr x) (hy : jr y) (hz : jr z) (hu : jr u) (hI : jIx N0 u0 H tm er T h) : mj_Ok 40 237 [.ref 0, .int (jn x), .int (jn y), .int (jn z), .int (jn u)] h (RDvc tm er T N0 u0 H x y z u) := by
  refine mj_Ok.of (M := mj_m237) rfl rfl rfl ?_
  obtain ⟨S, N, B, X, V, hs, K⟩ := hI
  iterate 2 refine mj_T.pl rfl rfl rfl rfl ?_
  refine rT_put (v := 0) hs rfl rfl (by decide) rfl (fun g28 hs28 => ?_)
  have K28 := K.put (k := 3) (v := 0) ⟨by decide, by decide⟩ (by decide) (by decide) (by decide) (by decide) (by decide)
  have e28 : jvu S 3 0 3 = 0 := jvu_at S 3 0
  generalize jvu S 3 0 = S28 at hs28 K28 e28
  have t22 : ¬ ((0 ≤ x ∧ x ≤ 5) ∧ (0 ≤ y ∧ y ≤ 5) ∧ (0 ≤ z ∧ z ≤ 5) ∧ (0 ≤ u ∧ u ≤ 5)) → mj_T 39 mj_m237 22 [some (.ref 0), some (.int (jn x)), some (.int (jn y)), some (.int (jn z)), some (.int (jn u)), none] [] g28 (RDvc tm er T N0 u0 H x y z u) := by
    intro hno
    iterate 2 refine mj_T.pl rfl rfl rfl rfl ?_
    refine mj_T.call (ins := .invokevirtual 198) rfl rfl (Nat.le_of_ble_eq_true rfl) (Nat.le_of_ble_eq_true rfl) (by simp [mj_recv, rS_f hs28]) rfl (mj_Ok.up (by decide) (rp_fails (D := 0) (c := 1) hs28)) (fun v' g29 hq' => ?_) (fun i h' hq' => by obtain ⟨_, _, h⟩ := hq'; cases h)
    obtain ⟨_, hs29, hq'⟩ := hq'
    cases hq'
    exact mj_T.ret rfl rfl rfl (Or.inr ⟨fun q => hno q.1, 1, Or.inl ⟨hno, rfl⟩, 0, g29, ⟨⟨by decide, by decide⟩, trivial⟩, rfl, ⟨_, N, B, X, V, hs29, K28.put ⟨by decide, by decide⟩ (by decide) (by decide) (by decide) (by decide) (by decide), jvu_at _ _ _⟩⟩)
  iterate 3 refine mj_T.pl rfl rfl rfl rfl ?_
  refine mj_T.call (ins := .invokestatic 210) rfl rfl (Nat.le_of_ble_eq_true rfl) (Nat.le_of_ble_eq_true rfl) rfl rfl (mj_Ok.up (by decide) (rx_areRegisters (D := 0) hx hy hz)) (fun v' h' hq' => ?_) (fun i h' hq' => by rcases hq' with ⟨_, _, h⟩ | ⟨_, h⟩ <;> cases h)
  rcases hq' with ⟨⟨x1, x2⟩, ⟨y1, y2, z1, z2⟩, hq'⟩ | ⟨hno, hq'⟩
  case' inr =>
    cases hq'
    refine mj_T.if0 (a := 0) rfl ⟨by decide, by decide⟩ (fun hc => ?_) (fun hc => ?_)
    · exact t22 (by omega)
    · simp [jc] at hc
  cases hq'
  refine mj_T.if0 (a := 1) rfl ⟨by decide, by decide⟩ (fun hc => ?_) (fun hc => ?_)
  · simp [jc] at hc
  refine mj_T.pl rfl rfl rfl rfl ?_
  refine mj_T.call (ins := .invokestatic 181) rfl rfl (Nat.le_of_ble_eq_true rfl) (Nat.le_of_ble_eq_true rfl) rfl rfl (mj_Ok.up (by decide) (rp_isRegister (D := 0) hu)) (fun v' h' hq' => ?_) (fun i h' hq' => by rcases hq' with ⟨_, _, h⟩ | ⟨_, h⟩ <;> cases h)
  rcases hq' with ⟨u1, u2, hq'⟩ | ⟨hno, hq'⟩
  case' inr =>
    cases hq'
    refine mj_T.if0 (a := 0) rfl ⟨by decide, by decide⟩ (fun hc => ?_) (fun hc => ?_)
    · simp [jc] at hc
    · exact t22 (by omega)
  cases hq'
  refine mj_T.if0 (a := 1) rfl ⟨by decide, by decide⟩ (fun hc => ?_) (fun hc => ?_)
  rotate_left
  · simp [jc] at hc
  clear t22
  obtain ⟨x, rfl⟩ := Int.eq_ofNat_of_zero_le x1
  obtain ⟨y, rfl⟩ := Int.eq_ofNat_of_zero_le y1
  obtain ⟨z, rfl⟩ := Int.eq_ofNat_of_zero_le z1
  obtain ⟨u, rfl⟩ := Int.eq_ofNat_of_zero_le u1
  iterate 2 refine mj_T.pl rfl rfl rfl rfl ?_
  refine mj_T.icmp (a := (x : Int)) (b := (y : Int)) rfl hx hy (fun hc => ?_) (fun hc => ?_)
  rotate_left
  · have hcc := hc
    iterate 2 refine mj_T.pl rfl rfl rfl rfl ?_
    refine mj_T.call (ins := .invokevirtual 198) rfl rfl (Nat.le_of_ble_eq_true rfl) (Nat.le_of_ble_eq_true rfl) (by simp [mj_recv, rS_f hs28]) rfl (mj_Ok.up (by decide) (rp_fails (D := 0) (c := 2) hs28)) (fun v' g30 hq' => ?_) (fun i h' hq' => by obtain ⟨_, _, h⟩ := hq'; cases h)
    obtain ⟨_, hs30, hq'⟩ := hq'
    cases hq'
    exact mj_T.ret rfl rfl rfl (Or.inr ⟨fun q => q.2.1 (by simp only [jc, Bool.not_eq_true', Bool.not_eq_false', decide_eq_true_eq, decide_eq_false_iff_not] at hcc; omega), 2, Or.inr (Or.inl ⟨⟨⟨by omega, by omega⟩, ⟨by omega, by omega⟩, ⟨by omega, by omega⟩, ⟨by omega, by omega⟩⟩, by simp only [jc, Bool.not_eq_true', Bool.not_eq_false', decide_eq_true_eq, decide_eq_false_iff_not] at hcc; omega, rfl⟩), 0, g30, ⟨⟨by decide, by decide⟩, trivial⟩, rfl, ⟨_, N, B, X, V, hs30, K28.put ⟨by decide, by decide⟩ (by decide) (by decide) (by decide) (by decide) (by decide), jvu_at _ _ _⟩⟩)
  have hne : (x : Int) ≠ (y : Int) := by
    simp only [jc, Bool.not_eq_true', Bool.not_eq_false', decide_eq_true_eq, decide_eq_false_iff_not] at hc
    omega
  have hfu : fdg (rwN N0 (u : Int)) 13 = jdg N u 13 := by
    rw [← fdg_jpo]
    exact (fdg_congr 13 fun i hi => by
      rw [jpo_at hi]
      exact rwN_at K28.2.1 (by omega) hi).symm
  iterate 2 refine mj_T.pl rfl rfl rfl rfl ?_
  refine mj_T.call (ins := .invokevirtual 232) rfl rfl (Nat.le_of_ble_eq_true rfl) (Nat.le_of_ble_eq_true rfl) (by simp [mj_recv, rS_f hs28]) rfl (mj_Ok.up (by decide) (rp_isZero (D := 0) (r := u) (by omega) K28.nR hs28)) (fun v' h' hq' => ?_) (fun i h' hq' => by rcases hq' with ⟨_, h⟩ | ⟨_, h⟩ <;> cases h)
  rcases hq' with ⟨z31, hq'⟩ | ⟨nz31, hq'⟩
  case' inl =>
    cases hq'
    refine mj_T.if0 (a := 1) rfl ⟨by decide, by decide⟩ (fun hc => ?_) (fun hc => ?_)
    · simp [jc] at hc
    iterate 2 refine mj_T.pl rfl rfl rfl rfl ?_
    refine mj_T.call (ins := .invokevirtual 198) rfl rfl (Nat.le_of_ble_eq_true rfl) (Nat.le_of_ble_eq_true rfl) (by simp [mj_recv, rS_f hs28]) rfl (mj_Ok.up (by decide) (rp_fails (D := 0) (c := 3) hs28)) (fun v' g32 hq' => ?_) (fun i h' hq' => by obtain ⟨_, _, h⟩ := hq'; cases h)
    obtain ⟨_, hs32, hq'⟩ := hq'
    cases hq'
    exact mj_T.ret rfl rfl rfl (Or.inr ⟨fun q => by have q2 := q.2.2.1; rw [hfu] at q2; omega, 3, Or.inr (Or.inr (Or.inl ⟨⟨⟨by omega, by omega⟩, ⟨by omega, by omega⟩, ⟨by omega, by omega⟩, ⟨by omega, by omega⟩⟩, hne, by rw [hfu]; omega, rfl⟩)), 0, g32, ⟨⟨by decide, by decide⟩, trivial⟩, rfl, ⟨_, N, B, X, V, hs32, K28.put ⟨by decide, by decide⟩ (by decide) (by decide) (by decide) (by decide) (by decide), jvu_at _ _ _⟩⟩)
  cases hq'
  refine mj_T.if0 (a := 0) rfl ⟨by decide, by decide⟩ (fun hc => ?_) (fun hc => ?_)
  rotate_left
  · simp [jc] at hc
  iterate 3 refine mj_T.pl rfl rfl rfl rfl ?_
  refine mj_T.call (ins := .invokevirtual 213) rfl rfl (Nat.le_of_ble_eq_true rfl) (Nat.le_of_ble_eq_true rfl) (by simp [mj_recv, rS_f hs28]) rfl (mj_Ok.up (by decide) (rp_loads (D := 0) (p := 0) (r := z) (by decide) (by omega) K28.nR hs28)) (fun v' g33 hq' => ?_) (fun i h' hq' => by obtain ⟨_, _, h⟩ := hq'; cases h)
  obtain ⟨_, hs33, hq'⟩ := hq'
  cases hq'
  have a33 : ∀ e, e < 13 → jfl V 0 (fun e => N (z * 13 + e)) 13 (0 * 13 + e) = N (z * 13 + e) := fun e he => jfl_at _ _ _ he
  have b33 : ∀ s, (s < 0 * 13 ∨ 0 * 13 + 13 ≤ s) → jfl V 0 (fun e => N (z * 13 + e)) 13 s = V s := fun s hc => jfl_off _ _ _ hc
  generalize jfl V 0 (fun e => N (z * 13 + e)) 13 = W33 at hs33 a33 b33
  iterate 3 refine mj_T.pl rfl rfl rfl rfl ?_
  refine mj_T.call (ins := .invokevirtual 213) rfl rfl (Nat.le_of_ble_eq_true rfl) (Nat.le_of_ble_eq_true rfl) (by simp [mj_recv, rS_f hs33]) rfl (mj_Ok.up (by decide) (rp_loads (D := 0) (p := 1) (r := u) (by decide) (by omega) K28.nR hs33)) (fun v' g34 hq' => ?_) (fun i h' hq' => by obtain ⟨_, _, h⟩ := hq'; cases h)
  obtain ⟨_, hs34, hq'⟩ := hq'
  cases hq'
  have a34 : ∀ e, e < 13 → jfl W33 1 (fun e => N (u * 13 + e)) 13 (1 * 13 + e) = N (u * 13 + e) := fun e he => jfl_at _ _ _ he
  have b34 : ∀ s, (s < 1 * 13 ∨ 1 * 13 + 13 ≤ s) → jfl W33 1 (fun e => N (u * 13 + e)) 13 s = W33 s := fun s hc => jfl_off _ _ _ hc
  generalize jfl W33 1 (fun e => N (u * 13 + e)) 13 = W34 at hs34 a34 b34
  have eA : jpo W34 0 = rwN N0 (z : Int) := funext fun e => by
    unfold jpo
    by_cases q : e < 13
    · rw [if_pos q, b34 _ (by omega), a33 e q]
      exact rwN_at K28.2.1 (by omega) q
    · rw [if_neg q]
      show 0 = if e < 13 then _ else 0
      rw [if_neg q]
  have eB : jpo W34 1 = rwN N0 (u : Int) := funext fun e => by
    unfold jpo
    by_cases q : e < 13
    · rw [if_pos q, a34 e q]
      exact rwN_at K28.2.1 (by omega) q
    · rw [if_neg q]
      show 0 = if e < 13 then _ else 0
      rw [if_neg q]
  have fA : fdg (rwN N0 (z : Int)) 13 = jdg W34 0 13 := by rw [← eA, fdg_jpo]
  have fB : fdg (rwN N0 (u : Int)) 13 = jdg W34 1 13 := by rw [← eB, fdg_jpo]
  have c1 : ∀ e, e < 13 → (W34 (0 * 13 + e)).natAbs ≤ 10 ^ 18 := fun e he => by
    rw [b34 _ (by omega), a33 e he]
    exact K28.sh (r := z) (by omega) he
  have c2 : ∀ e, e < 13 → (W34 (1 * 13 + e)).natAbs ≤ 10 ^ 18 := fun e he => by
    rw [a34 e he]
    exact K28.sh (r := u) (by omega) he
  have hj : 1 ≤ jdg W34 1 13 := by rw [jdg_congr 13 a34]; exact nz31
  have hjl := jdg_le W34 0 13
  have hjl2 := jdg_le W34 1 13
  iterate 5 refine mj_T.pl rfl rfl rfl rfl ?_
  refine mj_T.call (ins := .invokevirtual 145) rfl rfl (Nat.le_of_ble_eq_true rfl) (Nat.le_of_ble_eq_true rfl) (by simp [mj_recv, rS_f hs34]) rfl (mj_Ok.up (by decide) (jp_dividesPoly (D := 0) (rG S28 N B T X) (a := 0) (b := 1) (db := jdg W34 1 13 - 1) (lc := W34 (1 * 13 + (jdg W34 1 13 - 1))) (al := 10 ^ 18) (be := 10 ^ 18) (by decide) (by decide) (by decide) (by decide) (by decide) (by decide) (by omega) rfl c1 c2 (by decide) (Nat.lt_of_le_of_lt (Nat.mul_le_mul_left _ (Nat.pow_le_pow_right (by decide) (by omega : _ ≤ 13))) rp_small4) hs34)) (fun v' g35 hq' => ?_) (fun i h' hq' => by obtain ⟨_, _, _, _, _, _, _, h⟩ := hq'; cases h)
  obtain ⟨W35, _, hs35, _, rel35, low35, _, hq'⟩ := hq'
  cases hq'
  have dvu := dv_uniq (A := rwN N0 (z : Int)) (B := rwN N0 (u : Int)) (Q := jpo W35 2) (R := jpo W35 3) (N := 13) (fun i hi => by rw [← eA]; exact jpo_zb (by omega)) (fun i hi => by rw [← eB]; exact jpo_zb (by omega)) (by rw [fB]; omega) (jpo_lt W35 2) (fun i hi => by
    rw [fB] at hi
    by_cases q : i < 13
    · rw [jpo_at q]
      exact low35 i hi q
    · exact jpo_lt W35 3 i (by omega)) (by
    rw [fA, fB, ← eA, ← eB, jpo_at (V := W34) (p := 1) (by omega)]
    exact rel35)
  have dq : ∀ j, j < 13 → W35 (2 * 13 + j) = dvQ (rwN N0 (z : Int)) (rwN N0 (u : Int)) j := fun j hj => by
    rw [← dvu.1]
    exact (jpo_at hj).symm
  have dt : ∀ j, j < 13 → W35 (3 * 13 + j) = dvT (rwN N0 (z : Int)) (rwN N0 (u : Int)) j := fun j hj => by
    rw [← dvu.2]
    exact (jpo_at hj).symm
  have t93 : ¬ okDv N0 (x : Int) (y : Int) (z : Int) (u : Int) → ∀ e5, mj_T 39 mj_m237 93 [some (.ref 0), some (.int (jn (x : Int))), some (.int (jn (y : Int))), some (.int (jn (z : Int))), some (.int (jn (u : Int))), e5] [] g35 (RDvc tm er T N0 u0 H (x : Int) (y : Int) (z : Int) (u : Int)) := fun hno e5 => by
    iterate 2 refine mj_T.pl rfl rfl rfl rfl ?_
    refine mj_T.call (ins := .invokevirtual 198) rfl rfl (Nat.le_of_ble_eq_true rfl) (Nat.le_of_ble_eq_true rfl) (by simp [mj_recv, rS_f hs35]) rfl (mj_Ok.up (by decide) (rp_fails (D := 0) (c := 4) hs35)) (fun v' g36 hq' => ?_) (fun i h' hq' => by obtain ⟨_, _, h⟩ := hq'; cases h)
    obtain ⟨_, hs36, hq'⟩ := hq'
    cases hq'
    exact mj_T.ret rfl rfl rfl (Or.inr ⟨hno, 4, Or.inr (Or.inr (Or.inr ⟨⟨⟨by omega, by omega⟩, ⟨by omega, by omega⟩, ⟨by omega, by omega⟩, ⟨by omega, by omega⟩⟩, hne, by rw [fB]; omega, fun q => hno ⟨⟨⟨by omega, by omega⟩, ⟨by omega, by omega⟩, ⟨by omega, by omega⟩, ⟨by omega, by omega⟩⟩, hne, by rw [fB]; omega, q.1, q.2⟩, rfl⟩)), 0, g36, ⟨⟨by decide, by decide⟩, trivial⟩, rfl, ⟨_, N, B, X, W35, hs36, K28.put ⟨by decide, by decide⟩ (by decide) (by decide) (by decide) (by decide) (by decide), jvu_at _ _ _⟩⟩)
  iterate 3 refine mj_T.pl rfl rfl rfl rfl ?_
  refine mj_T.call (ins := .invokevirtual 195) rfl rfl (Nat.le_of_ble_eq_true rfl) (Nat.le_of_ble_eq_true rfl) (by simp [mj_recv, rS_f hs35]) rfl (mj_Ok.up (by decide) (jp_isInBounds (D := 0) (rG S28 N B T X) (p := 2) (by decide) (fun e he => jS_700 hs35 (by omega)) hs35)) (fun v' h' hq' => ?_) (fun i h' hq' => by cases hq')
  cases hq'
  have hb2 := jib_le W35 2 13
  refine mj_T.if0 (a := ((jib W35 2 13 : Nat) : Int)) rfl ⟨by omega, by omega⟩ (fun hc1 => ?_) (fun hc1 => ?_)
  · exact t93 (fun q => jib_no (V := W35) (p := 2) 13 (by simp only [jc, Bool.not_eq_true', Bool.not_eq_false', decide_eq_true_eq, decide_eq_false_iff_not] at hc1; omega) (fun e he => jnl_two.mpr (by rw [dq e he]; exact q.2.2.2.1.1 e he))) _
  iterate 2 refine mj_T.pl rfl rfl rfl rfl ?_
  refine mj_T.call (ins := .invokevirtual 195) rfl rfl (Nat.le_of_ble_eq_true rfl) (Nat.le_of_ble_eq_true rfl) (by simp [mj_recv, rS_f hs35]) rfl (mj_Ok.up (by decide) (jp_isInBounds (D := 0) (rG S28 N B T X) (p := 3) (by decide) (fun e he => jS_700 hs35 (by omega)) hs35)) (fun v' h' hq' => ?_) (fun i h' hq' => by cases hq')
  cases hq'
  have hb3 := jib_le W35 3 13
  refine mj_T.if0 (a := ((jib W35 3 13 : Nat) : Int)) rfl ⟨by omega, by omega⟩ (fun hc2 => ?_) (fun hc2 => ?_)
  rotate_left
  · exact t93 (fun q => jib_no (V := W35) (p := 3) 13 (by simp only [jc, Bool.not_eq_true', Bool.not_eq_false', decide_eq_true_eq, decide_eq_false_iff_not] at hc2; omega) (fun e he => jnl_two.mpr (by rw [dt e he]; exact q.2.2.2.2.1 e he))) _
  simp only [jc, Bool.not_eq_true', Bool.not_eq_false', decide_eq_false_iff_not] at hc1 hc2
  have q2 := jib_short (V := W35) (p := 2) (by omega)
  have q3 := jib_short (V := W35) (p := 3) (by omega)
  refine mj_T.pl rfl rfl rfl rfl ?_
  refine mj_T.call (ins := .invokevirtual 201) rfl rfl (Nat.le_of_ble_eq_true rfl) (Nat.le_of_ble_eq_true rfl) (by simp [mj_recv, rS_f hs35]) rfl (mj_Ok.up (by decide) (rx_keeps (D := 0) K28 hs35)) (fun v' g37 hq' => ?_) (fun i h' hq' => by obtain ⟨_, _, _, _, _, _, h⟩ := hq'; cases h)
  obtain ⟨S37, B37, _, hs37, K37, s37, hq'⟩ := hq'
  cases hq'
  iterate 3 refine mj_T.pl rfl rfl rfl rfl ?_
  refine mj_T.call (ins := .invokevirtual 204) rfl rfl (Nat.le_of_ble_eq_true rfl) (Nat.le_of_ble_eq_true rfl) (by simp [mj_recv, rS_f hs37]) rfl (mj_Ok.up (by decide) (rp_stores (D := 0) (p := 2) (r := x) (by decide) (by omega) hs37)) (fun v' g38 hq' => ?_) (fun i h' hq' => by obtain ⟨_, _, h⟩ := hq'; cases h)
  obtain ⟨_, hs38, hq'⟩ := hq'
  cases hq'
  have K38 := K37.row (gN_row K37.1.1 (r := x) (p := 2) (V := W35) (by omega) q2) (jfl_cg K37.2.1 x _)
  generalize jfl N x (fun e => W35 (2 * 13 + e)) 13 = N38 at hs38 K38
  iterate 3 refine mj_T.pl rfl rfl rfl rfl ?_
  refine mj_T.call (ins := .invokevirtual 204) rfl rfl (Nat.le_of_ble_eq_true rfl) (Nat.le_of_ble_eq_true rfl) (by simp [mj_recv, rS_f hs38]) rfl (mj_Ok.up (by decide) (rp_stores (D := 0) (p := 3) (r := y) (by decide) (by omega) hs38)) (fun v' g39 hq' => ?_) (fun i h' hq' => by obtain ⟨_, _, h⟩ := hq'; cases h)
  obtain ⟨_, hs39, hq'⟩ := hq'
  cases hq'
  have K39 := K38.row (gN_row K38.1.1 (r := y) (p := 3) (V := W35) (by omega) q3) (jfl_cg K38.2.1 y _)
  generalize jfl N38 y (fun e => W35 (3 * 13 + e)) 13 = N39 at hs39 K39
  refine mj_T.pl rfl rfl rfl rfl ?_
  have hs2 : fit13 (dvQ (rwN N0 (z : Int)) (rwN N0 (u : Int))) := ⟨fun j hj => by
    rw [← dq j hj]
    have := q2 j hj
    omega, fun i hi => by
    rw [← dvu.1]
    exact jpo_lt W35 2 i hi⟩
  have hs3 : fit13 (dvT (rwN N0 (z : Int)) (rwN N0 (u : Int))) := ⟨fun j hj => by
    rw [← dt j hj]
    have := q3 j hj
    omega, fun i hi => by
    rw [← dvu.2]
    exact jpo_lt W35 3 i hi⟩
  exact mj_T.ret rfl rfl rfl (Or.inl ⟨⟨⟨⟨by omega, by omega⟩, ⟨by omega, by omega⟩, ⟨by omega, by omega⟩, ⟨by omega, by omega⟩⟩, hne, by rw [fB]; omega, hs2, hs3⟩, _, _, dq, dt, _, g39, ⟨⟨by omega, by omega⟩, by rw [fA, fB]⟩, rfl, ⟨S37, N39, B37, X, W35, hs39, K39, s37.trans e28⟩⟩)
end RAT
section RAU
variable {h : mj_H} {er : Int} {T : Nat → Int} {N0 : Nat → Int} {u0 : Nat} {H : Nat → Nat → Int}
theorem ra_read {x : Int} (hx : jr x) {tm0 : Nat} (hI : jIx N0 u0 H (tm0 : Int) er T h) : mj_Ok 60 245 [.ref 0, .int (jn x)] h (RRdc N0 u0 H tm0 er T x) := by
  refine mj_Ok.of (M := mj_m245) rfl rfl rfl ?_
  obtain ⟨S, N, B, X, V, hs, K⟩ := hI
  iterate 2 refine mj_T.pl rfl rfl rfl rfl ?_
  refine rT_put (v := 0) hs rfl rfl (by decide) rfl (fun g1 hs1 => ?_)
  have K1 := K.put (k := 3) (v := 0) ⟨by decide, by decide⟩ (by decide) (by decide) (by decide) (by decide) (by decide)
  have ez1 : jvu S 3 0 3 = 0 := jvu_at S 3 0
  generalize jvu S 3 0 = S1 at hs1 K1 ez1
  refine mj_T.pl rfl rfl rfl rfl ?_
  refine mj_T.call (ins := .invokestatic 181) rfl rfl (Nat.le_of_ble_eq_true rfl) (Nat.le_of_ble_eq_true rfl) rfl rfl (mj_Ok.up (by decide) (rp_isRegister (D := 0) hx)) (fun v' h' hq' => ?_) (fun i h' hq' => by rcases hq' with ⟨_, _, h⟩ | ⟨_, h⟩ <;> cases h)
  rcases hq' with ⟨x1, x2, hq'⟩ | ⟨xn, hq'⟩
  case' inr =>
    cases hq'
    refine mj_T.if0 (a := 0) rfl ⟨by decide, by decide⟩ (fun hc => ?_) (fun hc => ?_)
    · simp [jc] at hc
    iterate 2 refine mj_T.pl rfl rfl rfl rfl ?_
    refine mj_T.call (ins := .invokevirtual 198) rfl rfl (Nat.le_of_ble_eq_true rfl) (Nat.le_of_ble_eq_true rfl) (by simp [mj_recv, rS_f hs1]) rfl (mj_Ok.up (by decide) (rp_fails (D := 0) (c := 1) hs1)) (fun v' g2 hq' => ?_) (fun i h' hq' => by obtain ⟨_, _, h⟩ := hq'; cases h)
    obtain ⟨_, hs2, hq'⟩ := hq'
    cases hq'
    exact mj_T.ret rfl rfl rfl (Or.inr ⟨by omega, 0, g2, ⟨⟨by decide, by decide⟩, trivial⟩, rfl, ⟨_, N, B, X, V, hs2, K1.put ⟨by decide, by decide⟩ (by decide) (by decide) (by decide) (by decide) (by decide), jvu_at _ _ _⟩⟩)
  cases hq'
  refine mj_T.if0 (a := 1) rfl ⟨by decide, by decide⟩ (fun hc => ?_) (fun hc => ?_)
  rotate_left
  · simp [jc] at hc
  obtain ⟨x, rfl⟩ := Int.eq_ofNat_of_zero_le x1
  have k9 := K1.1.2.2.2.1
  have hT0 := K1.1.2.2.2.2.2.2.2.2
  have ht : tm0 ≤ 200 := by omega
  have hT : ∀ j : Nat, j < tm0 → 1 ≤ T j ∧ T j ≤ 255 := fun j hj => hT0 j (by omega)
  iterate 2 refine mj_T.pl rfl rfl rfl rfl ?_
  refine rT_put (v := 0) hs1 rfl rfl (by decide) rfl (fun ha hsa => ?_)
  iterate 2 refine mj_T.pl rfl rfl rfl rfl ?_
  refine rT_put (v := 0) hsa rfl rfl (by decide) rfl (fun hb hsb => ?_)
  iterate 2 refine mj_T.pl rfl rfl rfl rfl ?_
  refine rT_put (v := -1) hsb rfl rfl (by decide) rfl (fun hc hsc => ?_)
  have hsd : rS (st3 S1 ((0 : Nat) : Int) (8 - ((8 : Nat) : Int)) (-1)) N B T X V hc := hsc
  obtain ⟨hre, hrb⟩ := rdR_eq T tm0
  obtain ⟨res, hres⟩ : ∃ z, rdR T tm0 = z := ⟨_, rfl⟩
  rw [hres] at hre hrb
  have t51 : ∀ (a2 o2 x2 : Int) (h2 : mj_H), jr a2 → jr o2 → jr x2 → rdErr T tm0 = x2 → x2 ≠ -1 → rS (st3 S1 a2 o2 x2) N B T X V h2 → mj_T 59 mj_m245 51 [some (.ref 0), some (.int (jn (x : Int))), none] [] h2 (RRdc N0 u0 H tm0 er T (x : Int)) := fun a2 o2 x2 h2 ja jo jx hx2 hxn hs2 => by
    iterate 3 refine mj_T.pl rfl rfl rfl rfl ?_
    refine mj_T.if0 (a := 0) rfl ⟨by decide, by decide⟩ (fun hc => ?_) (fun hc => ?_)
    rotate_left
    · simp [jc] at hc
    iterate 2 refine mj_T.pl rfl rfl rfl rfl ?_
    refine rT_put (v := 0) hs2 rfl rfl (by decide) rfl (fun h3 hs3 => ?_)
    refine mj_T.pl rfl rfl rfl rfl ?_
    refine mj_T.if0 (a := 0) rfl ⟨by decide, by decide⟩ (fun hc => ?_) (fun hc => ?_)
    · simp [jc] at hc
    iterate 2 refine mj_T.pl rfl rfl rfl rfl ?_
    refine mj_T.call (ins := .invokevirtual 198) rfl rfl (Nat.le_of_ble_eq_true rfl) (Nat.le_of_ble_eq_true rfl) (by simp [mj_recv, rS_f hs3]) rfl (mj_Ok.up (by decide) (rp_fails (D := 0) (c := 2) hs3)) (fun v' g3 hq' => ?_) (fun i h' hq' => by obtain ⟨_, _, h⟩ := hq'; cases h)
    obtain ⟨_, hs3, hq'⟩ := hq'
    cases hq'
    exact mj_T.ret rfl rfl rfl (Or.inl ⟨⟨by omega, by omega⟩, Or.inr ⟨Or.inl (by rw [hx2]; exact hxn), 2, Or.inl ⟨by rw [hx2]; exact hxn, rfl⟩, 0, g3, ⟨⟨by decide, by decide⟩, trivial⟩, rfl, ⟨_, N, B, X, V, hs3, by rw [hx2]; exact ((K1.rd3 ja jo jx).clear).put ⟨by decide, by decide⟩ (by decide) (by decide) (by decide) (by decide) (by decide), jvu_at _ _ _⟩⟩⟩)
  refine mj_T.pl rfl rfl rfl rfl ?_
  refine mj_T.call (ins := .invokevirtual 257) rfl rfl (Nat.le_of_ble_eq_true rfl) (Nat.le_of_ble_eq_true rfl) (by simp [mj_recv, rS_f hsc]) rfl (mj_Ok.up (by decide) ((rd_all (er := -1) (S := S1) (N := N) (B := B) (X := X) (V := V) k9.1 ht hT (rdF tm0) 8 (by decide)).2.2.2 0 hc res (Nat.zero_le _) hre hsd)) (fun v' h4 hq' => ?_) (fun i h' hq' => by rcases hq' with ⟨_, _, _, _, h⟩ | ⟨_, _, _, _, _, _, h⟩ <;> cases h)
  rcases hq' with ⟨c, _, ⟨c1, c2, c3⟩, hs4, hq'⟩ | ⟨x3, c, o3, _, ⟨c1, c2, c3, c4⟩, hs4, hq'⟩
  rotate_left
  · cases hq'
    refine mj_T.if0 (a := 0) rfl ⟨by decide, by decide⟩ (fun hc => ?_) (fun hc => ?_)
    rotate_left
    · simp [jc] at hc
    exact t51 _ _ _ h4 ⟨by omega, by omega⟩ c4 ⟨by omega, by omega⟩ (by unfold rdErr; rw [hres, c1]; rfl) (by omega) hs4
  cases hq'
  refine mj_T.if0 (a := 1) rfl ⟨by decide, by decide⟩ (fun hc => ?_) (fun hc => ?_)
  · simp [jc] at hc
  refine mj_T.pl rfl rfl rfl rfl ?_
  refine mj_T.call (ins := .invokevirtual 261) rfl rfl (Nat.le_of_ble_eq_true rfl) (Nat.le_of_ble_eq_true rfl) (by simp [mj_recv, rS_f hs4]) rfl (mj_Ok.up (by decide) (rd_end (D := 0) (S := S1) k9.1 ht hT c2 hs4)) (fun v' h5 hq' => ?_) (fun i h' hq' => by rcases hq' with ⟨_, _, _, h⟩ | ⟨_, _, _, h⟩ <;> cases h)
  rcases hq' with ⟨e1, _, hs5, hq'⟩ | ⟨⟨e1, e2⟩, _, hs5, hq'⟩
  rotate_left
  · cases hq'
    refine mj_T.if0 (a := 0) rfl ⟨by decide, by decide⟩ (fun hc => ?_) (fun hc => ?_)
    rotate_left
    · simp [jc] at hc
    exact t51 _ _ _ h5 ⟨by omega, by omega⟩ ⟨by decide, by decide⟩ ⟨by omega, by omega⟩ (by unfold rdErr; rw [hres, c1]; exact (if_pos rfl).trans (if_neg e1)) (by omega) hs5
  cases hq'
  refine mj_T.if0 (a := 1) rfl ⟨by decide, by decide⟩ (fun hc => ?_) (fun hc => ?_)
  · simp [jc] at hc
  have herr : rdErr T tm0 = -1 := by unfold rdErr; rw [hres, c1]; exact (if_pos rfl).trans (if_pos e1)
  iterate 4 refine mj_T.pl rfl rfl rfl rfl ?_
  refine mj_T.if0 (a := 1) rfl ⟨by decide, by decide⟩ (fun hc => ?_) (fun hc => ?_)
  · simp [jc] at hc
  iterate 2 refine mj_T.pl rfl rfl rfl rfl ?_
  refine rT_put (v := ((0 : Nat) : Int)) hs5 rfl rfl (by decide) rfl (fun h6 hs6 => ?_)
  rw [st3_10] at hs6
  iterate 2 refine mj_T.pl rfl rfl rfl rfl ?_
  refine rT_put (v := 0) hs6 rfl rfl (by decide) rfl (fun h7 hs7 => ?_)
  rw [jvu13_st3] at hs7
  iterate 2 refine mj_T.pl rfl rfl rfl rfl ?_
  have hre2 := hre
  rw [c1] at hre2
  refine mj_T.call (ins := .invokevirtual 268) rfl rfl (Nat.le_of_ble_eq_true rfl) (Nat.le_of_ble_eq_true rfl) (by simp [mj_recv, rS_f hs7]) rfl (mj_Ok.up (by decide) (wv_all k9.1 ht hT 8 (rdF tm0) 0 23 c V h7 (by decide) (by decide) (by decide) (Nat.zero_le _) hre2 hs7)) (fun v' h8 hq' => ?_) (fun i h' hq' => by obtain ⟨_, _, _, _, _, _, _, _, h⟩ := hq'; cases h)
  obtain ⟨V8, a8, y8, _, hs8, ha8, _, hy8, hq'⟩ := hq'
  cases hq'
  have hy : y8 = 0 ∨ y8 = 1 := by
    rcases hy8 with ⟨q, _⟩ | ⟨q, _⟩
    · exact Or.inl q
    · exact Or.inr q
  have eV : zv0 T tm0 (rdF tm0) 3 8 0 none 1 = rdV T tm0 := rfl
  rw [eV] at hy8
  have K9 := ((K1.put13 hy).rd3 (a := (a8 : Int)) (o := 8 - ((8 : Nat) : Int)) (e := -1) ⟨by omega, by omega⟩ ⟨by decide, by decide⟩ ⟨by decide, by decide⟩).clear
  iterate 2 refine mj_T.pl rfl rfl rfl rfl ?_
  refine rT_put (v := 0) hs8 rfl rfl (by decide) rfl (fun h9 hs9 => ?_)
  refine mj_T.pl rfl rfl rfl rfl ?_
  refine mj_T.if0 (a := 1) rfl ⟨by decide, by decide⟩ (fun hc => ?_) (fun hc => ?_)
  rotate_left
  · simp [jc] at hc
  refine mj_T.pl rfl rfl rfl rfl ?_
  refine rT_get (v := .int (jn y8)) hs9 rfl rfl ?_
  refine mj_T.if0 (a := y8) rfl ⟨by omega, by omega⟩ (fun hc9 => ?_) (fun hc9 => ?_)
  · simp only [jc, Bool.not_eq_true', Bool.not_eq_false', decide_eq_true_eq, decide_eq_false_iff_not] at hc9
    obtain ⟨P, p1, p2, p3⟩ : ∃ P, rdV T tm0 = some P ∧ fit13 P ∧ ∀ j, j < 13 → V8 (23 * 13 + j) = P j := by
      rcases hy8 with ⟨_, _, P, p1, p2, p3⟩ | ⟨q, _⟩
      · exact ⟨P, p1, p2, p3⟩
      · omega
    iterate 4 refine mj_T.pl rfl rfl rfl rfl ?_
    refine mj_T.call (ins := .invokevirtual 219) rfl rfl (Nat.le_of_ble_eq_true rfl) (Nat.le_of_ble_eq_true rfl) (by simp [mj_recv, rS_f hs9]) rfl (mj_Ok.up (by decide) (ra_puts (D := 0) (r := x) (p := 23) (c := 3) (by omega) (by decide) ⟨by decide, by decide⟩ K9 hs9 (by simp [st3, jvu, ez1]))) (fun v' h10 hq' => ?_) (fun i h' hq' => by rcases hq' with ⟨_, _, _, _, h, _⟩ | ⟨_, _, _, _, h, _⟩ <;> cases h)
    rcases hq' with ⟨hs9', z9, _, hz9, e9, hI9⟩ | ⟨hs9', z9, _, hz9, e9, hI9⟩
    · cases e9
      exact mj_T.ret rfl rfl rfl (Or.inl ⟨⟨by omega, by omega⟩, Or.inl ⟨herr, P, p1, p2, _, p3, z9, _, hz9, rfl, hI9⟩⟩)
    · exact absurd (sml_cg (fun j hj => (p3 j hj).symm) p2.1) hs9'
  simp only [jc, Bool.not_eq_true', Bool.not_eq_false', decide_eq_true_eq, decide_eq_false_iff_not] at hc9
  have hnone : rdV T tm0 = none := by
    rcases hy8 with ⟨q, _⟩ | ⟨_, q⟩
    · omega
    · exact q
  iterate 2 refine mj_T.pl rfl rfl rfl rfl ?_
  refine mj_T.call (ins := .invokevirtual 198) rfl rfl (Nat.le_of_ble_eq_true rfl) (Nat.le_of_ble_eq_true rfl) (by simp [mj_recv, rS_f hs9]) rfl (mj_Ok.up (by decide) (rp_fails (D := 0) (c := 3) hs9)) (fun v' g4 hq' => ?_) (fun i h' hq' => by obtain ⟨_, _, h⟩ := hq'; cases h)
  obtain ⟨_, hs4, hq'⟩ := hq'
  cases hq'
  refine mj_T.pl rfl rfl rfl rfl ?_
  exact mj_T.ret rfl rfl rfl (Or.inl ⟨⟨by omega, by omega⟩, Or.inr ⟨Or.inr hnone, 3, Or.inr ⟨herr, hnone, rfl⟩, 0, g4, ⟨⟨by decide, by decide⟩, trivial⟩, rfl, ⟨_, N, B, X, V8, hs4, by rw [herr]; exact K9.put ⟨by decide, by decide⟩ (by decide) (by decide) (by decide) (by decide) (by decide), jvu_at _ _ _⟩⟩⟩)
end RAU
/-! Answers of the calls that change registers, in one form. -/
theorem itR.oneD {N : Nat → Int} (g : gN N) {w1 w2 : Nat → Int} {D1 D2 : Int} (a : itR N w1 D1) (b : itR N w2 D2) : D1 = D2 := by
  obtain ⟨M1, a0, a1, a2, a3, a4⟩ := a
  obtain ⟨M2, b0, b1, b2, b3, b4⟩ := b
  have hlin := itp_lin (Y := fun i => N (85 + i)) a1 b1 (wgt_N g) (N 78).toNat (Nat.le_refl _)
  have hx : ∀ j, j < 13 → D2 * w1 j = D1 * w2 j := fun j hj => by
    have e1 := a2 j hj
    have e2 := b2 j hj
    have e3 := hlin j
    generalize itp (fun i => N (79 + i)) (fun i => N (85 + i)) M1 (N 78).toNat (N 78).toNat j = I1 at e1 e3
    generalize itp (fun i => N (79 + i)) (fun i => N (85 + i)) M2 (N 78).toNat (N 78).toNat j = I2 at e2 e3
    have hne : M1 * M2 ≠ 0 := Int.mul_ne_zero (by omega) (by omega)
    refine Int.eq_of_mul_eq_mul_left hne ?_
    have l1 : M1 * M2 * (D2 * w1 j) = D1 * D2 * (M2 * I1) := by
      rw [show M1 * M2 * (D2 * w1 j) = M2 * D2 * (M1 * w1 j) by ac_rfl, e1]
      ac_rfl
    have l2 : M1 * M2 * (D1 * w2 j) = D1 * D2 * (M1 * I2) := by
      rw [show M1 * M2 * (D1 * w2 j) = M1 * D1 * (M2 * w2 j) by ac_rfl, e2]
      ac_rfl
    rw [l1, l2, e3]
  have n1 : D1 = ((D1.natAbs : Nat) : Int) := by omega
  have n2 : D2 = ((D2.natAbs : Nat) : Int) := by omega
  have d1 : D1.natAbs ∣ D2.natAbs := cp_dvd a4 (fun j hj => by rw [← n1, ← n2]; exact hx j hj)
  have d2 : D2.natAbs ∣ D1.natAbs := cp_dvd b4 (fun j hj => by rw [← n1, ← n2]; exact (hx j hj).symm)
  have de : D1.natAbs = D2.natAbs := Nat.dvd_antisymm d1 d2
  omega
theorem an.n {p : Prop} {k z : Int} {l : List (Prop × Int)} {F : Int → Prop} (h : ¬ p) : an ((p, k) :: l) F k z := Or.inl ⟨h, rfl⟩
theorem an.y {p : Prop} {k c z : Int} {l : List (Prop × Int)} {F : Int → Prop} (h : p) (q : an l F c z) : an ((p, k) :: l) F c z := Or.inr ⟨h, q⟩
theorem an.e {z : Int} {F : Int → Prop} (h : F z) : an [] F 0 z := ⟨rfl, h⟩
abbrev rg2 (a b : Int) : Prop := (0 ≤ a ∧ a ≤ 5) ∧ (0 ≤ b ∧ b ≤ 5)
abbrev rg3 (a b c : Int) : Prop := (0 ≤ a ∧ a ≤ 5) ∧ (0 ≤ b ∧ b ≤ 5) ∧ (0 ≤ c ∧ c ≤ 5)
/-- the degree of what is laid -/
def dgF (R : Nat → Int) (z : Int) : Prop := z = (fdg R 13 : Int) - 1
theorem dgF.of {R w : Nat → Int} (h : ∀ j, j < 13 → w j = R j) : dgF R ((fdg w 13 : Int) - 1) := by
  unfold dgF
  rw [fdg_congr 13 h]
theorem dgF.one {R : Nat → Int} (z1 z2 : Int) (a : dgF R z1) (b : dgF R z2) : z1 = z2 := a.trans b.symm
abbrev A_sum (N : Nat → Int) (f to a b : Int) : Int → Int → Prop := an [(rg3 to a b, 1), (sml (sumN N f a b), 2)] (dgF (sumN N f a b))
abbrev A_multiply (N : Nat → Int) (to a b : Int) : Int → Int → Prop := an [(rg3 to a b, 1), (fit13 (pz_mul (rwN N a) (rwN N b)), 2)] (dgF (pz_mul (rwN N a) (rwN N b)))
abbrev A_power (N : Nat → Int) (to a e : Int) : Int → Int → Prop := an [(rg2 to a, 1), (0 ≤ e ∧ e ≤ 12, 2), (fit13 (pw (rwN N a) e.toNat), 3)] (dgF (pw (rwN N a) e.toNat))
abbrev A_derive (N : Nat → Int) (to a : Int) : Int → Int → Prop := an [(rg2 to a, 1), (sml (drN N a), 2)] (dgF (drN N a))
abbrev A_substitute (N : Nat → Int) (to a b : Int) : Int → Int → Prop := an [(rg3 to a b, 1), (fit13 (hw (rwN N a) (rwN N b) 13), 2)] (dgF (hw (rwN N a) (rwN N b) 13))
abbrev A_divide (N : Nat → Int) (x y z u : Int) : Int → Int → Prop := an [((0 ≤ x ∧ x ≤ 5) ∧ (0 ≤ y ∧ y ≤ 5) ∧ (0 ≤ z ∧ z ≤ 5) ∧ (0 ≤ u ∧ u ≤ 5), 1), (x ≠ y, 2), (0 < fdg (rwN N u) 13, 3), (fit13 (dvQ (rwN N z) (rwN N u)) ∧ fit13 (dvT (rwN N z) (rwN N u)), 4)] (fun v => v = ((fdg (rwN N z) 13 - (fdg (rwN N u) 13 - 1) : Nat) : Int))
abbrev A_gcd (N : Nat → Int) (to a b : Int) : Int → Int → Prop := an [(rg3 to a b, 1), (∃ R, gcR (rwN N a) (rwN N b) R ∧ fit13 R, 2)] (fun v => ∃ R, gcR (rwN N a) (rwN N b) R ∧ dgF R v)
abbrev A_primitive (N : Nat → Int) (to a : Int) : Int → Int → Prop := an [(rg2 to a, 1), (fit13 (ppr (rwN N a)), 2)] (dgF (ppr (rwN N a)))
abbrev A_simple (N : Nat → Int) (to a : Int) : Int → Int → Prop := an [(rg2 to a, 1), (0 < fdg (rwN N a) 13, 2), (∃ S, smR (rwN N a) S ∧ fit13 S, 3)] (fun v => ∃ S, smR (rwN N a) S ∧ dgF S v)
abbrev A_residue (N : Nat → Int) (to a p : Int) : Int → Int → Prop := an [(rg2 to a, 1), (prm p, 2)] (dgF (fun j => rwN N a j % p))
abbrev A_setTerm (N : Nat → Int) (to e x : Int) : Int → Int → Prop := an [(0 ≤ to ∧ to ≤ 5, 1), (0 ≤ e ∧ e ≤ 12, 2), (-999999999999999999 ≤ x ∧ x ≤ 999999999999999999, 3)] (dgF (fun j => if j = e.toNat then x else rwN N to j))
abbrev A_addPoint (N : Nat → Int) (x y : Int) : Int → Int → Prop := an [((-9 ≤ x ∧ x ≤ 9) ∧ (-999 ≤ y ∧ y ≤ 999), 1), (N 78 ≠ 6 ∧ ∀ j : Nat, (j : Int) < N 78 → N (79 + j) ≠ x, 2)] (fun v => v = (((N 78).toNat + 1 : Nat) : Int))
abbrev A_read (T : Nat → Int) (tm : Nat) (to : Int) : Int → Int → Prop := an [(0 ≤ to ∧ to ≤ 5, 1), (rdErr T tm = -1, 2), (∃ P, rdV T tm = some P, 3)] (fun v => ∃ P, rdV T tm = some P ∧ dgF P v)
section AAG
variable {N : Nat → Int} {c1 z1 c2 z2 : Int}
theorem A_sum.ag {f to a b : Int} (p : A_sum N f to a b c1 z1) (q : A_sum N f to a b c2 z2) : c1 = c2 ∧ (c1 = 0 → z1 = z2) := an.ag dgF.one (by simp) p q
theorem A_multiply.ag {to a b : Int} (p : A_multiply N to a b c1 z1) (q : A_multiply N to a b c2 z2) : c1 = c2 ∧ (c1 = 0 → z1 = z2) := an.ag dgF.one (by simp) p q
theorem A_power.ag {to a b : Int} (p : A_power N to a b c1 z1) (q : A_power N to a b c2 z2) : c1 = c2 ∧ (c1 = 0 → z1 = z2) := an.ag dgF.one (by simp) p q
theorem A_derive.ag {to a : Int} (p : A_derive N to a c1 z1) (q : A_derive N to a c2 z2) : c1 = c2 ∧ (c1 = 0 → z1 = z2) := an.ag dgF.one (by simp) p q
theorem A_substitute.ag {to a b : Int} (p : A_substitute N to a b c1 z1) (q : A_substitute N to a b c2 z2) : c1 = c2 ∧ (c1 = 0 → z1 = z2) := an.ag dgF.one (by simp) p q
theorem A_divide.ag {x y z u : Int} (p : A_divide N x y z u c1 z1) (q : A_divide N x y z u c2 z2) : c1 = c2 ∧ (c1 = 0 → z1 = z2) := an.ag (fun _ _ a b => a.trans b.symm) (by simp) p q
theorem A_gcd.ag {to a b : Int} (p : A_gcd N to a b c1 z1) (q : A_gcd N to a b c2 z2) : c1 = c2 ∧ (c1 = 0 → z1 = z2) := an.ag (fun z1 z2 a b => by
  obtain ⟨R1, a1, a2⟩ := a
  obtain ⟨R2, b1, b2⟩ := b
  have e := gcR.one a1 b1
  subst e
  exact dgF.one _ _ a2 b2) (by simp) p q
theorem A_primitive.ag {to a : Int} (p : A_primitive N to a c1 z1) (q : A_primitive N to a c2 z2) : c1 = c2 ∧ (c1 = 0 → z1 = z2) := an.ag dgF.one (by simp) p q
theorem A_simple.ag {to a : Int} (p : A_simple N to a c1 z1) (q : A_simple N to a c2 z2) : c1 = c2 ∧ (c1 = 0 → z1 = z2) := an.ag (fun z1 z2 a b => by
  obtain ⟨R1, a1, a2⟩ := a
  obtain ⟨R2, b1, b2⟩ := b
  have e := smR.one a1 b1
  subst e
  exact dgF.one _ _ a2 b2) (by simp) p q
theorem A_residue.ag {to a b : Int} (p : A_residue N to a b c1 z1) (q : A_residue N to a b c2 z2) : c1 = c2 ∧ (c1 = 0 → z1 = z2) := an.ag dgF.one (by simp) p q
theorem A_setTerm.ag {to a b : Int} (p : A_setTerm N to a b c1 z1) (q : A_setTerm N to a b c2 z2) : c1 = c2 ∧ (c1 = 0 → z1 = z2) := an.ag dgF.one (by simp) p q
theorem A_addPoint.ag {a b : Int} (p : A_addPoint N a b c1 z1) (q : A_addPoint N a b c2 z2) : c1 = c2 ∧ (c1 = 0 → z1 = z2) := an.ag (fun _ _ a b => a.trans b.symm) (by simp) p q
theorem A_read.ag {T : Nat → Int} {tm : Nat} {to : Int} (p : A_read T tm to c1 z1) (q : A_read T tm to c2 z2) : c1 = c2 ∧ (c1 = 0 → z1 = z2) := an.ag (fun z1 z2 a b => by
  obtain ⟨R1, a1, a2⟩ := a
  obtain ⟨R2, b1, b2⟩ := b
  rw [a1] at b1
  cases b1
  exact dgF.one _ _ a2 b2) (by simp) p q
end AAG
section ACL
variable {g h : mj_H} {n u : Nat} {N : Nat → Int} {H : Nat → Nat → Int}
theorem RO.ca {reg : Prop} {fail : Nat → Prop} {res : (Nat → Int) → Prop} {to : Int} {z : mj_R} (cd : Nat → Int) {A : Int → Int → Prop} (r : RO g n N u H reg fail res to z) (h1 : ¬ reg → ∀ z, A (cd 0) z) (h2 : ∀ k, reg → fail k → ∀ z, A (cd k) z) (h3 : ∀ w, reg → res w → sml w → A 0 ((fdg w 13 : Int) - 1)) : cA cd A z := by
  rcases r with ⟨a, w, h9, s, b, _, rfl⟩ | ⟨k, h9, hk, _, rfl⟩
  · have := fdg_le w 13
    exact ⟨_, ⟨by omega, by omega⟩, rfl, h3 w a b s⟩
  · intro z
    rcases hk with ⟨a, rfl⟩ | ⟨a, b⟩
    · exact h1 a z
    · exact h2 k a b z
theorem ca_102 (B : AS N u H) (s : cC N u H h) {to : Int} (r0 : -2147483648 ≤ to ∧ to ≤ 2147483647) {a : Int} (r1 : -2147483648 ≤ a ∧ a ≤ 2147483647) {b : Int} (r2 : -2147483648 ≤ b ∧ b ≤ 2147483647) : mj_Ok 59 102 [.ref 1, .int (jn to), .int (jn a), .int (jn b)] h (fun r => yZ (Q_sum N u H 1 to a b) r.2 ∧ cA (fun k => if k = 0 then 1 else 2) (A_sum N 1 to a b) r) := ((cz_102 B s r0 r1 r2).and (mj_Ok.up (by decide) (pX_add (D := 0) (Nat.le_refl _) B s r0 r1 r2))).to (fun z hz => ⟨hz.1.yz, RO.ca _ hz.2 (fun q z => an.n q) (fun k q hk z => by
  obtain ⟨a, rfl⟩ := hk
  exact an.y q (an.n a)) (fun w q hw _ => an.y q (an.y hw.1 (an.e (dgF.of hw.2))))⟩)
theorem ca_103 (B : AS N u H) (s : cC N u H h) {to : Int} (r0 : -2147483648 ≤ to ∧ to ≤ 2147483647) {a : Int} (r1 : -2147483648 ≤ a ∧ a ≤ 2147483647) {b : Int} (r2 : -2147483648 ≤ b ∧ b ≤ 2147483647) : mj_Ok 59 103 [.ref 1, .int (jn to), .int (jn a), .int (jn b)] h (fun r => yZ (Q_sum N u H (-1) to a b) r.2 ∧ cA (fun k => if k = 0 then 1 else 2) (A_sum N (-1) to a b) r) := ((cz_103 B s r0 r1 r2).and (mj_Ok.up (by decide) (pX_subtract (D := 0) (Nat.le_refl _) B s r0 r1 r2))).to (fun z hz => ⟨hz.1.yz, RO.ca _ hz.2 (fun q z => an.n q) (fun k q hk z => by
  obtain ⟨a, rfl⟩ := hk
  exact an.y q (an.n a)) (fun w q hw _ => an.y q (an.y hw.1 (an.e (dgF.of hw.2))))⟩)
theorem ca_104 (B : AS N u H) (s : cC N u H h) {to : Int} (r0 : -2147483648 ≤ to ∧ to ≤ 2147483647) {a : Int} (r1 : -2147483648 ≤ a ∧ a ≤ 2147483647) {b : Int} (r2 : -2147483648 ≤ b ∧ b ≤ 2147483647) : mj_Ok 59 104 [.ref 1, .int (jn to), .int (jn a), .int (jn b)] h (fun r => yZ (Q_multiply N u H to a b) r.2 ∧ cA (fun k => if k = 0 then 1 else 2) (A_multiply N to a b) r) := ((cz_104 B s r0 r1 r2).and (mj_Ok.up (by decide) (pX_multiply (D := 0) (Nat.le_refl _) B s r0 r1 r2))).to (fun z hz => ⟨hz.1.yz, RO.ca _ hz.2 (fun q z => an.n q) (fun k q hk z => by
  obtain ⟨a, rfl⟩ := hk
  exact an.y q (an.n a)) (fun w q hw _ => an.y q (an.y hw.1 (an.e (dgF.of hw.2))))⟩)
theorem ca_106 (B : AS N u H) (s : cC N u H h) {to : Int} (r0 : -2147483648 ≤ to ∧ to ≤ 2147483647) {a : Int} (r1 : -2147483648 ≤ a ∧ a ≤ 2147483647) : mj_Ok 59 106 [.ref 1, .int (jn to), .int (jn a)] h (fun r => yZ (Q_derive N u H to a) r.2 ∧ cA (fun k => if k = 0 then 1 else 2) (A_derive N to a) r) := ((cz_106 B s r0 r1).and (mj_Ok.up (by decide) (pX_derive (D := 0) (Nat.le_refl _) B s r0 r1))).to (fun z hz => ⟨hz.1.yz, RO.ca _ hz.2 (fun q z => an.n q) (fun k q hk z => by
  obtain ⟨a, rfl⟩ := hk
  exact an.y q (an.n a)) (fun w q hw _ => an.y q (an.y hw.1 (an.e (dgF.of hw.2))))⟩)
theorem ca_107 (B : AS N u H) (s : cC N u H h) {to : Int} (r0 : -2147483648 ≤ to ∧ to ≤ 2147483647) {a : Int} (r1 : -2147483648 ≤ a ∧ a ≤ 2147483647) {b : Int} (r2 : -2147483648 ≤ b ∧ b ≤ 2147483647) : mj_Ok 59 107 [.ref 1, .int (jn to), .int (jn a), .int (jn b)] h (fun r => yZ (Q_substitute N u H to a b) r.2 ∧ cA (fun k => if k = 0 then 1 else 2) (A_substitute N to a b) r) := ((cz_107 B s r0 r1 r2).and (mj_Ok.up (by decide) (pX_substitute (D := 0) (Nat.le_refl _) B s r0 r1 r2))).to (fun z hz => ⟨hz.1.yz, RO.ca _ hz.2 (fun q z => an.n q) (fun k q hk z => by
  obtain ⟨a, rfl⟩ := hk
  exact an.y q (an.n a)) (fun w q hw _ => an.y q (an.y hw.1 (an.e (dgF.of hw.2))))⟩)
theorem ca_112 (B : AS N u H) (s : cC N u H h) {to : Int} (r0 : -2147483648 ≤ to ∧ to ≤ 2147483647) {a : Int} (r1 : -2147483648 ≤ a ∧ a ≤ 2147483647) {p : Int} (r2 : -2147483648 ≤ p ∧ p ≤ 2147483647) : mj_Ok 59 112 [.ref 1, .int (jn to), .int (jn a), .int (jn p)] h (fun r => yZ (Q_residue N u H to a p) r.2 ∧ cA (fun k => if k = 0 then 1 else 2) (A_residue N to a p) r) := ((cz_112 B s r0 r1 r2).and (mj_Ok.up (by decide) (pX_residue (D := 0) (Nat.le_refl _) B s r0 r1 r2))).to (fun z hz => ⟨hz.1.yz, RO.ca _ hz.2 (fun q z => an.n q) (fun k q hk z => by
  obtain ⟨a, rfl⟩ := hk
  exact an.y q (an.n a)) (fun w q hw _ => an.y q (an.y hw.1 (an.e (dgF.of hw.2))))⟩)
theorem ca_105 (B : AS N u H) (s : cC N u H h) {to : Int} (r0 : -2147483648 ≤ to ∧ to ≤ 2147483647) {a : Int} (r1 : -2147483648 ≤ a ∧ a ≤ 2147483647) {e : Int} (r2 : -2147483648 ≤ e ∧ e ≤ 2147483647) : mj_Ok 59 105 [.ref 1, .int (jn to), .int (jn a), .int (jn e)] h (fun r => yZ (Q_power N u H to a e) r.2 ∧ cA (fun k => if k = 0 then 1 else if k = 2 then 2 else 3) (A_power N to a e) r) := ((cz_105 B s r0 r1 r2).and (mj_Ok.up (by decide) (pY_power (D := 0) (Nat.le_refl _) B s r0 r1 r2))).to (fun z hz => ⟨hz.1.yz, RO.ca _ hz.2 (fun q z => an.n q) (fun k q hk z => by
  rcases hk with ⟨a, rfl⟩ | ⟨a, b, rfl⟩
  · exact an.y q (an.n a)
  · exact an.y q (an.y a (an.n b))) (fun w q hw _ => an.y q (an.y hw.1 (an.y hw.2.1 (an.e (dgF.of hw.2.2)))))⟩)
theorem ca_109 (B : AS N u H) (s : cC N u H h) {to : Int} (r0 : -2147483648 ≤ to ∧ to ≤ 2147483647) {a : Int} (r1 : -2147483648 ≤ a ∧ a ≤ 2147483647) {b : Int} (r2 : -2147483648 ≤ b ∧ b ≤ 2147483647) : mj_Ok 59 109 [.ref 1, .int (jn to), .int (jn a), .int (jn b)] h (fun r => yZ (Q_gcd N u H to a b) r.2 ∧ cA (fun k => if k = 0 then 1 else 2) (A_gcd N to a b) r) := ((cz_109 B s r0 r1 r2).and (mj_Ok.up (by decide) (pX_gcd (D := 0) (Nat.le_refl _) B s r0 r1 r2))).to (fun z hz => ⟨hz.1.yz, RO.ca _ hz.2 (fun q z => an.n q) (fun k q hk z => by
  obtain ⟨⟨R, a1, a2⟩, rfl⟩ := hk
  refine an.y q (an.n (fun y => ?_))
  obtain ⟨R2, b1, b2⟩ := y
  have e := gcR.one a1 b1
  subst e
  exact a2 b2) (fun w q hw _ => by
  obtain ⟨R, a1, a2⟩ := hw
  exact an.y q (an.y ⟨R, a1, a2.1⟩ (an.e ⟨R, a1, dgF.of a2.2⟩)))⟩)
theorem ca_110 (B : AS N u H) (s : cC N u H h) {to : Int} (r0 : -2147483648 ≤ to ∧ to ≤ 2147483647) {a : Int} (r1 : -2147483648 ≤ a ∧ a ≤ 2147483647) : mj_Ok 59 110 [.ref 1, .int (jn to), .int (jn a)] h (fun r => yZ (Q_primitive N u H to a) r.2 ∧ cA (fun k => 1) (A_primitive N to a) r) := ((cz_110 B s r0 r1).and (mj_Ok.up (by decide) (pX_primitive (D := 0) (Nat.le_refl _) B s r0 r1))).to (fun z hz => ⟨hz.1.yz, RO.ca _ hz.2 (fun q z => an.n q) (fun k q hk z => absurd hk.1 id) (fun w q hw sw => an.y q (an.y ⟨sml_cg hw sw, fun i hi => if_neg (by omega)⟩ (an.e (dgF.of hw))))⟩)
theorem ca_111 (B : AS N u H) (s : cC N u H h) {to : Int} (r0 : -2147483648 ≤ to ∧ to ≤ 2147483647) {a : Int} (r1 : -2147483648 ≤ a ∧ a ≤ 2147483647) : mj_Ok 59 111 [.ref 1, .int (jn to), .int (jn a)] h (fun r => yZ (Q_simple N u H to a) r.2 ∧ cA (fun k => if k = 0 then 1 else if k = 3 then 2 else 3) (A_simple N to a) r) := ((cz_111 B s r0 r1).and (mj_Ok.up (by decide) (pX_simple (D := 0) (Nat.le_refl _) B s r0 r1))).to (fun z hz => ⟨hz.1.yz, RO.ca _ hz.2 (fun q z => an.n q) (fun k q hk z => by
  rcases hk with ⟨a, rfl⟩ | ⟨a, ⟨R, a1, a2⟩, rfl⟩
  · exact an.y q (an.n (by omega))
  · refine an.y q (an.y a (an.n (fun y => ?_)))
    obtain ⟨R2, b1, b2⟩ := y
    have e := smR.one a1 b1
    subst e
    exact a2 b2) (fun w q hw _ => by
  obtain ⟨a, R, a1, a2⟩ := hw
  exact an.y q (an.y a (an.y ⟨R, a1, a2.1⟩ (an.e ⟨R, a1, dgF.of a2.2⟩))))⟩)
theorem ca_113 (B : AS N u H) (s : cC N u H h) {to : Int} (r0 : -2147483648 ≤ to ∧ to ≤ 2147483647) {e : Int} (r1 : -2147483648 ≤ e ∧ e ≤ 2147483647) {x : Int} (r2 : jR x) : mj_Ok 59 113 [.ref 1, .int (jn to), .int (jn e), .long (jl x)] h (fun r => yZ (Q_setTerm N u H to e x) r.2 ∧ cA (fun k => if k = 0 then 1 else if k = 2 then 2 else 3) (A_setTerm N to e x) r) := ((cz_113 B s r0 r1 r2).and (mj_Ok.up (by decide) (pX_setTerm (D := 0) (Nat.le_refl _) B s r0 r1 r2))).to (fun z hz => ⟨hz.1.yz, RO.ca _ hz.2 (fun q z => an.n q) (fun k q hk z => by
  rcases hk with ⟨a, rfl⟩ | ⟨a, b, rfl⟩
  · exact an.y q (an.n a)
  · exact an.y q (an.y a (an.n (by omega)))) (fun w q hw _ => an.y q (an.y hw.1.1 (an.y (by have := hw.1.2; omega) (an.e (dgF.of hw.2)))))⟩)
theorem ca_115 (B : AS N u H) (s : cC N u H h) {x : Int} (r0 : -2147483648 ≤ x ∧ x ≤ 2147483647) {y : Int} (r1 : -2147483648 ≤ y ∧ y ≤ 2147483647) : mj_Ok 59 115 [.ref 1, .int (jn x), .int (jn y)] h (fun r => yZ (Q_addPoint N u H x y) r.2 ∧ cA (fun k => if k = 2 then 1 else 2) (A_addPoint N x y) r) := ((cz_115 B s r0 r1).and (mj_Ok.up (by decide) (pX_addPoint (D := 0) (Nat.le_refl _) B s r0 r1))).to (fun z hz => ⟨hz.1.yz, by
  obtain ⟨_, hz⟩ := hz
  have h6 := B.1.2.1
  rcases hz with ⟨a, b, h9, _, rfl⟩ | ⟨k, h9, hk, _, rfl⟩
  · exact ⟨_, ⟨by omega, by omega⟩, rfl, an.y a (an.y ⟨by omega, fun j hj e => b (Or.inr ⟨j, hj, e⟩)⟩ (an.e rfl))⟩
  · intro z
    rcases hk with ⟨a, rfl⟩ | ⟨a, b, rfl⟩
    · exact an.n a
    · refine an.y a (an.n (fun q => ?_))
      rcases b with b | ⟨j, hj, e⟩
      · exact q.1 (by omega)
      · exact q.2 j hj e⟩)
theorem ca_108 (B : AS N u H) (s : cC N u H h) {x : Int} (r0 : -2147483648 ≤ x ∧ x ≤ 2147483647) {y : Int} (r1 : -2147483648 ≤ y ∧ y ≤ 2147483647) {v : Int} (r2 : -2147483648 ≤ v ∧ v ≤ 2147483647) {w : Int} (r3 : -2147483648 ≤ w ∧ w ≤ 2147483647) : mj_Ok 59 108 [.ref 1, .int (jn x), .int (jn y), .int (jn v), .int (jn w)] h (fun r => yZ (Q_divide N u H x y v w) r.2 ∧ cA (fun k => if k = 0 then 1 else if k = 2 then 2 else if k = 3 then 3 else 4) (A_divide N x y v w) r) := ((cz_108 B s r0 r1 r2 r3).and (mj_Ok.up (by decide) (pX_divide (D := 0) (Nat.le_refl _) B s r0 r1 r2 r3))).to (fun z hz => ⟨hz.1.yz, by
  obtain ⟨_, hz⟩ := hz
  rcases hz with ⟨a, b, c, d, e, q, r, h9, _, _, _, rfl⟩ | ⟨k, h9, hk, _, rfl⟩
  · have := fdg_le (rwN N v) 13
    exact ⟨_, ⟨by omega, by omega⟩, rfl, an.y a (an.y b (an.y c (an.y ⟨d, e⟩ (an.e rfl))))⟩
  · intro z
    rcases hk with ⟨a, rfl⟩ | ⟨a, ⟨b, rfl⟩ | ⟨b, c, rfl⟩ | ⟨b, c, d, rfl⟩⟩
    · exact an.n a
    · exact an.y a (an.n (fun q => q b))
    · exact an.y a (an.y b (an.n (by omega)))
    · exact an.y a (an.y b (an.y c (an.n d)))⟩)
theorem ca_114 {tm : Nat} {T : Nat → Int} (B : AS N u H) (s : cC N u H h) (hB0 : jBuf tm T h) (ht : tm ≤ 200) (hT : ∀ j : Nat, j < tm → 1 ≤ T j ∧ T j ≤ 255) {to : Int} (r0 : -2147483648 ≤ to ∧ to ≤ 2147483647) : mj_Ok 59 114 [.ref 1, .int (jn to)] h (fun r => yZ (Q_read N u H T tm to) r.2 ∧ cA (fun k => if k = 0 then 1 else if k = 2 then 2 else 3) (A_read T tm to) r) := ((cz_114 B s hB0 ht hT r0).and (mj_Ok.up (by decide) (pX_read (Nat.le_refl _) B s hB0 ht hT r0))).to (fun z hz => ⟨hz.1.yz, RO.ca _ hz.2 (fun q z => an.n q) (fun k q hk z => by
  rcases hk with ⟨a, rfl⟩ | ⟨a, b, rfl⟩
  · exact an.y q (an.n a)
  · refine an.y q (an.y a (an.n (fun y => ?_)))
    obtain ⟨P, y⟩ := y
    rw [b] at y
    cases y) (fun w q hw _ => by
  obtain ⟨a, P, a1, a2⟩ := hw
  exact an.y q (an.y a (an.y ⟨P, a1⟩ (an.e ⟨P, a1, dgF.of a2.2⟩))))⟩)
end ACL
section ARF
variable {h : mj_H} {u : Nat} {N : Nat → Int} {H : Nat → Nat → Int} {tm er : Int} {T : Nat → Int}
theorem rIc.za {c : Int} {F : Int → Prop} {N' : Nat → Int} {u' : Nat} {H' : Nat → Nat → Int} {r : mj_R} {P : SP} {A : Int → Int → Prop} (k : rIc c F N' u' H' tm er T r) (p : P N' u' H') (hA : ∀ z, F z → A c z) : rZa P A tm er T r := by
  obtain ⟨z, h', ⟨jz, hz⟩, rfl, I⟩ := k
  exact ⟨c, z, _, _, _, hA z hz, jz, rfl, p, I⟩
theorem rZa.mono {P P' : SP} {A : Int → Int → Prop} {r : mj_R} (k : rZa P A tm er T r) (hp : ∀ N u H, P N u H → P' N u H) : rZa P' A tm er T r := by
  obtain ⟨c, z, N', u', H', a, b, d, e, f⟩ := k
  exact ⟨c, z, N', u', H', a, b, d, hp _ _ _ e, f⟩
theorem RRc.za {reg : Prop} {R : Nat → Int} {to : Int} {r : mj_R} (k : RRc tm er T N u H reg (fun w => ∀ j, j < 13 → w j = R j) to r) : rZa (clQ (reg ∧ sml R) R to.toNat N u H) (an [(reg, 1), (sml R, 2)] (dgF R)) tm er T r := by
  rcases k with ⟨a, w, hw, ⟨s, k⟩ | ⟨s, k⟩⟩ | ⟨a, k⟩
  · exact k.za (Or.inl ⟨⟨a, sml_cg hw s⟩, w, hw, rfl, rfl, rfl⟩) (fun z hz => an.y a (an.y (sml_cg hw s) (an.e (Eq.trans hz (dgF.of hw)))))
  · exact k.za (Or.inr ⟨fun q => s (sml_cg (fun j hj => (hw j hj).symm) q.2), rfl, rfl, rfl⟩) (fun z _ => an.y a (an.n (fun q => s (sml_cg (fun j hj => (hw j hj).symm) q))))
  · exact k.za (Or.inr ⟨fun q => a q.1, rfl, rfl, rfl⟩) (fun z _ => an.n a)
theorem RPc.za {kk : Int} {cf : Int → Prop} {reg : Prop} {R : Nat → Int} {to : Int} {r : mj_R} {A : Int → Int → Prop} (k : RPc kk cf tm er T N u H reg R to r) (h1 : ∀ c, ¬ reg → cf c → ∀ z, A c z) (h2 : reg → ¬ fit13 R → ∀ z, A kk z) (h3 : ∀ z, reg → fit13 R → dgF R z → A 0 z) : rZa (clQ (reg ∧ fit13 R) R to.toNat N u H) A tm er T r := by
  rcases k with ⟨a, ⟨s, w, hw, k⟩ | ⟨s, k⟩⟩ | ⟨a, c, hc, k⟩
  · exact k.za (Or.inl ⟨⟨a, s⟩, w, hw, rfl, rfl, rfl⟩) (fun z hz => h3 z a s (Eq.trans hz (dgF.of hw)))
  · exact k.za (Or.inr ⟨fun q => s q.2, rfl, rfl, rfl⟩) (fun z _ => h2 a s z)
  · exact k.za (Or.inr ⟨fun q => a q.1, rfl, rfl, rfl⟩) (fun z _ => h1 c a hc z)
theorem ga_add {x : Int} (jx : jr x) {y : Int} (jy : jr y) {z : Int} (jz : jr z) (I : jIx N u H tm er T h) : mj_Ok 60 230 [.ref 0, .int (jn x), .int (jn y), .int (jn z)] h (rZa (Q_sum N u H 1 x y z) (A_sum N 1 x y z) tm er T) := (mj_Ok.up (by decide) (ra_add jx jy jz I)).to (fun r k => RRc.za k)
theorem ga_subtract {x : Int} (jx : jr x) {y : Int} (jy : jr y) {z : Int} (jz : jr z) (I : jIx N u H tm er T h) : mj_Ok 60 231 [.ref 0, .int (jn x), .int (jn y), .int (jn z)] h (rZa (Q_sum N u H (-1) x y z) (A_sum N (-1) x y z) tm er T) := (mj_Ok.up (by decide) (ra_subtract jx jy jz I)).to (fun r k => RRc.za k)
theorem ga_derive {x : Int} (jx : jr x) {y : Int} (jy : jr y) (I : jIx N u H tm er T h) : mj_Ok 60 235 [.ref 0, .int (jn x), .int (jn y)] h (rZa (Q_derive N u H x y) (A_derive N x y) tm er T) := (mj_Ok.up (by decide) (ra_derive jx jy I)).to (fun r k => RRc.za k)
theorem ga_multiply {x : Int} (jx : jr x) {y : Int} (jy : jr y) {z : Int} (jz : jr z) (I : jIx N u H tm er T h) : mj_Ok 60 233 [.ref 0, .int (jn x), .int (jn y), .int (jn z)] h (rZa (Q_multiply N u H x y z) (A_multiply N x y z) tm er T) := (mj_Ok.up (by decide) (ra_multiply jx jy jz I)).to (fun r k => RPc.za k (fun c a hc z => by
  subst hc
  exact an.n a) (fun a b z => an.y a (an.n b)) (fun z a b q => an.y a (an.y b (an.e q))))
theorem ga_substitute {x : Int} (jx : jr x) {y : Int} (jy : jr y) {z : Int} (jz : jr z) (I : jIx N u H tm er T h) : mj_Ok 60 236 [.ref 0, .int (jn x), .int (jn y), .int (jn z)] h (rZa (Q_substitute N u H x y z) (A_substitute N x y z) tm er T) := (mj_Ok.up (by decide) (ra_substitute jx jy jz I)).to (fun r k => RPc.za k (fun c a hc z => by
  subst hc
  exact an.n a) (fun a b z => an.y a (an.n b)) (fun z a b q => an.y a (an.y b (an.e q))))
theorem ga_primitive {x : Int} (jx : jr x) {y : Int} (jy : jr y) (I : jIx N u H tm er T h) : mj_Ok 60 239 [.ref 0, .int (jn x), .int (jn y)] h (rZa (Q_primitive N u H x y) (A_primitive N x y) tm er T) := (mj_Ok.up (by decide) (ra_primitive jx jy I)).to (fun r k => RPc.za k (fun c a hc z => by
  subst hc
  exact an.n a) (fun a b z => an.y a (an.n b)) (fun z a b q => an.y a (an.y b (an.e q))))
theorem ga_power {x : Int} (jx : jr x) {y : Int} (jy : jr y) {z : Int} (jz : jr z) (I : jIx N u H tm er T h) : mj_Ok 60 234 [.ref 0, .int (jn x), .int (jn y), .int (jn z)] h (rZa (Q_power N u H x y z) (A_power N x y z) tm er T) := (mj_Ok.up (by decide) (ra_power jx jy jz I)).to (fun r k => RPc.za k (fun c a hc v => by
  rcases hc with ⟨b, rfl⟩ | ⟨b, d, rfl⟩
  · exact an.n b
  · exact an.y b (an.n d)) (fun a b v => an.y a.1 (an.y a.2 (an.n b))) (fun v a b q => an.y a.1 (an.y a.2 (an.y b (an.e q)))))
theorem ga_gcd {x : Int} (jx : jr x) {y : Int} (jy : jr y) {z : Int} (jz : jr z) (I : jIx N u H tm er T h) : mj_Ok 60 238 [.ref 0, .int (jn x), .int (jn y), .int (jn z)] h (rZa (Q_gcd N u H x y z) (A_gcd N x y z) tm er T) := (mj_Ok.up (by decide) (ra_gcd jx jy jz I)).to (fun r k => by
  obtain ⟨R, a, k⟩ := k
  exact (RPc.za k (fun c b hc v => by
    subst hc
    exact an.n b) (fun b d v => an.y b (an.n (fun q => by
    obtain ⟨R2, q1, q2⟩ := q
    have e := gcR.one (a b) q1
    subst e
    exact d q2))) (fun v b d q => an.y b (an.y ⟨R, a b, d⟩ (an.e ⟨R, a b, q⟩)))).mono (fun _ _ _ p => ⟨R, a, p⟩))
theorem ga_simple {x : Int} (jx : jr x) {y : Int} (jy : jr y) (I : jIx N u H tm er T h) : mj_Ok 60 240 [.ref 0, .int (jn x), .int (jn y)] h (rZa (Q_simple N u H x y) (A_simple N x y) tm er T) := (mj_Ok.up (by decide) (ra_simple jx jy I)).to (fun r k => by
  obtain ⟨R, a, k⟩ := k
  exact (RPc.za k (fun c b hc v => by
    rcases hc with ⟨b, rfl⟩ | ⟨b, d, rfl⟩
    · exact an.n b
    · exact an.y b (an.n (by omega))) (fun b d v => an.y b.1 (an.y b.2 (an.n (fun q => by
    obtain ⟨R2, q1, q2⟩ := q
    have e := smR.one (a b.1 b.2) q1
    subst e
    exact d q2)))) (fun v b d q => an.y b.1 (an.y b.2 (an.y ⟨R, a b.1 b.2, d⟩ (an.e ⟨R, a b.1 b.2, q⟩))))).mono (fun _ _ _ p => ⟨R, fun q => a q.1 q.2, p⟩))
theorem ga_residue {x : Int} (jx : jr x) {y : Int} (jy : jr y) {z : Int} (jz : jr z) (I : jIx N u H tm er T h) : mj_Ok 60 243 [.ref 0, .int (jn x), .int (jn y), .int (jn z)] h (rZa (Q_residue N u H x y z) (A_residue N x y z) tm er T) := (mj_Ok.up (by decide) (ra_residue jx jy jz I)).to (fun r k => by
  rcases k with ⟨a, d⟩ | ⟨a, c, hc, d⟩
  · exact d.za (Or.inl ⟨a, _, fun _ _ => rfl, rfl, rfl, rfl⟩) (fun v hv => an.y a.1 (an.y a.2 (an.e hv)))
  · refine d.za (Or.inr ⟨a, rfl, rfl, rfl⟩) (fun v _ => ?_)
    rcases hc with ⟨b, rfl⟩ | ⟨b, e, rfl⟩
    · exact an.n b
    · exact an.y b (an.n e))
theorem ga_setTerm {x : Int} (jx : jr x) {y : Int} (jy : jr y) {z : Int} (jz : jR z) (I : jIx N u H tm er T h) : mj_Ok 60 244 [.ref 0, .int (jn x), .int (jn y), .long (jl z)] h (rZa (Q_setTerm N u H x y z) (A_setTerm N x y z) tm er T) := (mj_Ok.up (by decide) (ra_setTerm jx jy jz I)).to (fun r k => by
  rcases k with ⟨a, d⟩ | ⟨a, c, hc, d⟩
  · exact d.za (Or.inl ⟨a, eqB.rf _, rfl, rfl⟩) (fun v hv => an.y a.1 (an.y a.2.1 (an.y a.2.2 (an.e hv))))
  · refine d.za (Or.inr ⟨a, rfl, rfl, rfl⟩) (fun v _ => ?_)
    rcases hc with ⟨b, rfl⟩ | ⟨b, e, rfl⟩ | ⟨b, e, f, rfl⟩
    · exact an.n b
    · exact an.y b (an.n e)
    · exact an.y b (an.y e (an.n f)))
theorem ga_addPoint {x : Int} (jx : jr x) {y : Int} (jy : jr y) (I : jIx N u H tm er T h) : mj_Ok 60 246 [.ref 0, .int (jn x), .int (jn y)] h (rZa (Q_addPoint N u H x y) (A_addPoint N x y) tm er T) := (mj_Ok.up (by decide) (ra_addPoint jx jy I)).to (fun r k => by
  rcases k with ⟨a, d⟩ | ⟨a, c, hc, d⟩
  · exact d.za (Or.inl ⟨a, eqB.rf _, rfl, rfl⟩) (fun v hv => an.y a.1 (an.y a.2 (an.e hv)))
  · refine d.za (Or.inr ⟨a, rfl, rfl, rfl⟩) (fun v _ => ?_)
    rcases hc with ⟨b, rfl⟩ | ⟨b, rfl⟩
    · exact an.n b
    · exact an.y b (an.n (fun q => a ⟨b, q⟩)))
theorem ga_divide {x : Int} (jx : jr x) {y : Int} (jy : jr y) {z : Int} (jz : jr z) {w : Int} (jw : jr w) (I : jIx N u H tm er T h) : mj_Ok 60 237 [.ref 0, .int (jn x), .int (jn y), .int (jn z), .int (jn w)] h (rZa (Q_divide N u H x y z w) (A_divide N x y z w) tm er T) := (mj_Ok.up (by decide) (ra_divide jx jy jz jw I)).to (fun r k => by
  rcases k with ⟨a, q, v, b, c, d⟩ | ⟨a, c, hc, d⟩
  · exact d.za (Or.inl ⟨a, q, v, b, c, rfl, rfl, rfl⟩) (fun v hv => an.y a.1 (an.y a.2.1 (an.y a.2.2.1 (an.y a.2.2.2 (an.e hv)))))
  · refine d.za (Or.inr ⟨a, rfl, rfl, rfl⟩) (fun v _ => ?_)
    rcases hc with ⟨b, rfl⟩ | ⟨b, e, rfl⟩ | ⟨b, e, f, rfl⟩ | ⟨b, e, f, i, rfl⟩
    · exact an.n b
    · exact an.y b (an.n (fun q => q e))
    · exact an.y b (an.y e (an.n (by omega)))
    · exact an.y b (an.y e (an.y f (an.n i))))
theorem ga_read {tm0 : Nat} {x : Int} (jx : jr x) (I : jIx N u H (tm0 : Int) er T h) : mj_Ok 60 245 [.ref 0, .int (jn x)] h (fun r => ((0 ≤ x ∧ x ≤ 5) ∧ rZa (Q_read N u H T tm0 x) (A_read T tm0 x) 0 (rdErr T tm0) T r) ∨ (¬ (0 ≤ x ∧ x ≤ 5) ∧ rZa (Q_read N u H T tm0 x) (A_read T tm0 x) tm0 er T r)) := (ra_read jx I).to (fun r k => by
  rcases k with ⟨a, ⟨b, P, c, d, w, e, k⟩ | ⟨b, cc, hc, k⟩⟩ | ⟨a, k⟩
  · rw [← b] at k
    refine Or.inl ⟨a, k.za (Or.inl ⟨⟨a, b, P, c, d⟩, w, ?_, rfl, rfl, rfl⟩) (fun z hz => an.y a (an.y b (an.y ⟨P, c⟩ (an.e ⟨P, c, Eq.trans hz (dgF.of e)⟩))))⟩
    rw [c]
    exact e
  · refine Or.inl ⟨a, k.za (Or.inr ⟨fun q => ?_, rfl, rfl, rfl⟩) (fun z _ => ?_)⟩
    · obtain ⟨_, q1, P, q2, _⟩ := q
      rcases b with b | b
      · exact b q1
      · rw [b] at q2
        cases q2
    · rcases hc with ⟨p, rfl⟩ | ⟨p, q, rfl⟩
      · exact an.y a (an.n p)
      · refine an.y a (an.y p (an.n (fun y => ?_)))
        obtain ⟨P, y⟩ := y
        rw [q] at y
        cases y
  · exact Or.inr ⟨a, k.za (Or.inr ⟨fun q => a q.1, rfl, rfl, rfl⟩) (fun z _ => an.n a)⟩)
end ARF
/-! interpolate's answer, a long; read's. -/
def cAl (cd : Nat → Int) (A : Int → Int → Prop) (r : mj_R) : Prop := match r.1 with
  | .inl v => ∃ z : Int, v = some (.long (jl z)) ∧ A 0 z
  | .inr k => ∀ z, A (cd k) z
def oAl (A : Int → Int → Prop) (Φ : SP) (r : mj_R) : Prop := ∃ c z : Int, A c z ∧ jr c ∧ r.1 = .inl (some (.int (jn c))) ∧ (c = 0 → ∃ f : Nat → Value, r.2[571]? = some (.inl (1, 1, f)) ∧ f 0 = .long (jl z)) ∧ yZ Φ r.2
def rZal (P : SP) (A : Int → Int → Prop) (tm er : Int) (T : Nat → Int) (r : mj_R) : Prop := ∃ (c z : Int) (N' : Nat → Int) (u' : Nat) (H' : Nat → Nat → Int), A c z ∧ jR z ∧ r.1 = .inl (some (.long (jl z))) ∧ P N' u' H' ∧ jItx N' u' H' c tm er T r.2
def rJc (c : Int) (F : Int → Prop) (N0 : Nat → Int) (u : Nat) (H : Nat → Nat → Int) (tm er : Int) (T : Nat → Int) (r : mj_R) : Prop := ∃ (z : Int) (h' : mj_H), (jR z ∧ F z) ∧ r = (.inl (some (.long (jl z))), h') ∧ jItx N0 u H c tm er T h'
def RItc (tm er : Int) (T : Nat → Int) (N0 : Nat → Int) (u0 : Nat) (H : Nat → Nat → Int) (x : Int) (r : mj_R) : Prop := ((0 ≤ x ∧ x ≤ 5) ∧ ∃ (w : Nat → Int) (D : Int), itR N0 w D ∧ ((sml w ∧ rJc 0 (fun v => v = D) (jfl N0 x.toNat w 13) (upu u0) (pushH N0 H) tm er T r) ∨ (¬ sml w ∧ rJc 2 (fun _ => True) N0 u0 H tm er T r))) ∨ (¬ (0 ≤ x ∧ x ≤ 5) ∧ rJc 1 (fun _ => True) N0 u0 H tm er T r)
abbrev A_interpolate (N : Nat → Int) (to : Int) : Int → Int → Prop := an [(0 ≤ to ∧ to ≤ 5, 1), (∃ (w : Nat → Int) (D : Int), itR N w D ∧ sml w, 2)] (fun v => ∃ w : Nat → Int, itR N w v)
theorem A_interpolate.ag {N : Nat → Int} (g : gN N) {to c1 z1 c2 z2 : Int} (p : A_interpolate N to c1 z1) (q : A_interpolate N to c2 z2) : c1 = c2 ∧ (c1 = 0 → z1 = z2) := an.ag (fun z1 z2 a b => by
  obtain ⟨w1, a1⟩ := a
  obtain ⟨w2, b1⟩ := b
  exact itR.oneD g a1 b1) (by simp) p q
section YXL
variable {hr h : mj_H} {tm er c : Int} {T : Nat → Int}
theorem YX.callal {D j : Nat} {as as2 : List Value} {tm' er' : Int} {T' : Nat → Int} {Φ Ψ : SP} {A : Int → Int → Prop} (E : jEm 563 hr h) (hl : 571 < h.length) (y : yZ Φ h) (ag : AgP Φ Ψ) (c : mj_Ok D j as hr (rZal Ψ A tm' er' T')) (has : ∀ N, as.map (mj_rn (jro 563 N)) = as2) : mj_Ok D j as2 h (fun r => ∃ c z : Int, A c z ∧ jR z ∧ r.1 = .inl (some (.long (jl z))) ∧ YXt c tm' er' T' r.2 ∧ r.2[571]? = h[571]?) := by
  have hL := E.2.2.1
  have := E.run c (fun r q h3 => by
    obtain ⟨_, _, N', u', H', _, _, _, _, k⟩ := q
    exact jI_s8 k.to.tI h3)
  rw [has] at this
  refine this.to (fun r hq => ?_)
  obtain ⟨r0, hr', ⟨c, z, N2, u2, H2, a, jz, v0, p2, k⟩, v1, d, _, f⟩ := hq
  obtain ⟨N1, u1, H1, p1, s1⟩ := y
  have s2 : cC N1 u1 H1 r.2 := s1.fr (fun a ha => by
    have l : a < 563 := by
      rcases Nat.lt_or_ge a 563 with c | c
      · exact c
      · exact absurd (cK_out c) ha
    exact f a (by omega) (Or.inl l))
  have v0 : r0 = .inl (some (.long (jl z))) := v0
  refine ⟨c, z, a, jz, ?_, ⟨N2, u2, H2, hr', s2.cg (ag _ _ _ _ _ _ p1 p2), d, k⟩, f 571 hl (Or.inr (by decide))⟩
  rw [v1, v0]
  first
  | rfl
  | done
end YXL
section JZQ
variable {n : Nat} {tm : Int} {h : mj_H} {Φ : SP} {A : Int → Int → Prop}
theorem jz_324 {p1 : Int} (w : jLw cK cL cR 571 n tm h) (rp1 : -2147483648 ≤ p1 ∧ p1 ≤ 2147483647) (c : mj_Ok 59 117 [.ref 1, .int (jn p1)] h (fun r => yZ Φ r.2 ∧ cAl (fun k => if k = 0 then 1 else 2) A r)) : mj_Ok 60 324 [.ref 1, .int (jn p1), .ref 571] h (oAl A Φ) := by
  have hg : h.length ≤ n := Nat.le_of_eq w.1.1
  refine mj_Ok.of (M := mj_m324) (loc := [some (.ref 1), some (.int (jn p1)), some (.ref 571), none]) rfl rfl rfl ?_
  iterate 4 refine mj_T.pl rfl rfl rfl rfl ?_
  refine mj_T.call rfl rfl (Nat.le_of_ble_eq_true rfl) (Nat.le_of_ble_eq_true rfl) (jrv_of w.1 cK4.1 (by decide) rfl (by decide) rfl _) rfl ((mj_Ok.up (by decide) (jc_117 (D := 0) cTY hg w.1 cK4.1 rp1)).and c) (fun v h1 hq => ?_) (fun i h1 hq => ?_)
  · obtain ⟨⟨_, o1⟩, y1, z, rfl, az⟩ := hq
    obtain ⟨_, _, f, hf⟩ := w.thr o1
    refine jcx.lastv hf rfl (fun e ce => ?_)
    iterate 2 refine mj_T.pl rfl rfl rfl rfl ?_
    exact mj_T.ret rfl rfl rfl ⟨0, z, az, ⟨by decide, by decide⟩, rfl, fun _ => ce, yZ.set y1⟩
  · obtain ⟨⟨hi, o1⟩, y1, y2⟩ := hq
    simp only [List.mem_cons, List.not_mem_nil, or_false] at hi
    rcases hi with hi | hi
    · subst hi
      refine Or.inr ⟨3, 12, rfl, (Nat.le_of_ble_eq_true rfl), ?_⟩
      refine mj_T.pl rfl rfl rfl rfl ?_
      exact mj_T.ret rfl rfl rfl ⟨1, 0, y2 0, ⟨by decide, by decide⟩, rfl, fun q => absurd q (by decide), y1⟩
    · subst hi
      refine Or.inr ⟨3, 15, rfl, (Nat.le_of_ble_eq_true rfl), ?_⟩
      refine mj_T.pl rfl rfl rfl rfl ?_
      exact mj_T.ret rfl rfl rfl ⟨2, 0, y2 0, ⟨by decide, by decide⟩, rfl, fun q => absurd q (by decide), y1⟩
theorem jz_322 {p1 : Int} (w : jLw cK cL cR 571 n tm h) (rp1 : -2147483648 ≤ p1 ∧ p1 ≤ 2147483647) (c : mj_Ok 60 114 [.ref 1, .int (jn p1)] h (fun r => yZ Φ r.2 ∧ cA (fun k => if k = 0 then 1 else if k = 2 then 2 else 3) A r)) : mj_Ok 61 322 [.ref 1, .int (jn p1), .ref 571] h (oA A Φ) := by
  have hg : h.length ≤ n := Nat.le_of_eq w.1.1
  refine mj_Ok.of (M := mj_m322) (loc := [some (.ref 1), some (.int (jn p1)), some (.ref 571), none]) rfl rfl rfl ?_
  iterate 4 refine mj_T.pl rfl rfl rfl rfl ?_
  refine mj_T.call rfl rfl (Nat.le_of_ble_eq_true rfl) (Nat.le_of_ble_eq_true rfl) (jrv_of w.1 cK4.1 (by decide) rfl (by decide) rfl _) rfl ((mj_Ok.up (by decide) (jc_114 (D := 0) cTY hg w.1 cK4.1 rp1)).and c) (fun v h1 hq => ?_) (fun i h1 hq => ?_)
  · obtain ⟨hq, x1, zv, jzv, rfl, az⟩ := hq
    rcases hq with ⟨_, hv, _⟩ | ⟨hp, ⟨z, hv, o1⟩ | ⟨_, _, hv, _⟩⟩
    · cases hv
    · obtain ⟨_, _, f, hf⟩ := w.thr o1
      refine mj_T.i2l rfl jzv ?_
      refine jcx.lastv hf rfl (fun e ce => ?_)
      iterate 2 refine mj_T.pl rfl rfl rfl rfl ?_
      exact mj_T.ret rfl rfl rfl ⟨0, zv, az, ⟨by decide, by decide⟩, rfl, fun _ => ⟨⟨by have := jzv.1; omega, by have := jzv.2; omega⟩, ce⟩, yZ.set x1⟩
    · cases hv
  · obtain ⟨hq, x1, y2⟩ := hq
    have hi : i ∈ [0, 2, 1] := by
      rcases hq with ⟨_, hv, _⟩ | ⟨_, ⟨_, hv, _⟩ | ⟨_, hi, hv, _⟩⟩
      · cases hv
        exact List.mem_cons_self
      · cases hv
      · cases hv
        exact hi
    simp only [List.mem_cons, List.not_mem_nil, or_false] at hi
    rcases hi with hi | hi | hi
    · subst hi
      refine Or.inr ⟨3, 13, rfl, (Nat.le_of_ble_eq_true rfl), ?_⟩
      refine mj_T.pl rfl rfl rfl rfl ?_
      exact mj_T.ret rfl rfl rfl ⟨1, 0, y2 0, ⟨by decide, by decide⟩, rfl, fun q => absurd q (by decide), x1⟩
    · subst hi
      refine Or.inr ⟨3, 16, rfl, (Nat.le_of_ble_eq_true rfl), ?_⟩
      refine mj_T.pl rfl rfl rfl rfl ?_
      exact mj_T.ret rfl rfl rfl ⟨2, 0, y2 0, ⟨by decide, by decide⟩, rfl, fun q => absurd q (by decide), x1⟩
    · subst hi
      refine Or.inr ⟨3, 19, rfl, (Nat.le_of_ble_eq_true rfl), ?_⟩
      refine mj_T.pl rfl rfl rfl rfl ?_
      exact mj_T.ret rfl rfl rfl ⟨3, 0, y2 0, ⟨by decide, by decide⟩, rfl, fun q => absurd q (by decide), x1⟩
end JZQ
section RXJ
variable {h : mj_H} {tm er : Int} {T : Nat → Int} {N0 : Nat → Int} {u0 : Nat} {H : Nat → Nat → Int}
theorem ra_i4_loop {S N B X : Nat → Int} {x A : Nat} {l5 : Option Value} {c : Int} {I : Nat → Int} (hc0 : c ≠ 0) {Q : mj_R → Prop} (hend : ∀ (V : Nat → Int) (h : mj_H), rS S N B T X V h → V 662 = c → V 661 = (A : Int) → (∀ e, e < 13 → V (0 * 13 + e) = (I e).tdiv c) → mj_T 39 mj_m251 274 [some (.ref 0), some (.int (jn (x : Int))), some (.long (jl (A : Int))), none, some (.int (jn (-1))), l5, none] [] h Q) :
    ∀ (m : Nat) (V : Nat → Int) (h : mj_H), m ≤ 13 → rS S N B T X V h → V 662 = c → V 661 = (A : Int) → (∀ e, e < m → V (0 * 13 + e) = I e) → (∀ e, m ≤ e → e < 13 → V (0 * 13 + e) = (I e).tdiv c) → mj_T 39 mj_m251 250 [some (.ref 0), some (.int (jn (x : Int))), some (.long (jl (A : Int))), none, some (.int (jn ((m : Int) - 1))), l5, none] [] h Q := by
  intro m
  induction m with
  | zero =>
    intro V h hm hs hc ha l1 l2
    refine mj_T.pl rfl rfl rfl rfl ?_
    refine mj_T.if0 (a := ((0 : Nat) : Int) - 1) rfl ⟨by decide, by decide⟩ (fun hc => ?_) (fun hc => ?_)
    · exact hend V h hs (by assumption) ha (fun e he => l2 e (Nat.zero_le _) he)
    · simp [jc] at hc
  | succ m ih =>
    intro V h hm hs hc ha l1 l2
    refine mj_T.pl rfl rfl rfl rfl ?_
    refine mj_T.if0 (a := ((m + 1 : Nat) : Int) - 1) rfl ⟨by omega, by omega⟩ (fun hc2 => ?_) (fun hc2 => ?_)
    · simp only [jc, decide_eq_true_eq] at hc2
      omega
    rw [show ((m + 1 : Nat) : Int) - 1 = (m : Int) by omega]
    iterate 3 refine mj_T.pl rfl rfl rfl rfl ?_
    refine mj_T.call (ins := .invokestatic 104) rfl rfl (Nat.le_of_ble_eq_true rfl) (Nat.le_of_ble_eq_true rfl) rfl rfl (mj_Ok.up (by decide) (jq_slot (D := 0) (p := 0) (i := m))) (fun v' h' hq' => ?_) (fun i h' hq' => by cases hq')
    cases hq'
    refine mj_T.pl rfl rfl rfl rfl ?_
    refine mj_T.call (ins := .invokevirtual 133) rfl rfl (Nat.le_of_ble_eq_true rfl) (Nat.le_of_ble_eq_true rfl) (by simp [mj_recv, rS_f hs]) rfl (mj_Ok.up (by decide) (jp_exact (D := 0) (V := V) (rG S N B T X) (i := 0 * 13 + m) (j := 662) (by omega) (by decide) (by omega) (by omega) (by omega) (by decide) (by rw [hc]; exact hc0) hs)) (fun v' g1 hq' => ?_) (fun i h' hq' => by obtain ⟨_, _, _, _, _, h⟩ := hq'; cases h)
    obtain ⟨W1, _, hs1, z1, z2, hq'⟩ := hq'
    cases hq'
    refine mj_T.iinc (a := (m : Int)) rfl rfl ?_
    refine mj_T.pl rfl rfl rfl rfl ?_
    exact ih W1 g1 (by omega) hs1 (by rw [z2 662 (by omega) (by decide) (by decide), hc]) (by rw [z2 661 (by omega) (by decide) (by decide), ha]) (fun e he => by
      rw [z2 _ (by omega) (by omega) (by omega)]
      exact l1 e (by omega)) (fun e e1 e2 => by
      by_cases q : e = m
      · subst q
        rw [z1, l1 e (by omega), hc]
      · rw [z2 _ (by omega) (by omega) (by omega)]
        exact l2 e (by omega) e2)
theorem ra_interpolate {x : Int} (hx : jr x) (hI : jIx N0 u0 H tm er T h) : mj_Ok 40 251 [.ref 0, .int (jn x)] h (RItc tm er T N0 u0 H x) := by
  refine mj_Ok.of (M := mj_m251) rfl rfl rfl ?_
  obtain ⟨S, N, B, X, V, hs, K⟩ := hI
  iterate 2 refine mj_T.pl rfl rfl rfl rfl ?_
  refine rT_put (v := 0) hs rfl rfl (by decide) rfl (fun g1 hs1 => ?_)
  have K1 := K.put (k := 3) (v := 0) ⟨by decide, by decide⟩ (by decide) (by decide) (by decide) (by decide) (by decide)
  have e1 : jvu S 3 0 3 = 0 := jvu_at S 3 0
  generalize jvu S 3 0 = S1 at hs1 K1 e1
  refine mj_T.pl rfl rfl rfl rfl ?_
  refine mj_T.call (ins := .invokestatic 181) rfl rfl (Nat.le_of_ble_eq_true rfl) (Nat.le_of_ble_eq_true rfl) rfl rfl (mj_Ok.up (by decide) (rp_isRegister (D := 0) hx)) (fun v' h' hq' => ?_) (fun i h' hq' => by rcases hq' with ⟨_, _, h⟩ | ⟨_, h⟩ <;> cases h)
  rcases hq' with ⟨x1, x2, hq'⟩ | ⟨hno, hq'⟩
  case' inr =>
    cases hq'
    refine mj_T.if0 (a := 0) rfl ⟨by decide, by decide⟩ (fun hc => ?_) (fun hc => ?_)
    · simp [jc] at hc
    iterate 2 refine mj_T.pl rfl rfl rfl rfl ?_
    refine mj_T.call (ins := .invokevirtual 198) rfl rfl (Nat.le_of_ble_eq_true rfl) (Nat.le_of_ble_eq_true rfl) (by simp [mj_recv, rS_f hs1]) rfl (mj_Ok.up (by decide) (rp_fails (D := 0) (c := 1) hs1)) (fun v' g2 hq' => ?_) (fun i h' hq' => by obtain ⟨_, _, h⟩ := hq'; cases h)
    obtain ⟨_, hs2, hq'⟩ := hq'
    cases hq'
    refine mj_T.i2l rfl ⟨by decide, by decide⟩ ?_
    exact mj_T.ret rfl rfl rfl (Or.inr ⟨by omega, 0, g2, ⟨⟨by decide, by decide⟩, trivial⟩, rfl, ⟨_, N, B, X, V, hs2, K1.put ⟨by decide, by decide⟩ (by decide) (by decide) (by decide) (by decide) (by decide), jvu_at _ _ _⟩⟩)
  cases hq'
  refine mj_T.if0 (a := 1) rfl ⟨by decide, by decide⟩ (fun hc => ?_) (fun hc => ?_)
  rotate_left
  · simp [jc] at hc
  obtain ⟨x, rfl⟩ := Int.eq_ofNat_of_zero_le x1
  obtain ⟨n, hn⟩ := Int.eq_ofNat_of_zero_le K1.1.1.2.1.1
  iterate 4 refine mj_T.pl rfl rfl rfl rfl ?_
  refine rx_i1_loop K1.1.1 hn hs1 (fun A l5 hA1 hA2 hA3 => ?_) n 0 1 none (by omega) ⟨_, (Nat.one_mul _).symm⟩ (Nat.le_refl _) (fun i hi => absurd hi (by omega))
  iterate 2 refine mj_T.pl rfl rfl rfl rfl ?_
  refine mj_T.call (ins := .invokevirtual 110) rfl rfl (Nat.le_of_ble_eq_true rfl) (Nat.le_of_ble_eq_true rfl) (by simp [mj_recv, rS_f hs1]) rfl (mj_Ok.up (by decide) (jp_empties (D := 0) (rG S1 N B T X) (p := 0) (by decide) hs1)) (fun v' g3 hq' => ?_) (fun i h' hq' => by obtain ⟨_, _, h⟩ := hq'; cases h)
  obtain ⟨_, hs3, hq'⟩ := hq'
  cases hq'
  have q1 : ∀ e, e < 13 → jfl V 0 (fun _ => 0) 13 (0 * 13 + e) = 0 := fun e he => jfl_at _ _ _ he
  generalize jfl V 0 (fun _ => 0) 13 = W3 at hs3 q1
  iterate 2 refine mj_T.pl rfl rfl rfl rfl ?_
  refine rx_i3_loop K1.1.1 hn (fun V2 h2 m5 hs2 hIt => ?_) hA2 hA1 n 0 _ _ _ (by omega) hs3 (fun e he => by rw [q1 e he]; exact Nat.zero_le _) (fun e he => q1 e he)
  iterate 3 refine mj_T.pl rfl rfl rfl rfl ?_
  refine mj_T.call (ins := .invokevirtual 130) rfl rfl (Nat.le_of_ble_eq_true rfl) (Nat.le_of_ble_eq_true rfl) (by simp [mj_recv, rS_f hs2]) rfl (mj_Ok.up (by decide) (jp_contents (D := 0) (rG S1 N B T X) (to := 656) (p := 0) (by decide) (by decide) (by decide) (by decide) (by decide) (by decide) (by decide) hs2)) (fun v' g4 hq' => ?_) (fun i h' hq' => by obtain ⟨_, _, _, _, _, h⟩ := hq'; cases h)
  obtain ⟨W4, _, hs4, p1, p2, hq'⟩ := hq'
  cases hq'
  iterate 3 refine mj_T.pl rfl rfl rfl rfl ?_
  refine mj_T.call (ins := .invokevirtual 45) rfl rfl (Nat.le_of_ble_eq_true rfl) (Nat.le_of_ble_eq_true rfl) (by simp [mj_recv, rS_f hs4]) rfl (mj_Ok.up (by decide) (jS_sets (D := 0) (rG S1 N B T X) (s := 661) (v := (A : Int)) (by decide) ⟨by omega, by omega⟩ hs4)) (fun v' g5 hq' => ?_) (fun i h' hq' => by obtain ⟨_, _, h⟩ := hq'; cases h)
  obtain ⟨_, hs5, hq'⟩ := hq'
  cases hq'
  have u1 : jvu W4 661 (A : Int) 661 = (A : Int) := jvu_at _ _ _
  have u2 : ∀ s, s ≠ 661 → jvu W4 661 (A : Int) s = W4 s := fun s hne => jvu_ne _ _ _ hne
  generalize jvu W4 661 (A : Int) = W5 at hs5 u1 u2
  iterate 4 refine mj_T.pl rfl rfl rfl rfl ?_
  refine mj_T.call (ins := .invokevirtual 127) rfl rfl (Nat.le_of_ble_eq_true rfl) (Nat.le_of_ble_eq_true rfl) (by simp [mj_recv, rS_f hs5]) rfl (mj_Ok.up (by decide) (jp_commons (D := 0) (V := W5) (rG S1 N B T X) (to := 662) (i := 661) (j := 656) (by decide) (by decide) (by decide) (by decide) (by decide) (by decide) (by decide) hs5)) (fun v' g6 hq' => ?_) (fun i h' hq' => by obtain ⟨_, _, _, _, _, h⟩ := hq'; cases h)
  obtain ⟨W6, _, hs6, y1, y2, hq'⟩ := hq'
  cases hq'
  have y0 : W6 662 ≠ 0 := by
    rw [y1, u1, Int.natAbs_natCast]
    have := Nat.gcd_pos_of_pos_left (m := A) (W5 656).natAbs (by omega)
    omega
  have hI6 : ∀ e, e < 13 → W6 (0 * 13 + e) = itp (fun j => N (79 + j)) (fun j => N (85 + j)) (A : Int) n n e := fun e he => by
    rw [y2 _ (by omega) (by omega) (by omega) (by omega), u2 _ (by omega), p2 _ (by omega) (by omega) (by omega) (by omega) (by omega)]
    exact hIt e he
  have hc6 : W6 662 = ((Nat.gcd A (cgd (itp (fun j => N (79 + j)) (fun j => N (85 + j)) (A : Int) n n) 13) : Nat) : Int) := by
    rw [y1, u1, u2 656 (by decide), p1, Int.natAbs_natCast, Int.natAbs_natCast, jgk_cgd hIt]
  have hdl := jdg_le W6 0 13
  iterate 2 refine mj_T.pl rfl rfl rfl rfl ?_
  refine mj_T.call (ins := .invokevirtual 114) rfl rfl (Nat.le_of_ble_eq_true rfl) (Nat.le_of_ble_eq_true rfl) (by simp [mj_recv, rS_f hs6]) rfl (mj_Ok.up (by decide) (jp_degreeOf (D := 0) (rG S1 N B T X) (p := 0) (by decide) hs6)) (fun v' h' hq' => ?_) (fun i h' hq' => by cases hq')
  cases hq'
  refine mj_T.pl rfl rfl rfl rfl ?_
  refine ra_i4_loop (c := W6 662) (I := itp (fun j => N (79 + j)) (fun j => N (85 + j)) (A : Int) n n) y0 (fun V3 h3 hs3 hc3 ha3 hI3 => ?_) (jdg W6 0 13) _ _ hdl hs6 rfl ((y2 661 (by decide) (by decide) (by decide) (by decide)).trans u1) (fun e he => hI6 e (by omega)) (fun e e1 e2 => by
    have z := jdg_zero W6 0 13 e e1 e2
    rw [z, ← hI6 e e2, z, Int.zero_tdiv])
  iterate 3 refine mj_T.pl rfl rfl rfl rfl ?_
  refine mj_T.call (ins := .invokevirtual 133) rfl rfl (Nat.le_of_ble_eq_true rfl) (Nat.le_of_ble_eq_true rfl) (by simp [mj_recv, rS_f hs3]) rfl (mj_Ok.up (by decide) (jp_exact (D := 0) (V := V3) (rG S1 N B T X) (i := 661) (j := 662) (by decide) (by decide) (by decide) (by decide) (by decide) (by decide) (by rw [hc3]; exact y0) hs3)) (fun v' g7 hq' => ?_) (fun i h' hq' => by obtain ⟨_, _, _, _, _, h⟩ := hq'; cases h)
  obtain ⟨W7, _, hs7, o1, o2, hq'⟩ := hq'
  cases hq'
  iterate 2 refine mj_T.pl rfl rfl rfl rfl ?_
  refine mj_T.call (ins := .invokevirtual 191) rfl rfl (Nat.le_of_ble_eq_true rfl) (Nat.le_of_ble_eq_true rfl) (by simp [mj_recv, rS_f hs7]) rfl (mj_Ok.up (by decide) (rp_asLong (D := 0) (s := 661) (by decide) hs7)) (fun v' h' hq' => ?_) (fun i h' hq' => by cases hq')
  cases hq'
  refine mj_T.pl rfl rfl rfl rfl ?_
  iterate 4 refine mj_T.pl rfl rfl rfl rfl ?_
  refine mj_T.call (ins := .invokevirtual 219) rfl rfl (Nat.le_of_ble_eq_true rfl) (Nat.le_of_ble_eq_true rfl) (by simp [mj_recv, rS_f hs7]) rfl (mj_Ok.up (by decide) (ra_puts (D := 0) (r := x) (p := 0) (c := 2) (by omega) (by decide) ⟨by decide, by decide⟩ K1 hs7 e1)) (fun v' h' hq' => ?_) (fun i h' hq' => by rcases hq' with ⟨_, _, _, _, h, _⟩ | ⟨_, _, _, _, h, _⟩ <;> cases h)
  have hw7 : ∀ e, e < 13 → (fun e => W7 (0 * 13 + e)) e = (itp (fun j => N (79 + j)) (fun j => N (85 + j)) (A : Int) n n e).tdiv (W6 662) := fun e he => by
    show W7 (0 * 13 + e) = _
    rw [o2 _ (by omega) (by omega) (by omega)]
    exact hI3 e he
  rw [hc6] at hw7
  obtain ⟨fi1, fi2, fi3⟩ := it_fin (show 0 < A by omega) rfl hw7
  have hN78 : N0 78 = (n : Int) := by
    rw [← K1.2.1 78 (by decide)]
    exact hn
  have hn6 : n ≤ 6 := by
    have := K1.1.1.2.1.2
    omega
  have eP : ∀ j, j < n → (fun i => N (79 + i)) j = (fun i => N0 (79 + i)) j := fun j hj => K1.2.1 (79 + j) (by omega)
  have eY : ∀ j, j < n → (fun i => N (85 + i)) j = (fun i => N0 (85 + i)) j := fun j hj => K1.2.1 (85 + j) (by omega)
  have hitR : itR N0 (fun e => W7 (0 * 13 + e)) ((A : Int).tdiv ((Nat.gcd A (cgd (itp (fun j => N (79 + j)) (fun j => N (85 + j)) (A : Int) n n) 13) : Nat) : Int)) := by
    refine ⟨(A : Int), by omega, ?_, ?_, fi2, fi3⟩
    · rw [hN78, Int.toNat_natCast]
      intro i hi
      rw [← wgt_cg eP hi]
      exact Int.natAbs_dvd_natAbs.mp (by rw [Int.natAbs_natCast]; exact hA3 i hi)
    · rw [hN78, Int.toNat_natCast, ← itp_cg eP eY n (Nat.le_refl n)]
      exact fi1
  have hD1 : W7 661 = (A : Int).tdiv ((Nat.gcd A (cgd (itp (fun j => N (79 + j)) (fun j => N (85 + j)) (A : Int) n n) 13) : Nat) : Int) := by rw [o1, ha3, hc3, hc6]
  have hD2 : jR (W7 661) := by
    rw [hD1, ← Int.ofNat_tdiv]
    have h9 := Nat.div_le_self A (Nat.gcd A (cgd (itp (fun j => N (79 + j)) (fun j => N (85 + j)) (A : Int) n n) 13))
    obtain ⟨q9, e9⟩ : ∃ q9 : Nat, A / Nat.gcd A (cgd (itp (fun j => N (79 + j)) (fun j => N (85 + j)) (A : Int) n n) 13) = q9 := ⟨_, rfl⟩
    rw [e9] at h9 ⊢
    exact ⟨by omega, by omega⟩
  have hX : (0 : Int) ≤ (x : Int) ∧ (x : Int) ≤ 5 := ⟨by omega, by omega⟩
  rcases hq' with ⟨hs9, z9, h9, hz9, e9, ⟨S9, N9, B9, X9, V9, r9, K9, c9⟩⟩ | ⟨hs9, z9, h9, hz9, e9, ⟨S9, N9, B9, X9, V9, r9, K9, c9⟩⟩
  · cases e9
    iterate 2 refine mj_T.pl rfl rfl rfl rfl ?_
    refine rT_get r9 rfl rfl ?_
    refine mj_T.if0 (a := S9 3) rfl (K9.1.2.2.2.2.2.2.1 3) (fun hc => ?_) (fun hc => ?_)
    · rw [c9] at hc
      simp [jc] at hc
    · iterate 2 refine mj_T.pl rfl rfl rfl rfl ?_
      exact mj_T.ret rfl rfl rfl (Or.inl ⟨hX, _, _, hitR, Or.inl ⟨hs9, _, _, ⟨hD2, hD1⟩, rfl, ⟨_, _, _, _, _, r9, K9, c9⟩⟩⟩)
  · cases e9
    iterate 2 refine mj_T.pl rfl rfl rfl rfl ?_
    refine rT_get r9 rfl rfl ?_
    refine mj_T.if0 (a := S9 3) rfl (K9.1.2.2.2.2.2.2.1 3) (fun hc => ?_) (fun hc => ?_)
    · refine mj_T.pl rfl rfl rfl rfl ?_
      exact mj_T.ret rfl rfl rfl (Or.inl ⟨hX, _, _, hitR, Or.inr ⟨hs9, 0, _, ⟨⟨by decide, by decide⟩, trivial⟩, rfl, ⟨_, _, _, _, _, r9, K9, c9⟩⟩⟩)
    · rw [c9] at hc
      simp [jc] at hc
end RXJ
section ACI
variable {h : mj_H} {u : Nat} {N : Nat → Int} {H : Nat → Nat → Int} {tm er : Int} {T : Nat → Int}
theorem ca_117 (B : AS N u H) (s : cC N u H h) {to : Int} (r0 : -2147483648 ≤ to ∧ to ≤ 2147483647) : mj_Ok 59 117 [.ref 1, .int (jn to)] h (fun r => yZ (Q_interpolate N u H to) r.2 ∧ cAl (fun k => if k = 0 then 1 else 2) (A_interpolate N to) r) := ((cz_117 B s r0).and (mj_Ok.up (by decide) (pX_interpolate (D := 0) (Nat.le_refl _) B s r0))).to (fun z hz => ⟨hz.1.yz, by
  obtain ⟨_, hz⟩ := hz
  rcases hz with ⟨a, w, D, h9, b, c, _, rfl⟩ | ⟨k, h9, hk, _, rfl⟩
  · exact ⟨D, rfl, an.y a (an.y ⟨w, D, b, c⟩ (an.e ⟨w, b⟩))⟩
  · intro z
    rcases hk with ⟨a, rfl⟩ | ⟨a, ⟨w, D, b, c⟩, rfl⟩
    · exact an.n a
    · refine an.y a (an.n (fun q => ?_))
      obtain ⟨w2, D2, q1, q2⟩ := q
      exact c (sml_cg (itR.one B.1 q1 b) q2)⟩)
theorem rJc.za {c : Int} {F : Int → Prop} {N' : Nat → Int} {u' : Nat} {H' : Nat → Nat → Int} {r : mj_R} {P : SP} {A : Int → Int → Prop} (k : rJc c F N' u' H' tm er T r) (p : P N' u' H') (hA : ∀ z, F z → A c z) : rZal P A tm er T r := by
  obtain ⟨z, h', ⟨jz, hz⟩, rfl, I⟩ := k
  exact ⟨c, z, _, _, _, hA z hz, jz, rfl, p, I⟩
theorem ga_interpolate (g : gN N) {x : Int} (jx : jr x) (I : jIx N u H tm er T h) : mj_Ok 60 251 [.ref 0, .int (jn x)] h (rZal (Q_interpolate N u H x) (A_interpolate N x) tm er T) := (mj_Ok.up (by decide) (ra_interpolate jx I)).to (fun r k => by
  rcases k with ⟨a, w, D, b, ⟨c, d⟩ | ⟨c, d⟩⟩ | ⟨a, d⟩
  · refine d.za ⟨w, fun _ => ⟨D, b⟩, Or.inl ⟨⟨a, c⟩, w, fun _ _ => rfl, rfl, rfl, rfl⟩⟩ (fun z hz => an.y a (an.y ⟨w, D, b, c⟩ (an.e ⟨w, ?_⟩)))
    have hz : z = D := hz
    rw [hz]
    exact b
  · refine d.za ⟨w, fun _ => ⟨D, b⟩, Or.inr ⟨fun q => c q.2, rfl, rfl, rfl⟩⟩ (fun z _ => an.y a (an.n (fun q => ?_)))
    obtain ⟨w2, D2, q1, q2⟩ := q
    exact c (sml_cg (itR.one g q1 b) q2)
  · exact d.za ⟨pz_0, fun q => absurd q a, Or.inr ⟨fun q => a q.1, rfl, rfl, rfl⟩⟩ (fun z _ => an.n a))
end ACI
/-! Answers of the calls that only read: the class. -/
/-- how many of the first are not 0 -/
def tmc (f : Nat → Int) : Nat → Nat
  | 0 => 0
  | k + 1 => if f k = 0 then tmc f k else tmc f k + 1
theorem tmc_z {f : Nat → Int} {k : Nat} (h : f k = 0) : tmc f (k + 1) = tmc f k := if_pos h
theorem tmc_s {f : Nat → Int} {k : Nat} (h : f k ≠ 0) : tmc f (k + 1) = tmc f k + 1 := if_neg h
theorem tmc_le (f : Nat → Int) : ∀ k, tmc f k ≤ k
  | 0 => Nat.le_refl 0
  | k + 1 => by
    have := tmc_le f k
    by_cases q : f k = 0
    · rw [tmc_z q]
      omega
    · rw [tmc_s q]
      omega
theorem tmc_cg {f f' : Nat → Int} : ∀ k, (∀ j, j < k → f' j = f j) → tmc f' k = tmc f k
  | 0, _ => rfl
  | k + 1, h => by
    have e := tmc_cg k (fun j hj => h j (by omega))
    have q := h k (by omega)
    unfold tmc
    rw [q, e]
theorem tmc_mono {f : Nat → Int} {a : Nat} : ∀ b, a ≤ b → tmc f a ≤ tmc f b
  | 0, h => by rw [show a = 0 by omega]; exact Nat.le_refl _
  | b + 1, h => by
    by_cases q : a = b + 1
    · rw [q]
      exact Nat.le_refl _
    · have h1 := tmc_mono (f := f) (a := a) b (by omega)
      by_cases z : f b = 0
      · rw [tmc_z z]
        exact h1
      · rw [tmc_s z]
        omega
/-- the exponent of the t-th term from above -/
def exF (R : Nat → Int) (t z : Int) : Prop := ∃ e : Nat, z = (e : Int) ∧ e < 13 ∧ R e ≠ 0 ∧ (tmc R 13 : Int) - tmc R (e + 1) = t
theorem exF.one {R : Nat → Int} {t : Int} (z1 z2 : Int) (a : exF R t z1) (b : exF R t z2) : z1 = z2 := by
  obtain ⟨e1, a1, a2, a3, a4⟩ := a
  obtain ⟨e2, b1, b2, b3, b4⟩ := b
  rcases Nat.lt_trichotomy e1 e2 with c | c | c
  · have h1 := tmc_mono (f := R) (a := e1 + 1) e2 (by omega)
    have h2 := tmc_s b3
    omega
  · omega
  · have h1 := tmc_mono (f := R) (a := e2 + 1) e1 (by omega)
    have h2 := tmc_s a3
    omega
abbrev A_degree (N : Nat → Int) (a : Int) : Int → Int → Prop := an [(0 ≤ a ∧ a ≤ 5, 1)] (dgF (rwN N a))
abbrev A_terms (N : Nat → Int) (a : Int) : Int → Int → Prop := an [(0 ≤ a ∧ a ≤ 5, 1)] (fun z => z = ((tmc (rwN N a) 13 : Nat) : Int))
abbrev A_exponent (N : Nat → Int) (a t : Int) : Int → Int → Prop := an [((0 ≤ a ∧ a ≤ 5) ∧ 0 ≤ t ∧ t < (tmc (rwN N a) 13 : Int), 1)] (exF (rwN N a) t)
abbrev A_coefficient (N : Nat → Int) (a e : Int) : Int → Int → Prop := an [(0 ≤ a ∧ a ≤ 5, 1), (0 ≤ e ∧ e ≤ 12, 2)] (fun z => z = jsg (rwN N a e.toNat))
abbrev A_content (N : Nat → Int) (a : Int) : Int → Int → Prop := an [(0 ≤ a ∧ a ≤ 5, 1)] (fun z => z = jsg ((cgd (rwN N a) 13 : Nat) : Int))
def smF (f f' : Nat → Int) (z : Int) : Prop := (z = 1 ∧ ∀ j, j < 13 → f j = f' j) ∨ (z = 0 ∧ ¬ ∀ j, j < 13 → f j = f' j)
theorem smF.one {f f' : Nat → Int} (z1 z2 : Int) (a : smF f f' z1) (b : smF f f' z2) : z1 = z2 := by
  rcases a with ⟨a1, a2⟩ | ⟨a1, a2⟩
  · rcases b with ⟨b1, b2⟩ | ⟨b1, b2⟩
    · omega
    · exact absurd a2 b2
  · rcases b with ⟨b1, b2⟩ | ⟨b1, b2⟩
    · exact absurd b2 a2
    · omega
abbrev A_areSame (N : Nat → Int) (a b : Int) : Int → Int → Prop := an [(rg2 a b, 1)] (smF (rwN N a) (rwN N b))
section ARG
variable {N : Nat → Int} {c1 z1 c2 z2 : Int}
theorem A_degree.ag {a : Int} (p : A_degree N a c1 z1) (q : A_degree N a c2 z2) : c1 = c2 ∧ (c1 = 0 → z1 = z2) := an.ag dgF.one (by simp) p q
theorem A_terms.ag {a : Int} (p : A_terms N a c1 z1) (q : A_terms N a c2 z2) : c1 = c2 ∧ (c1 = 0 → z1 = z2) := an.ag (fun _ _ a b => a.trans b.symm) (by simp) p q
theorem A_exponent.ag {a t : Int} (p : A_exponent N a t c1 z1) (q : A_exponent N a t c2 z2) : c1 = c2 ∧ (c1 = 0 → z1 = z2) := an.ag exF.one (by simp) p q
theorem A_coefficient.ag {a e : Int} (p : A_coefficient N a e c1 z1) (q : A_coefficient N a e c2 z2) : c1 = c2 ∧ (c1 = 0 → z1 = z2) := an.ag (fun _ _ a b => a.trans b.symm) (by simp) p q
theorem A_content.ag {a : Int} (p : A_content N a c1 z1) (q : A_content N a c2 z2) : c1 = c2 ∧ (c1 = 0 → z1 = z2) := an.ag (fun _ _ a b => a.trans b.symm) (by simp) p q
theorem A_areSame.ag {a b : Int} (p : A_areSame N a b c1 z1) (q : A_areSame N a b c2 z2) : c1 = c2 ∧ (c1 = 0 → z1 = z2) := an.ag smF.one (by simp) p q
end ARG
section MVR
variable {g h : mj_H} {n D u r : Nat} {V : Nat → Int} {X : Nat → Nat → Int} {N : Nat → Int} {H : Nat → Nat → Int}
theorem mS_tm_loop (m : jM g n V X h) (kr : cK r = 2) (hr : sml (X r)) {Q : mj_R → Prop} (hend : Q (.inl (some (.int (jn ((tmc (X r) 13 : Nat) : Int)))), h)) : ∀ k i, i + k = 13 → mj_T D mj_m163 4 [some (.ref r), some (.int (jn ((tmc (X r) i : Nat) : Int))), some (.int (jn (i : Int)))] [] h Q
  | 0, i, hi => by
    iterate 2 refine mj_T.pl rfl rfl rfl rfl ?_
    refine mT_llen m kr rfl ?_
    refine mj_T.icmp (a := ((i : Nat) : Int)) (b := ((13 : Nat) : Int)) rfl ⟨by omega, by omega⟩ ⟨by omega, by omega⟩ (fun c1 => ?_) (fun c1 => ?_)
    · simp only [jc, Bool.not_eq_true', Bool.not_eq_false', decide_eq_true_eq, decide_eq_false_iff_not] at c1
      refine mj_T.pl rfl rfl rfl rfl ?_
      obtain rfl : i = 13 := by omega
      exact mj_T.ret rfl rfl rfl hend
    · exfalso
      simp only [jc, Bool.not_eq_true', Bool.not_eq_false', decide_eq_true_eq, decide_eq_false_iff_not] at c1
      omega
  | k + 1, i, hi => by
    have h1 := hr i (by omega)
    iterate 2 refine mj_T.pl rfl rfl rfl rfl ?_
    refine mT_llen m kr rfl ?_
    refine mj_T.icmp (a := ((i : Nat) : Int)) (b := ((13 : Nat) : Int)) rfl ⟨by omega, by omega⟩ ⟨by omega, by omega⟩ (fun c1 => ?_) (fun c1 => ?_)
    · exfalso
      simp only [jc, Bool.not_eq_true', Bool.not_eq_false', decide_eq_true_eq, decide_eq_false_iff_not] at c1
      omega
    · simp only [jc, Bool.not_eq_true', Bool.not_eq_false', decide_eq_true_eq, decide_eq_false_iff_not] at c1
      iterate 2 refine mj_T.pl rfl rfl rfl rfl ?_
      refine mT_lald m kr rfl ⟨by omega, by omega⟩ ?_
      refine mj_T.eq (st2 := [.long (jl (X r i))]) ?_ rfl rfl rfl rfl
      refine jT.lc 0 rfl rfl ?_
      refine mj_T.lif (a := (X r i)) (b := ((0 : Nat) : Int)) rfl rfl ⟨by omega, by omega⟩ ⟨by omega, by omega⟩ (fun c2 => ?_) (fun c2 => ?_)
      · simp only [jc, Bool.not_eq_true', Bool.not_eq_false', decide_eq_true_eq, decide_eq_false_iff_not] at c2
        refine mj_T.iinc rfl rfl ?_
        rw [show ((i : Nat) : Int) + 1 = ((i + 1 : Nat) : Int) by omega]
        refine mj_T.eq (loc2 := [some (.ref r), some (.int (jn ((tmc (X r) i : Nat) : Int))), some (.int (jn (((i + 1) : Nat) : Int)))]) ?_ rfl rfl rfl rfl
        refine mj_T.pl rfl rfl rfl rfl ?_
        have e := tmc_z (f := X r) (k := i) (by omega)
        rw [← e]
        exact mS_tm_loop m kr hr hend k (i + 1) (by omega)
      · simp only [jc, Bool.not_eq_true', Bool.not_eq_false', decide_eq_true_eq, decide_eq_false_iff_not] at c2
        refine mj_T.iinc rfl rfl ?_
        rw [show ((tmc (X r) i : Nat) : Int) + 1 = ((tmc (X r) i + 1 : Nat) : Int) by omega]
        refine mj_T.eq (loc2 := [some (.ref r), some (.int (jn (((tmc (X r) i + 1) : Nat) : Int))), some (.int (jn ((i : Nat) : Int)))]) ?_ rfl rfl rfl rfl
        refine mj_T.iinc rfl rfl ?_
        rw [show ((i : Nat) : Int) + 1 = ((i + 1 : Nat) : Int) by omega]
        refine mj_T.eq (loc2 := [some (.ref r), some (.int (jn (((tmc (X r) i + 1) : Nat) : Int))), some (.int (jn (((i + 1) : Nat) : Int)))]) ?_ rfl rfl rfl rfl
        refine mj_T.pl rfl rfl rfl rfl ?_
        have e := tmc_s (f := X r) (k := i) (by omega)
        rw [← e]
        exact mS_tm_loop m kr hr hend k (i + 1) (by omega)
theorem mS_terms (m : jM g n V X h) (kr : cK r = 2) (hr : sml (X r)) : mj_Ok (D + 1) 163 [.ref r] h (fun z => z = (.inl (some (.int (jn ((tmc (X r) 13 : Nat) : Int)))), h)) := by
  refine mj_Ok.of (M := mj_m163) rfl rfl rfl ?_
  refine mj_T.pl rfl rfl rfl rfl ?_
  refine mj_T.pl (loc' := [some (.ref r), some (.int (jn 0)), none]) rfl rfl rfl rfl ?_
  refine mj_T.pl rfl rfl rfl rfl ?_
  refine mj_T.pl (loc' := [some (.ref r), some (.int (jn 0)), some (.int (jn 0))]) rfl rfl rfl rfl ?_
  exact mS_tm_loop (Q := fun z => z = (.inl (some (.int (jn ((tmc (X r) 13 : Nat) : Int)))), h)) m kr hr rfl 13 0 (by omega)
theorem ck_47 : cK 477 = 18 ∧ cK 479 = 18 ∧ cL 478 = 10 ∧ cL 480 = 10 := by decide +kernel
theorem jR_l10 {v : Int} (hv : jR v) : jnl v.natAbs ≤ 10 := jnl_le_lt.mpr (by have h1 := hv.1; have h2 := hv.2; rw [show jB ^ 10 = 1000000000000000000000000000000000000000000000000000000000000000000000000000000000000000000 from by decide +kernel]; omega)
theorem mX_tellLong (m : jM g n V X h) {v : Int} (hv : jR v) : mj_Ok (D + 2) 158 [.ref 1, .long (jl v)] h (fun z => z.1 = .inl (some (.int (jn (jsg v))))) := by
  obtain ⟨k7, k9, l8, l0⟩ := ck_47
  have hl := jR_l10 hv
  refine mj_Ok.of (M := mj_m158) rfl rfl rfl ?_
  refine mj_T.pl rfl rfl rfl rfl ?_
  refine mT_get m 19 cq_d1 (by decide) rfl rfl ?_
  refine mj_T.pl rfl rfl rfl rfl ?_
  refine mj_T.call rfl rfl (Nat.le_of_ble_eq_true rfl) (Nat.le_of_ble_eq_true rfl) (mV_of m 18 k7 (by decide) rfl (by decide) rfl _) rfl (mj_Ok.up (by omega) (mW_setLong (D := 0) m k7 hv (by rw [l8]; exact hl))) (fun v' h1 hq => ?_) (fun i h1 hq => by obtain ⟨_, _, hq⟩ := hq; cases hq)
  obtain ⟨_, m1, hq⟩ := hq
  cases hq
  refine mj_T.pl rfl rfl rfl rfl ?_
  refine mT_get m1 19 cq_d1 (by decide) rfl rfl ?_
  refine mj_T.pl rfl rfl rfl rfl ?_
  refine mj_T.eq (st2 := [.long (jl 1), .ref 479]) ?_ rfl rfl rfl rfl
  refine mj_T.call rfl rfl (Nat.le_of_ble_eq_true rfl) (Nat.le_of_ble_eq_true rfl) (mV_of m1 18 k9 (by decide) rfl (by decide) rfl _) rfl (mj_Ok.up (by omega) (mW_setLong (D := 0) (v := 1) m1 k9 ⟨by decide, by decide⟩ (by rw [l0]; exact jR_l10 ⟨by decide, by decide⟩))) (fun v' h2 hq => ?_) (fun i h2 hq => by obtain ⟨_, _, hq⟩ := hq; cases hq)
  obtain ⟨_, m2, hq⟩ := hq
  cases hq
  have e : jvu (jvu V 477 v) 479 1 477 = v := (jvu_ne _ _ _ (by decide)).trans (jvu_at _ _ _)
  refine mj_T.pl rfl rfl rfl rfl ?_
  refine mT_get m2 19 cq_d1 (by decide) rfl rfl ?_
  refine mT_sg m2 k7 rfl ?_ (by rw [e]; omega)
  rw [e]
  exact mj_T.ret rfl rfl rfl rfl
theorem cv_119 (A : AS N u H) (s : cC N u H h) {a : Int} (ra : -2147483648 ≤ a ∧ a ≤ 2147483647) : mj_Ok 59 119 [.ref 1, .int (jn a)] h (cA (fun k => 1) (A_degree N a)) := by
  obtain ⟨V, X, m, b, d, c, jx⟩ := cS.nr A s
  have jx : rjR X := jx
  refine mj_Ok.of (M := mj_m119) rfl rfl rfl ?_
  iterate 2 refine mj_T.pl rfl rfl rfl rfl ?_
  refine mj_T.call rfl rfl (Nat.le_of_ble_eq_true rfl) (Nat.le_of_ble_eq_true rfl) (mV_of m 19 cq_d1 (by decide) rfl (by decide) rfl _) rfl (mj_Ok.up (by omega) (mC_rowOf (D := 0) m (i := a) (by omega))) (fun v g1 hq => ?_) (fun i g1 hq => ?_)
  rotate_left
  · rcases hq with ⟨_, hq⟩ | ⟨hn, hq⟩
    · cases hq
    · cases hq
      exact Or.inl ⟨rfl, fun z => an.n hn⟩
  rcases hq with ⟨ka, hq⟩ | ⟨_, hq⟩
  rotate_left
  · cases hq
  cases hq
  refine mj_T.eq (pc2 := 5) (st2 := [.ref (4 + a.toNat)]) ?_ rfl rfl rfl rfl
  refine mj_T.call rfl rfl (Nat.le_of_ble_eq_true rfl) (Nat.le_of_ble_eq_true rfl) rfl rfl (mj_Ok.up (by omega) (mS_deg (D := 0) m (mK_rt a.toNat (by omega)) (c.sm A.1 ka))) (fun v g2 hq => ?_) (fun i g2 hq => ?_)
  rotate_left
  · cases hq
  cases hq
  have ga := fdg_le (X (4 + a.toNat)) 13
  refine mj_T.eq (pc2 := 8) (st2 := [.int (jn (((fdg (X (4 + a.toNat)) 13) : Int) - 1))]) ?_ rfl rfl rfl rfl
  exact mj_T.ret rfl rfl rfl ⟨_, ⟨by omega, by omega⟩, rfl, an.y ka (an.e (dgF.of (c.rw ka)))⟩
theorem cv_120 (A : AS N u H) (s : cC N u H h) {a : Int} (ra : -2147483648 ≤ a ∧ a ≤ 2147483647) : mj_Ok 59 120 [.ref 1, .int (jn a)] h (cA (fun k => 1) (A_terms N a)) := by
  obtain ⟨V, X, m, b, d, c, jx⟩ := cS.nr A s
  have jx : rjR X := jx
  refine mj_Ok.of (M := mj_m120) rfl rfl rfl ?_
  iterate 2 refine mj_T.pl rfl rfl rfl rfl ?_
  refine mj_T.call rfl rfl (Nat.le_of_ble_eq_true rfl) (Nat.le_of_ble_eq_true rfl) (mV_of m 19 cq_d1 (by decide) rfl (by decide) rfl _) rfl (mj_Ok.up (by omega) (mC_rowOf (D := 0) m (i := a) (by omega))) (fun v g1 hq => ?_) (fun i g1 hq => ?_)
  rotate_left
  · rcases hq with ⟨_, hq⟩ | ⟨hn, hq⟩
    · cases hq
    · cases hq
      exact Or.inl ⟨rfl, fun z => an.n hn⟩
  rcases hq with ⟨ka, hq⟩ | ⟨_, hq⟩
  rotate_left
  · cases hq
  cases hq
  refine mj_T.eq (pc2 := 5) (st2 := [.ref (4 + a.toNat)]) ?_ rfl rfl rfl rfl
  refine mj_T.call rfl rfl (Nat.le_of_ble_eq_true rfl) (Nat.le_of_ble_eq_true rfl) rfl rfl (mj_Ok.up (by omega) (mS_terms (D := 0) m (mK_rt a.toNat (by omega)) (c.sm A.1 ka))) (fun v g2 hq => ?_) (fun i g2 hq => ?_)
  rotate_left
  · cases hq
  cases hq
  have ga := tmc_le (X (4 + a.toNat)) 13
  refine mj_T.eq (pc2 := 8) (st2 := [.int (jn ((tmc (X (4 + a.toNat)) 13 : Nat) : Int))]) ?_ rfl rfl rfl rfl
  exact mj_T.ret rfl rfl rfl ⟨_, ⟨by omega, by omega⟩, rfl, an.y ka (an.e (congrArg (fun x : Nat => (x : Int)) (tmc_cg 13 (c.rw ka))))⟩
theorem cv_122 (A : AS N u H) (s : cC N u H h) {a : Int} (ra : -2147483648 ≤ a ∧ a ≤ 2147483647) {e : Int} (re : -2147483648 ≤ e ∧ e ≤ 2147483647) : mj_Ok 59 122 [.ref 1, .int (jn a), .int (jn e)] h (cA (fun k => if k = 0 then 1 else 2) (A_coefficient N a e)) := by
  obtain ⟨V, X, m, b, d, c, jx⟩ := cS.nr A s
  have jx : rjR X := jx
  refine mj_Ok.of (M := mj_m122) rfl rfl rfl ?_
  iterate 2 refine mj_T.pl rfl rfl rfl rfl ?_
  refine mj_T.call rfl rfl (Nat.le_of_ble_eq_true rfl) (Nat.le_of_ble_eq_true rfl) (mV_of m 19 cq_d1 (by decide) rfl (by decide) rfl _) rfl (mj_Ok.up (by omega) (mC_rowOf (D := 0) m (i := a) (by omega))) (fun v g1 hq => ?_) (fun i g1 hq => ?_)
  rotate_left
  · rcases hq with ⟨_, hq⟩ | ⟨hn, hq⟩
    · cases hq
    · cases hq
      exact Or.inl ⟨rfl, fun z => an.n hn⟩
  rcases hq with ⟨ka, hq⟩ | ⟨_, hq⟩
  rotate_left
  · cases hq
  cases hq
  refine mj_T.eq (pc2 := 5) (st2 := [.ref (4 + a.toNat)]) ?_ rfl rfl rfl rfl
  refine mj_T.pl (loc' := [some (.ref 1), some (.int (jn a)), some (.int (jn e)), some (.ref (4 + a.toNat))]) rfl rfl rfl rfl ?_
  refine mj_T.pl rfl rfl rfl rfl ?_
  refine mj_T.call rfl rfl (Nat.le_of_ble_eq_true rfl) (Nat.le_of_ble_eq_true rfl) rfl rfl (mj_Ok.up (by omega) (mC_exponent (D := 0) (i := e) (by omega))) (fun v g2 hq => ?_) (fun i g2 hq => ?_)
  rotate_left
  · rcases hq with ⟨_, hq⟩ | ⟨hn, hq⟩
    · cases hq
    · cases hq
      exact Or.inl ⟨rfl, fun z => an.y ka (an.n hn)⟩
  rcases hq with ⟨ke, hq⟩ | ⟨_, hq⟩
  rotate_left
  · cases hq
  cases hq
  refine mj_T.eq (pc2 := 10) (st2 := []) ?_ rfl rfl rfl rfl
  iterate 3 refine mj_T.pl rfl rfl rfl rfl ?_
  refine mT_lald m (mK_rt a.toNat (by omega)) rfl ⟨by omega, by omega⟩ ?_
  refine mj_T.call rfl rfl (Nat.le_of_ble_eq_true rfl) (Nat.le_of_ble_eq_true rfl) (mV_of m 19 cq_d1 (by decide) rfl (by decide) rfl _) rfl (mj_Ok.up (by omega) (mX_tellLong (D := 0) m (v := (X (4 + a.toNat) ((e : Int).toNat))) (jx _ (mK_rt a.toNat (by omega)) _))) (fun v g3 hq => ?_) (fun i g3 hq => ?_)
  rotate_left
  · cases hq
  have hq : (Sum.inl v : Option Value ⊕ Nat) = .inl (some (.int (jn (jsg (X (4 + a.toNat) ((e : Int).toNat)))))) := hq
  cases hq
  have hj := jsg_range (X (4 + a.toNat) ((e : Int).toNat))
  refine mj_T.eq (pc2 := 17) (st2 := [.int (jn (jsg (X (4 + a.toNat) ((e : Int).toNat))))]) ?_ rfl rfl rfl rfl
  exact mj_T.ret rfl rfl rfl ⟨_, ⟨by omega, by omega⟩, rfl, an.y ka (an.y ke (an.e (congrArg jsg (c.rw ka _ (by omega)))))⟩
theorem cv_123 (A : AS N u H) (s : cC N u H h) {a : Int} (ra : -2147483648 ≤ a ∧ a ≤ 2147483647) : mj_Ok 59 123 [.ref 1, .int (jn a)] h (cA (fun k => 1) (A_content N a)) := by
  obtain ⟨V, X, m, b, d, c, jx⟩ := cS.nr A s
  have jx : rjR X := jx
  refine mj_Ok.of (M := mj_m123) rfl rfl rfl ?_
  iterate 3 refine mj_T.pl rfl rfl rfl rfl ?_
  refine mj_T.call rfl rfl (Nat.le_of_ble_eq_true rfl) (Nat.le_of_ble_eq_true rfl) (mV_of m 19 cq_d1 (by decide) rfl (by decide) rfl _) rfl (mj_Ok.up (by omega) (mC_rowOf (D := 0) m (i := a) (by omega))) (fun v g1 hq => ?_) (fun i g1 hq => ?_)
  rotate_left
  · rcases hq with ⟨_, hq⟩ | ⟨hn, hq⟩
    · cases hq
    · cases hq
      exact Or.inl ⟨rfl, fun z => an.n hn⟩
  rcases hq with ⟨ka, hq⟩ | ⟨_, hq⟩
  rotate_left
  · cases hq
  cases hq
  refine mj_T.eq (pc2 := 6) (st2 := [.ref (4 + a.toNat), .ref 1]) ?_ rfl rfl rfl rfl
  refine mj_T.call rfl rfl (Nat.le_of_ble_eq_true rfl) (Nat.le_of_ble_eq_true rfl) rfl rfl (mj_Ok.up (by omega) (mS_cont (D := 0) m (mK_rt a.toNat (by omega)) (c.sm A.1 ka))) (fun v g2 hq => ?_) (fun i g2 hq => ?_)
  rotate_left
  · cases hq
  cases hq
  have hcg : cgd (X (4 + a.toNat)) 13 ≤ 999999999999999999 := cgd_bd 13 (c.sm A.1 ka)
  refine mj_T.eq (pc2 := 9) (st2 := [.long (jl ((cgd (X (4 + a.toNat)) 13 : Nat) : Int)), .ref 1]) ?_ rfl rfl rfl rfl
  refine mj_T.call rfl rfl (Nat.le_of_ble_eq_true rfl) (Nat.le_of_ble_eq_true rfl) (mV_of m 19 cq_d1 (by decide) rfl (by decide) rfl _) rfl (mj_Ok.up (by omega) (mX_tellLong (D := 0) m (v := ((cgd (X (4 + a.toNat)) 13 : Nat) : Int)) ⟨by omega, by omega⟩)) (fun v g3 hq => ?_) (fun i g3 hq => ?_)
  rotate_left
  · cases hq
  have hq : (Sum.inl v : Option Value ⊕ Nat) = .inl (some (.int (jn (jsg ((cgd (X (4 + a.toNat)) 13 : Nat) : Int))))) := hq
  cases hq
  have hj := jsg_range ((cgd (X (4 + a.toNat)) 13 : Nat) : Int)
  refine mj_T.eq (pc2 := 12) (st2 := [.int (jn (jsg ((cgd (X (4 + a.toNat)) 13 : Nat) : Int)))]) ?_ rfl rfl rfl rfl
  exact mj_T.ret rfl rfl rfl ⟨_, ⟨by omega, by omega⟩, rfl, an.y ka (an.e (by rw [cgd_cg 13 (c.rw ka)]))⟩
theorem cv_126 (A : AS N u H) (s : cC N u H h) {a : Int} (ra : -2147483648 ≤ a ∧ a ≤ 2147483647) {a2 : Int} (ra2 : -2147483648 ≤ a2 ∧ a2 ≤ 2147483647) : mj_Ok 59 126 [.ref 1, .int (jn a), .int (jn a2)] h (cA (fun k => 1) (A_areSame N a a2)) := by
  obtain ⟨V, X, m, b, d, c, jx⟩ := cS.nr A s
  have jx : rjR X := jx
  refine mj_Ok.of (M := mj_m126) rfl rfl rfl ?_
  iterate 2 refine mj_T.pl rfl rfl rfl rfl ?_
  refine mj_T.call rfl rfl (Nat.le_of_ble_eq_true rfl) (Nat.le_of_ble_eq_true rfl) (mV_of m 19 cq_d1 (by decide) rfl (by decide) rfl _) rfl (mj_Ok.up (by omega) (mC_rowOf (D := 0) m (i := a) (by omega))) (fun v g1 hq => ?_) (fun i g1 hq => ?_)
  rotate_left
  · rcases hq with ⟨_, hq⟩ | ⟨hn, hq⟩
    · cases hq
    · cases hq
      exact Or.inl ⟨rfl, fun z => an.n (fun q => hn q.1)⟩
  rcases hq with ⟨ka, hq⟩ | ⟨_, hq⟩
  rotate_left
  · cases hq
  cases hq
  refine mj_T.eq (pc2 := 5) (st2 := [.ref (4 + a.toNat)]) ?_ rfl rfl rfl rfl
  iterate 2 refine mj_T.pl rfl rfl rfl rfl ?_
  refine mj_T.call rfl rfl (Nat.le_of_ble_eq_true rfl) (Nat.le_of_ble_eq_true rfl) (mV_of m 19 cq_d1 (by decide) rfl (by decide) rfl _) rfl (mj_Ok.up (by omega) (mC_rowOf (D := 0) m (i := a2) (by omega))) (fun v g2 hq => ?_) (fun i g2 hq => ?_)
  rotate_left
  · rcases hq with ⟨_, hq⟩ | ⟨hn, hq⟩
    · cases hq
    · cases hq
      exact Or.inl ⟨rfl, fun z => an.n (fun q => hn q.2)⟩
  rcases hq with ⟨ka2, hq⟩ | ⟨_, hq⟩
  rotate_left
  · cases hq
  cases hq
  refine mj_T.eq (pc2 := 10) (st2 := [.ref (4 + a2.toNat), .ref (4 + a.toNat)]) ?_ rfl rfl rfl rfl
  refine mj_T.call rfl rfl (Nat.le_of_ble_eq_true rfl) (Nat.le_of_ble_eq_true rfl) rfl rfl (mj_Ok.up (by omega) (mS_same (D := 0) m (mK_rt a.toNat (by omega)) (mK_rt a2.toNat (by omega)) (c.sm A.1 ka) (c.sm A.1 ka2))) (fun v g3 hq => ?_) (fun i g3 hq => ?_)
  rotate_left
  · rcases hq with ⟨_, hq⟩ | ⟨_, hq⟩ <;> cases hq
  rcases hq with ⟨hs, hq⟩ | ⟨hs, hq⟩
  · cases hq
    exact mj_T.ret rfl rfl rfl ⟨1, ⟨by decide, by decide⟩, rfl, an.y ⟨ka, ka2⟩ (an.e (Or.inl ⟨rfl, fun j hj => (c.rw ka j hj).symm.trans ((hs j hj).trans (c.rw ka2 j hj))⟩))⟩
  · cases hq
    exact mj_T.ret rfl rfl rfl ⟨0, ⟨by decide, by decide⟩, rfl, an.y ⟨ka, ka2⟩ (an.e (Or.inr ⟨rfl, fun q => hs (fun j hj => (c.rw ka j hj).trans ((q j hj).trans (c.rw ka2 j hj).symm))⟩))⟩
theorem mX_ex_loop (m : jM g n V X h) (kr : cK r = 2) (hr : sml (X r)) {a t : Int} (ht : -2147483648 ≤ t ∧ t ≤ 2147483647) {Q : mj_R → Prop} (hret : ∀ e : Nat, e < 13 → X r e ≠ 0 → (tmc (X r) 13 : Int) - tmc (X r) (e + 1) = t → Q (.inl (some (.int (jn (e : Int)))), h)) (hthr : ¬ (0 ≤ t ∧ t < (tmc (X r) 13 : Int)) → ∀ loc, mj_T D mj_m121 51 loc [] h Q) : ∀ k, k ≤ 13 → (0 ≤ t → (tmc (X r) 13 : Int) - tmc (X r) k ≤ t) → (t < 0 → k = 13) → mj_T D mj_m121 15 [some (.ref 1), some (.int (jn a)), some (.int (jn t)), some (.ref r), some (.int (jn (t - ((tmc (X r) 13 : Int) - (tmc (X r) k : Int))))), some (.int (jn ((k : Int) - 1)))] [] h Q
  | 0, hk, hv, hw => by
    have h0 : tmc (X r) 0 = 0 := rfl
    have h13 := tmc_le (X r) 13
    refine mj_T.pl rfl rfl rfl rfl ?_
    refine mj_T.if0 (a := (((0 : Nat) : Int) - 1)) rfl ⟨by omega, by omega⟩ (fun c1 => ?_) (fun c1 => ?_)
    · simp only [jc, Bool.not_eq_true', Bool.not_eq_false', decide_eq_true_eq, decide_eq_false_iff_not] at c1
      exact hthr (by omega) _
    · exfalso
      simp [jc] at c1
  | k + 1, hk, hv, hw => by
    have h1 := hr k (by omega)
    have h13 := tmc_le (X r) 13
    have hk1 := tmc_le (X r) (k + 1)
    have h9 : t < 0 → tmc (X r) (k + 1) = tmc (X r) 13 := fun q => by rw [hw q]
    have hm1 := tmc_mono (f := X r) (a := k + 1) 13 (by omega)
    rw [show ((k + 1 : Nat) : Int) - 1 = (k : Int) by omega]
    refine mj_T.pl rfl rfl rfl rfl ?_
    refine mj_T.if0 (a := ((k : Nat) : Int)) rfl ⟨by omega, by omega⟩ (fun c1 => ?_) (fun c1 => ?_)
    · exfalso
      simp only [jc, Bool.not_eq_true', Bool.not_eq_false', decide_eq_true_eq, decide_eq_false_iff_not] at c1
      omega
    · simp only [jc, Bool.not_eq_true', Bool.not_eq_false', decide_eq_true_eq, decide_eq_false_iff_not] at c1
      refine mj_T.pl rfl rfl rfl rfl ?_
      refine mj_T.if0 (a := (t - ((tmc (X r) 13 : Int) - (tmc (X r) (k + 1) : Int)))) rfl ⟨by omega, by omega⟩ (fun c2 => ?_) (fun c2 => ?_)
      · simp only [jc, Bool.not_eq_true', Bool.not_eq_false', decide_eq_true_eq, decide_eq_false_iff_not] at c2
        exact hthr (by omega) _
      · simp only [jc, Bool.not_eq_true', Bool.not_eq_false', decide_eq_true_eq, decide_eq_false_iff_not] at c2
        iterate 2 refine mj_T.pl rfl rfl rfl rfl ?_
        refine mT_lald m kr rfl ⟨by omega, by omega⟩ ?_
        refine mj_T.eq (st2 := [.long (jl (X r k))]) ?_ rfl rfl rfl rfl
        refine jT.lc 0 rfl rfl ?_
        refine mj_T.lif (a := (X r k)) (b := ((0 : Nat) : Int)) rfl rfl ⟨by omega, by omega⟩ ⟨by omega, by omega⟩ (fun c3 => ?_) (fun c3 => ?_)
        · simp only [jc, Bool.not_eq_true', Bool.not_eq_false', decide_eq_true_eq, decide_eq_false_iff_not] at c3
          refine mj_T.iinc rfl rfl ?_
          refine mj_T.eq (loc2 := [some (.ref 1), some (.int (jn a)), some (.int (jn t)), some (.ref r), some (.int (jn (t - ((tmc (X r) 13 : Int) - (tmc (X r) (k + 1) : Int))))), some (.int (jn (((k : Nat) : Int) + (-1))))]) ?_ rfl rfl rfl rfl
          refine mj_T.pl rfl rfl rfl rfl ?_
          have e := tmc_z (f := X r) (k := k) (by omega)
          refine mj_T.eq (mX_ex_loop (a := a) m kr hr ht hret hthr k (by omega) (fun q => by have := hv q; omega) (fun q => by omega)) rfl ?_ rfl rfl
          rw [show (t - ((tmc (X r) 13 : Int) - (tmc (X r) (k + 1) : Int))) = (t - ((tmc (X r) 13 : Int) - (tmc (X r) k : Int))) by omega, show (((k : Nat) : Int) + (-1)) = (k : Int) - 1 by omega]
        · simp only [jc, Bool.not_eq_true', Bool.not_eq_false', decide_eq_true_eq, decide_eq_false_iff_not] at c3
          refine mj_T.pl rfl rfl rfl rfl ?_
          refine mj_T.if0 (a := (t - ((tmc (X r) 13 : Int) - (tmc (X r) (k + 1) : Int)))) rfl ⟨by omega, by omega⟩ (fun c4 => ?_) (fun c4 => ?_)
          · simp only [jc, Bool.not_eq_true', Bool.not_eq_false', decide_eq_true_eq, decide_eq_false_iff_not] at c4
            refine mj_T.iinc rfl rfl ?_
            refine mj_T.eq (loc2 := [some (.ref 1), some (.int (jn a)), some (.int (jn t)), some (.ref r), some (.int (jn ((t - ((tmc (X r) 13 : Int) - (tmc (X r) (k + 1) : Int))) + (-1)))), some (.int (jn ((k : Nat) : Int)))]) ?_ rfl rfl rfl rfl
            refine mj_T.iinc rfl rfl ?_
            refine mj_T.eq (loc2 := [some (.ref 1), some (.int (jn a)), some (.int (jn t)), some (.ref r), some (.int (jn ((t - ((tmc (X r) 13 : Int) - (tmc (X r) (k + 1) : Int))) + (-1)))), some (.int (jn (((k : Nat) : Int) + (-1))))]) ?_ rfl rfl rfl rfl
            refine mj_T.pl rfl rfl rfl rfl ?_
            have e := tmc_s (f := X r) (k := k) (by omega)
            refine mj_T.eq (mX_ex_loop (a := a) m kr hr ht hret hthr k (by omega) (fun q => by have := hv q; omega) (fun q => by omega)) rfl ?_ rfl rfl
            rw [show ((t - ((tmc (X r) 13 : Int) - (tmc (X r) (k + 1) : Int))) + (-1)) = (t - ((tmc (X r) 13 : Int) - (tmc (X r) k : Int))) by omega, show (((k : Nat) : Int) + (-1)) = (k : Int) - 1 by omega]
          · simp only [jc, Bool.not_eq_true', Bool.not_eq_false', decide_eq_true_eq, decide_eq_false_iff_not] at c4
            refine mj_T.pl rfl rfl rfl rfl ?_
            exact mj_T.ret rfl rfl rfl (hret k (by omega) (by omega) (by omega))
theorem cv_121 (A : AS N u H) (s : cC N u H h) {a : Int} (ra : -2147483648 ≤ a ∧ a ≤ 2147483647) {t : Int} (rt : -2147483648 ≤ t ∧ t ≤ 2147483647) : mj_Ok 59 121 [.ref 1, .int (jn a), .int (jn t)] h (cA (fun k => 1) (A_exponent N a t)) := by
  obtain ⟨V, X, m, b, d, c, jx⟩ := cS.nr A s
  have jx : rjR X := jx
  refine mj_Ok.of (M := mj_m121) rfl rfl rfl ?_
  iterate 2 refine mj_T.pl rfl rfl rfl rfl ?_
  refine mj_T.call rfl rfl (Nat.le_of_ble_eq_true rfl) (Nat.le_of_ble_eq_true rfl) (mV_of m 19 cq_d1 (by decide) rfl (by decide) rfl _) rfl (mj_Ok.up (by omega) (mC_rowOf (D := 0) m (i := a) (by omega))) (fun v g1 hq => ?_) (fun i g1 hq => ?_)
  rotate_left
  · rcases hq with ⟨_, hq⟩ | ⟨hn, hq⟩
    · cases hq
    · cases hq
      exact Or.inl ⟨rfl, fun z => an.n (fun q => hn q.1)⟩
  rcases hq with ⟨ka, hq⟩ | ⟨_, hq⟩
  rotate_left
  · cases hq
  cases hq
  refine mj_T.eq (pc2 := 5) (st2 := [.ref (4 + a.toNat)]) ?_ rfl rfl rfl rfl
  refine mj_T.pl (loc' := [some (.ref 1), some (.int (jn a)), some (.int (jn t)), some (.ref (4 + a.toNat)), none, none]) rfl rfl rfl rfl ?_
  refine mj_T.pl rfl rfl rfl rfl ?_
  refine mj_T.pl (loc' := [some (.ref 1), some (.int (jn a)), some (.int (jn t)), some (.ref (4 + a.toNat)), some (.int (jn t)), none]) rfl rfl rfl rfl ?_
  refine mj_T.pl rfl rfl rfl rfl ?_
  refine mT_llen m (mK_rt a.toNat (by omega)) rfl ?_
  refine mj_T.pl rfl rfl rfl rfl ?_
  refine mj_T.isub (a := ((13 : Nat) : Int)) (b := 1) rfl ?_
  refine mj_T.pl (loc' := [some (.ref 1), some (.int (jn a)), some (.int (jn t)), some (.ref (4 + a.toNat)), some (.int (jn t)), some (.int (jn (((13 : Nat) : Int) - 1)))]) rfl rfl rfl rfl ?_
  have e13 : (tmc (X (4 + a.toNat)) 13 : Int) = (tmc (rwN N a) 13 : Int) := congrArg (fun x : Nat => (x : Int)) (tmc_cg 13 (c.rw ka))
  refine mj_T.eq (mX_ex_loop (a := a) (r := 4 + a.toNat) (Q := cA (fun k => 1) (A_exponent N a t)) m (mK_rt a.toNat (by omega)) (c.sm A.1 ka) rt (fun e he h1 h2 => ?_) (fun hn loc => ?_) 13 (by omega) (fun q => by omega) (fun _ => rfl)) rfl (by rw [show t - ((tmc (X (4 + a.toNat)) 13 : Int) - (tmc (X (4 + a.toNat)) 13 : Int)) = t by omega]) rfl rfl
  · refine ⟨_, ⟨by omega, by omega⟩, rfl, an.y ⟨ka, ?_, ?_⟩ (an.e ⟨e, rfl, he, ?_, ?_⟩)⟩
    · have := tmc_mono (f := X (4 + a.toNat)) (a := e + 1) 13 (by omega)
      omega
    · have := tmc_s h1
      omega
    · rw [← c.rw ka e he]
      exact h1
    · rw [← e13, ← tmc_cg (e + 1) (fun j hj => c.rw ka j (by omega))]
      exact h2
  · exact mj_T.throws rfl rfl rfl (Nat.le_of_ble_eq_true rfl) (fun z => an.n (fun q => hn ⟨q.2.1, by rw [e13]; exact q.2.2⟩))
end MVR
section JZB
variable {n : Nat} {tm : Int} {h : mj_H} {Φ : SP} {A : Int → Int → Prop}
theorem jz_331 {p1 : Int} {p2 : Int} (w : jLw cK cL cR 571 n tm h) (rp1 : -2147483648 ≤ p1 ∧ p1 ≤ 2147483647) (rp2 : -2147483648 ≤ p2 ∧ p2 ≤ 2147483647) (c : mj_Ok 59 125 [.ref 1, .int (jn p1), .int (jn p2)] h (fun r => yZ Φ r.2 ∧ cA (fun k => 1) A r)) (hb : ∀ z, A 0 z → z = 0 ∨ z = 1) : mj_Ok 60 331 [.ref 1, .int (jn p1), .int (jn p2), .ref 571] h (oA A Φ) := by
  have hg : h.length ≤ n := Nat.le_of_eq w.1.1
  refine mj_Ok.of (M := mj_m331) (loc := [some (.ref 1), some (.int (jn p1)), some (.int (jn p2)), some (.ref 571), none]) rfl rfl rfl ?_
  iterate 5 refine mj_T.pl rfl rfl rfl rfl ?_
  refine mj_T.call rfl rfl (Nat.le_of_ble_eq_true rfl) (Nat.le_of_ble_eq_true rfl) (jrv_of w.1 cK4.1 (by decide) rfl (by decide) rfl _) rfl ((mj_Ok.up (by decide) (jc_125 (D := 0) cTY hg w.1 cK4.1 rp1 rp2)).and c) (fun v h1 hq => ?_) (fun i h1 hq => ?_)
  · obtain ⟨⟨_, o1⟩, y1, z, jz, rfl, az⟩ := hq
    have hz := hb z az
    obtain ⟨_, _, f, hf⟩ := w.thr o1
    refine mj_T.eq (pc2 := 8) (st2 := [.int (jn z), .int (jn 0), .ref 571]) ?_ rfl rfl rfl rfl
    refine jT.if0 rfl ⟨by omega, by omega⟩ (fun q => ?_) (fun q => ?_)
    · simp only [jc, Bool.not_eq_true', Bool.not_eq_false', decide_eq_true_eq, decide_eq_false_iff_not] at q
      obtain rfl : z = 0 := by omega
      refine mj_T.pl rfl rfl rfl rfl ?_
      refine jcx.lastv hf rfl (fun e ce => ?_)
      iterate 2 refine mj_T.pl rfl rfl rfl rfl ?_
      exact mj_T.ret rfl rfl rfl ⟨0, 0, az, ⟨by decide, by decide⟩, rfl, fun _ => ⟨⟨by decide, by decide⟩, ce⟩, yZ.set y1⟩
    · simp only [jc, Bool.not_eq_true', Bool.not_eq_false', decide_eq_true_eq, decide_eq_false_iff_not] at q
      obtain rfl : z = 1 := by omega
      iterate 2 refine mj_T.pl rfl rfl rfl rfl ?_
      refine jcx.lastv hf rfl (fun e ce => ?_)
      iterate 2 refine mj_T.pl rfl rfl rfl rfl ?_
      exact mj_T.ret rfl rfl rfl ⟨0, 1, az, ⟨by decide, by decide⟩, rfl, fun _ => ⟨⟨by decide, by decide⟩, ce⟩, yZ.set y1⟩
  · obtain ⟨⟨hi, o1⟩, y1, y2⟩ := hq
    simp only [List.mem_cons, List.not_mem_nil, or_false] at hi
    · subst hi
      refine Or.inr ⟨4, 22, rfl, (Nat.le_of_ble_eq_true rfl), ?_⟩
      refine mj_T.pl rfl rfl rfl rfl ?_
      exact mj_T.ret rfl rfl rfl ⟨1, 0, y2 0, ⟨by decide, by decide⟩, rfl, fun q => absurd q (by decide), y1⟩
theorem jz_332 {p1 : Int} {p2 : Int} (w : jLw cK cL cR 571 n tm h) (rp1 : -2147483648 ≤ p1 ∧ p1 ≤ 2147483647) (rp2 : -2147483648 ≤ p2 ∧ p2 ≤ 2147483647) (c : mj_Ok 59 126 [.ref 1, .int (jn p1), .int (jn p2)] h (fun r => yZ Φ r.2 ∧ cA (fun k => 1) A r)) (hb : ∀ z, A 0 z → z = 0 ∨ z = 1) : mj_Ok 60 332 [.ref 1, .int (jn p1), .int (jn p2), .ref 571] h (oA A Φ) := by
  have hg : h.length ≤ n := Nat.le_of_eq w.1.1
  refine mj_Ok.of (M := mj_m332) (loc := [some (.ref 1), some (.int (jn p1)), some (.int (jn p2)), some (.ref 571), none]) rfl rfl rfl ?_
  iterate 5 refine mj_T.pl rfl rfl rfl rfl ?_
  refine mj_T.call rfl rfl (Nat.le_of_ble_eq_true rfl) (Nat.le_of_ble_eq_true rfl) (jrv_of w.1 cK4.1 (by decide) rfl (by decide) rfl _) rfl ((mj_Ok.up (by decide) (mj_Ok.to (jc_126 (D := 0) cTY hg w.1 cK4.1 rp1 rp2) (fun _ k => jQp.toQ w.1 k))).and c) (fun v h1 hq => ?_) (fun i h1 hq => ?_)
  · obtain ⟨⟨_, o1⟩, y1, z, jz, rfl, az⟩ := hq
    have hz := hb z az
    obtain ⟨_, _, f, hf⟩ := w.thr o1
    refine mj_T.eq (pc2 := 8) (st2 := [.int (jn z), .int (jn 0), .ref 571]) ?_ rfl rfl rfl rfl
    refine jT.if0 rfl ⟨by omega, by omega⟩ (fun q => ?_) (fun q => ?_)
    · simp only [jc, Bool.not_eq_true', Bool.not_eq_false', decide_eq_true_eq, decide_eq_false_iff_not] at q
      obtain rfl : z = 0 := by omega
      refine mj_T.pl rfl rfl rfl rfl ?_
      refine jcx.lastv hf rfl (fun e ce => ?_)
      iterate 2 refine mj_T.pl rfl rfl rfl rfl ?_
      exact mj_T.ret rfl rfl rfl ⟨0, 0, az, ⟨by decide, by decide⟩, rfl, fun _ => ⟨⟨by decide, by decide⟩, ce⟩, yZ.set y1⟩
    · simp only [jc, Bool.not_eq_true', Bool.not_eq_false', decide_eq_true_eq, decide_eq_false_iff_not] at q
      obtain rfl : z = 1 := by omega
      iterate 2 refine mj_T.pl rfl rfl rfl rfl ?_
      refine jcx.lastv hf rfl (fun e ce => ?_)
      iterate 2 refine mj_T.pl rfl rfl rfl rfl ?_
      exact mj_T.ret rfl rfl rfl ⟨0, 1, az, ⟨by decide, by decide⟩, rfl, fun _ => ⟨⟨by decide, by decide⟩, ce⟩, yZ.set y1⟩
  · obtain ⟨⟨hi, o1⟩, y1, y2⟩ := hq
    simp only [List.mem_cons, List.not_mem_nil, or_false] at hi
    · subst hi
      refine Or.inr ⟨4, 22, rfl, (Nat.le_of_ble_eq_true rfl), ?_⟩
      refine mj_T.pl rfl rfl rfl rfl ?_
      exact mj_T.ret rfl rfl rfl ⟨1, 0, y2 0, ⟨by decide, by decide⟩, rfl, fun q => absurd q (by decide), y1⟩
end JZB
/-! Answers of the calls that only read: the reference. -/
def rIa (A : Int → Int → Prop) (N0 : Nat → Int) (u : Nat) (H : Nat → Nat → Int) (tm er : Int) (T : Nat → Int) (r : mj_R) : Prop := ∃ (c z : Int) (h' : mj_H), A c z ∧ jr z ∧ r = (.inl (some (.int (jn z))), h') ∧ jItx N0 u H c tm er T h'
theorem rIa.za {A : Int → Int → Prop} {N : Nat → Int} {u : Nat} {H : Nat → Nat → Int} {tm er : Int} {T : Nat → Int} {r : mj_R} (k : rIa A N u H tm er T r) : rZa (sameQ N u H) A tm er T r := by
  obtain ⟨c, z, h', a, jz, rfl, I⟩ := k
  exact ⟨c, z, N, u, H, a, jz, rfl, ⟨rfl, rfl, rfl⟩, I⟩
theorem rtm_tmc {N N0 : Nat → Int} (hn : ∀ j, j < 91 → N j = N0 j) {x : Nat} (hx : x ≤ 5) : ∀ k, k ≤ 13 → rtm N x k = tmc (rwN N0 (x : Int)) k
  | 0, _ => rfl
  | k + 1, hk => by
    unfold rtm tmc
    rw [rwN_at hn hx (show k < 13 by omega), rtm_tmc hn hx k (by omega)]
section RAV
variable {h : mj_H} {D : Nat} {S N B T X V : Nat → Int}
theorem ra_tellsWhole {s : Nat} (hl : s < 665) (hs : rS S N B T X V h) : mj_Ok (D + 3) 222 [.ref 0, .int (jn (s : Nat))] h (fun r => ∃ (W : Nat → Int) (h' : mj_H), rS S N B T X W h' ∧ r = (.inl (some (.int (jn (jsg (V s))))), h')) := by
  refine mj_Ok.of (M := mj_m222) rfl rfl rfl ?_
  iterate 3 refine mj_T.pl rfl rfl rfl rfl ?_
  refine mj_T.call (ins := .invokevirtual 84) rfl rfl (Nat.le_of_ble_eq_true rfl) (Nat.le_of_ble_eq_true rfl) (by simp [mj_recv, rS_f hs]) rfl (jS_copies (D := D) (rG S N B T X) (to := 650) (s := s) (by decide) hl hs) (fun v' h1 hq' => ?_) (fun i h' hq' => by obtain ⟨_, _, h⟩ := hq'; cases h)
  obtain ⟨_, hs1, hq'⟩ := hq'
  cases hq'
  iterate 3 refine mj_T.pl rfl rfl rfl rfl ?_
  refine mj_T.call (ins := .invokevirtual 45) rfl rfl (Nat.le_of_ble_eq_true rfl) (Nat.le_of_ble_eq_true rfl) (by simp [mj_recv, rS_f hs1]) rfl (jS_sets (D := D + 1) (rG S N B T X) (s := 651) (v := 1) (by decide) ⟨by decide, by decide⟩ hs1) (fun v' h2 hq' => ?_) (fun i h' hq' => by obtain ⟨_, _, h⟩ := hq'; cases h)
  obtain ⟨_, hs2, hq'⟩ := hq'
  cases hq'
  iterate 2 refine mj_T.pl rfl rfl rfl rfl ?_
  refine mj_T.call (ins := .invokevirtual 68) rfl rfl (Nat.le_of_ble_eq_true rfl) (Nat.le_of_ble_eq_true rfl) (by simp [mj_recv, rS_f hs2]) rfl (jS_sign (D := D + 1) (rG S N B T X) (s := 650) (by decide) hs2) (fun v' h' hq' => ?_) (fun i h' hq' => by cases hq')
  cases hq'
  rw [show jvu (jvu V 650 (V s)) 651 1 650 = V s from (jvu_ne _ _ _ (by decide)).trans (jvu_at _ _ _)]
  exact mj_T.ret rfl rfl rfl ⟨_, h2, hs2, rfl⟩
theorem ra_sm_loop {S N B X V : Nat → Int} {D x y : Nat} (hx : x ≤ 5) (hy : y ≤ 5) (hN : ∀ j, j < 78 → jR (N j)) (hs : rS S N B T X V h) {Q : mj_R → Prop} (q0 : ¬ (∀ j, j < 13 → N (x * 13 + j) = N (y * 13 + j)) → Q (.inl (some (.int (jn 0))), h)) (q1 : (∀ j, j < 13 → N (x * 13 + j) = N (y * 13 + j)) → Q (.inl (some (.int (jn 1))), h)) :
    ∀ (m k : Nat) (b : Int), k + m = 13 → (b = 0 ∨ b = 1) → (b = 1 → ∀ j, j < k → N (x * 13 + j) = N (y * 13 + j)) → (b = 0 → ¬ ∀ j, j < 13 → N (x * 13 + j) = N (y * 13 + j)) → mj_T D mj_m263 5 [some (.ref 0), some (.int (jn (x : Int))), some (.int (jn (y : Int))), some (.int (jn b)), some (.int (jn (k : Int)))] [] h Q := by
  intro m
  induction m with
  | zero =>
    intro k b hk hb h1 h0
    have hk : k = 13 := by omega
    subst hk
    iterate 2 refine mj_T.pl rfl rfl rfl rfl ?_
    refine mj_T.icmp (a := ((13 : Nat) : Int)) (b := 13) rfl ⟨by decide, by decide⟩ ⟨by decide, by decide⟩ (fun hc => ?_) (fun hc => ?_)
    · refine mj_T.pl rfl rfl rfl rfl ?_
      rcases hb with q | q <;> subst q
      · exact mj_T.ret rfl rfl rfl (q0 (h0 rfl))
      · exact mj_T.ret rfl rfl rfl (q1 (h1 rfl))
    · simp [jc] at hc
  | succ m ih =>
    intro k b hk hb h1 h0
    iterate 2 refine mj_T.pl rfl rfl rfl rfl ?_
    refine mj_T.icmp (a := (k : Int)) (b := 13) rfl ⟨by omega, by omega⟩ ⟨by decide, by decide⟩ (fun hc => ?_) (fun hc => ?_)
    · simp only [jc, decide_eq_true_eq] at hc
      omega
    have t49 : ∀ b2 : Int, (b2 = 0 ∨ b2 = 1) → (b2 = 1 → ∀ j, j < k + 1 → N (x * 13 + j) = N (y * 13 + j)) → (b2 = 0 → ¬ ∀ j, j < 13 → N (x * 13 + j) = N (y * 13 + j)) → mj_T D mj_m263 49 [some (.ref 0), some (.int (jn (x : Int))), some (.int (jn (y : Int))), some (.int (jn b)), some (.int (jn (k : Int)))] [.int (jn b2)] h Q := fun b2 hb2 g1 g0 => by
      refine mj_T.pl rfl rfl rfl rfl ?_
      refine mj_T.iinc (a := (k : Int)) rfl rfl ?_
      refine mj_T.pl rfl rfl rfl rfl ?_
      exact ih (k + 1) b2 (by omega) hb2 g1 g0
    refine mj_T.pl rfl rfl rfl rfl ?_
    refine mj_T.if0 (a := b) rfl ⟨by omega, by omega⟩ (fun hc2 => ?_) (fun hc2 => ?_)
    · refine mj_T.pl rfl rfl rfl rfl ?_
      exact t49 0 (Or.inl rfl) (fun e => absurd e (by decide)) (fun _ => h0 (by simp only [jc, Bool.not_eq_true', Bool.not_eq_false', decide_eq_true_eq, decide_eq_false_iff_not] at hc2; exact hc2))
    refine mj_T.pl rfl rfl rfl rfl ?_
    refine rT_get hs rfl rfl ?_
    iterate 2 refine mj_T.pl rfl rfl rfl rfl ?_
    refine mj_T.imul (a := (x : Int)) (b := 13) rfl ?_
    refine mj_T.pl rfl rfl rfl rfl ?_
    refine mj_T.iadd rfl ?_
    rw [show (x : Int) * 13 + (k : Int) = ((x * 13 + k : Nat) : Int) by omega]
    refine rT_ldN hs rfl ⟨by omega, by omega⟩ ?_
    rw [Int.toNat_natCast]
    refine mj_T.pl rfl rfl rfl rfl ?_
    refine rT_get hs rfl rfl ?_
    iterate 2 refine mj_T.pl rfl rfl rfl rfl ?_
    refine mj_T.imul (a := (y : Int)) (b := 13) rfl ?_
    refine mj_T.pl rfl rfl rfl rfl ?_
    refine mj_T.iadd rfl ?_
    rw [show (y : Int) * 13 + (k : Int) = ((y * 13 + k : Nat) : Int) by omega]
    refine rT_ldN hs rfl ⟨by omega, by omega⟩ ?_
    rw [Int.toNat_natCast]
    refine mj_T.lif (a := N (x * 13 + k)) (b := N (y * 13 + k)) rfl rfl (hN _ (by omega)) (hN _ (by omega)) (fun hc3 => ?_) (fun hc3 => ?_)
    · refine mj_T.pl rfl rfl rfl rfl ?_
      exact t49 0 (Or.inl rfl) (fun e => absurd e (by decide)) (fun _ q => by have q1 := q k (by omega); simp only [jc, Bool.not_eq_true', Bool.not_eq_false', decide_eq_true_eq, decide_eq_false_iff_not] at hc3; exact hc3 q1)
    · iterate 2 refine mj_T.pl rfl rfl rfl rfl ?_
      exact t49 1 (Or.inr rfl) (fun _ j hj => by
        simp only [jc, Bool.not_eq_true', Bool.not_eq_false', decide_eq_true_eq, decide_eq_false_iff_not] at hc2 hc3
        by_cases q : j = k
        · rw [q]
          exact hc3
        · exact h1 (hb.resolve_left hc2) j (by omega)) (fun e => absurd e (by decide))
theorem ra_isSame {x y : Nat} (hx : x ≤ 5) (hy : y ≤ 5) (hN : ∀ j, j < 78 → jR (N j)) (hs : rS S N B T X V h) : mj_Ok (D + 1) 263 [.ref 0, .int (jn (x : Int)), .int (jn (y : Int))] h (fun r => (¬ (∀ j, j < 13 → N (x * 13 + j) = N (y * 13 + j)) ∧ r = (.inl (some (.int (jn 0))), h)) ∨ ((∀ j, j < 13 → N (x * 13 + j) = N (y * 13 + j)) ∧ r = (.inl (some (.int (jn 1))), h))) := by
  refine mj_Ok.of (M := mj_m263) rfl rfl rfl ?_
  iterate 4 refine mj_T.pl rfl rfl rfl rfl ?_
  exact ra_sm_loop (D := D) hx hy hN hs (fun q => Or.inl ⟨q, rfl⟩) (fun q => Or.inr ⟨q, rfl⟩) 13 0 1 (by omega) (Or.inr rfl) (fun _ j hj => absurd hj (by omega)) (fun e => absurd e (by decide))
theorem ra_ex_in {S N B X V : Nat → Int} {D a m R0 : Nat} {t0 : Int} (ha : a ≤ 5) (hN : ∀ j, j < 78 → jR (N j)) (hs : rS S N B T X V h) {Q : mj_R → Prop} (hout : ∀ k, k ≤ 12 → N (a * 13 + k) ≠ 0 → rtm N a (k + 1) = R0 → mj_T D mj_m256 71 [some (.ref 0), some (.int (jn (a : Int))), some (.int (jn (t0 : Int))), some (.int (jn ((k : Int)))), some (.int (jn ((m : Int))))] [] h Q) :
    ∀ k, k ≤ 12 → m + 1 ≤ rtm N a (k + 1) → rtm N a (k + 1) = R0 → mj_T D mj_m256 49 [some (.ref 0), some (.int (jn (a : Int))), some (.int (jn (t0 : Int))), some (.int (jn ((k : Int)))), some (.int (jn ((m : Int))))] [] h Q := by
  intro k
  induction k with
  | zero =>
    intro hk hr hR
    refine mj_T.pl rfl rfl rfl rfl ?_
    refine rT_get hs rfl rfl ?_
    iterate 2 refine mj_T.pl rfl rfl rfl rfl ?_
    refine mj_T.imul (a := (a : Int)) (b := 13) rfl ?_
    refine mj_T.pl rfl rfl rfl rfl ?_
    refine mj_T.iadd rfl ?_
    rw [show (a : Int) * 13 + ((0 : Nat) : Int) = ((a * 13 + 0 : Nat) : Int) by omega]
    refine rT_ldN hs rfl ⟨by omega, by omega⟩ ?_
    rw [Int.toNat_natCast]
    refine mj_T.pl rfl rfl rfl rfl ?_
    refine mj_T.lif (a := N (a * 13 + 0)) (b := 0) rfl rfl (hN _ (by omega)) ⟨by decide, by decide⟩ (fun hc2 => ?_) (fun hc2 => ?_)
    · simp only [jc, Bool.not_eq_true', decide_eq_false_iff_not] at hc2
      exact hout 0 (by omega) hc2 hR
    · simp only [jc, Bool.not_eq_false', decide_eq_true_eq] at hc2
      rw [show rtm N a (0 + 1) = rtm N a 0 from if_pos hc2] at hr
      have : rtm N a 0 = 0 := rfl
      omega
  | succ k ih =>
    intro hk hr hR
    refine mj_T.pl rfl rfl rfl rfl ?_
    refine rT_get hs rfl rfl ?_
    iterate 2 refine mj_T.pl rfl rfl rfl rfl ?_
    refine mj_T.imul (a := (a : Int)) (b := 13) rfl ?_
    refine mj_T.pl rfl rfl rfl rfl ?_
    refine mj_T.iadd rfl ?_
    rw [show (a : Int) * 13 + ((k + 1 : Nat) : Int) = ((a * 13 + (k + 1) : Nat) : Int) by omega]
    refine rT_ldN hs rfl ⟨by omega, by omega⟩ ?_
    rw [Int.toNat_natCast]
    refine mj_T.pl rfl rfl rfl rfl ?_
    refine mj_T.lif (a := N (a * 13 + (k + 1))) (b := 0) rfl rfl (hN _ (by omega)) ⟨by decide, by decide⟩ (fun hc2 => ?_) (fun hc2 => ?_)
    · simp only [jc, Bool.not_eq_true', decide_eq_false_iff_not] at hc2
      exact hout (k + 1) (by omega) hc2 hR
    · simp only [jc, Bool.not_eq_false', decide_eq_true_eq] at hc2
      rw [show rtm N a (k + 1 + 1) = rtm N a (k + 1) from if_pos hc2] at hr hR
      refine mj_T.iinc (a := ((k + 1 : Nat) : Int)) rfl rfl ?_
      refine mj_T.pl rfl rfl rfl rfl ?_
      rw [show ((k + 1 : Nat) : Int) + -1 = (k : Int) by omega]
      exact ih (by omega) hr hR
theorem ra_ex_out {S N B X V : Nat → Int} {D a c : Nat} {t0 : Int} (ha : a ≤ 5) (hN : ∀ j, j < 78 → jR (N j)) (hs : rS S N B T X V h) {Q : mj_R → Prop} (hend : ∀ k : Nat, k ≤ 12 → N (a * 13 + k) ≠ 0 → rtm N a k = c → Q (.inl (some (.int (jn (k : Int)))), h)) :
    ∀ (m k : Nat), k ≤ 13 → rtm N a k = c + m → (m = 0 → k ≤ 12 ∧ N (a * 13 + k) ≠ 0) → mj_T D mj_m256 41 [some (.ref 0), some (.int (jn (a : Int))), some (.int (jn (t0 : Int))), some (.int (jn ((k : Int)))), some (.int (jn ((m : Int) - 1)))] [] h Q := by
  intro m
  induction m with
  | zero =>
    intro k hk hr hz
    refine mj_T.pl rfl rfl rfl rfl ?_
    refine mj_T.if0 (a := ((0 : Nat) : Int) - 1) rfl ⟨by decide, by decide⟩ (fun hc => ?_) (fun hc => ?_)
    · refine mj_T.pl rfl rfl rfl rfl ?_
      exact mj_T.ret rfl rfl rfl (hend k (hz rfl).1 (hz rfl).2 hr)
    · simp [jc] at hc
  | succ m ih =>
    intro k hk hr hz
    refine mj_T.pl rfl rfl rfl rfl ?_
    refine mj_T.if0 (a := ((m + 1 : Nat) : Int) - 1) rfl ⟨by have := rtm_le N a k; omega, by have := rtm_le N a k; omega⟩ (fun hc => ?_) (fun hc => ?_)
    · simp only [jc, decide_eq_true_eq] at hc
      omega
    have hk1 := rtm_le N a k
    obtain ⟨k, rfl⟩ : ∃ k2, k = k2 + 1 := ⟨k - 1, by omega⟩
    rw [show ((m + 1 : Nat) : Int) - 1 = (m : Int) by omega]
    refine mj_T.iinc (a := ((k + 1 : Nat) : Int)) rfl rfl ?_
    rw [show ((k + 1 : Nat) : Int) + -1 = (k : Int) by omega]
    refine ra_ex_in (D := D) (m := m) (t0 := t0) (R0 := c + (m + 1)) ha hN hs (fun k2 hk2 hne hR2 => ?_) k (by omega) (by omega) hr
    refine mj_T.iinc (a := (m : Int)) rfl rfl ?_
    refine mj_T.pl rfl rfl rfl rfl ?_
    exact ih k2 (by omega) (by have e : rtm N a (k2 + 1) = rtm N a k2 + 1 := if_neg hne; omega) (fun _ => ⟨hk2, hne⟩)
end RAV
section RAW
variable {h : mj_H} {tm er : Int} {T : Nat → Int} {N0 : Nat → Int} {u0 : Nat} {H : Nat → Nat → Int}
theorem ra_degree {x : Int} (hx : jr x) (hI : jIx N0 u0 H tm er T h) : mj_Ok 40 253 [.ref 0, .int (jn x)] h (rIa (A_degree N0 x) N0 u0 H tm er T) := by
  refine mj_Ok.of (M := mj_m253) rfl rfl rfl ?_
  obtain ⟨S, N, B, X, V, hs, K⟩ := hI
  iterate 2 refine mj_T.pl rfl rfl rfl rfl ?_
  refine rT_put (v := 0) hs rfl rfl (by decide) rfl (fun g8 hs8 => ?_)
  have K8 := K.put (k := 3) (v := 0) ⟨by decide, by decide⟩ (by decide) (by decide) (by decide) (by decide) (by decide)
  have e8 : jvu S 3 0 3 = 0 := jvu_at S 3 0
  generalize jvu S 3 0 = S8 at hs8 K8 e8
  refine mj_T.pl rfl rfl rfl rfl ?_
  refine mj_T.call (ins := .invokestatic 181) rfl rfl (Nat.le_of_ble_eq_true rfl) (Nat.le_of_ble_eq_true rfl) rfl rfl (mj_Ok.up (by decide) (rp_isRegister (D := 0) hx)) (fun v' h' hq' => ?_) (fun i h' hq' => by rcases hq' with ⟨_, _, h⟩ | ⟨_, h⟩ <;> cases h)
  rcases hq' with ⟨x1, x2, hq'⟩ | ⟨cn, hq'⟩
  case' inr =>
    cases hq'
    refine mj_T.if0 (a := 0) rfl ⟨by decide, by decide⟩ (fun hc => ?_) (fun hc => ?_)
    rotate_left
    · simp [jc] at hc
    iterate 2 refine mj_T.pl rfl rfl rfl rfl ?_
    refine mj_T.call (ins := .invokevirtual 198) rfl rfl (Nat.le_of_ble_eq_true rfl) (Nat.le_of_ble_eq_true rfl) (by simp [mj_recv, rS_f hs8]) rfl (mj_Ok.up (by decide) (rp_fails (D := 0) (c := 1) hs8)) (fun v' g9 hq' => ?_) (fun i h' hq' => by obtain ⟨_, _, h⟩ := hq'; cases h)
    obtain ⟨_, hs9, hq'⟩ := hq'
    cases hq'
    exact mj_T.ret rfl rfl rfl ⟨1, 0, g9, an.n (by omega), ⟨by decide, by decide⟩, rfl, ⟨_, N, B, X, V, hs9, K8.put ⟨by decide, by decide⟩ (by decide) (by decide) (by decide) (by decide) (by decide), jvu_at _ _ _⟩⟩
  cases hq'
  refine mj_T.if0 (a := 1) rfl ⟨by decide, by decide⟩ (fun hc => ?_) (fun hc => ?_)
  · simp [jc] at hc
  obtain ⟨x, rfl⟩ := Int.eq_ofNat_of_zero_le x1
  have hd := jdg_le N x 13
  iterate 2 refine mj_T.pl rfl rfl rfl rfl ?_
  refine mj_T.call (ins := .invokevirtual 185) rfl rfl (Nat.le_of_ble_eq_true rfl) (Nat.le_of_ble_eq_true rfl) (by simp [mj_recv, rS_f hs8]) rfl (mj_Ok.up (by decide) (rp_degreeIn (D := 0) (r := x) (by omega) K8.nR hs8)) (fun v' h' hq' => ?_) (fun i h' hq' => by cases hq')
  cases hq'
  refine mj_T.pl rfl rfl rfl rfl ?_
  exact mj_T.ret rfl rfl rfl ⟨0, _, g8, an.y ⟨by omega, by omega⟩ (an.e (by rw [← fdg_jdg N x 13]; exact dgF.of (fun e he => rwN_at K8.2.1 (by omega) he))), ⟨by omega, by omega⟩, rfl, ⟨S8, N, B, X, V, hs8, K8, e8⟩⟩
theorem ra_terms {x : Int} (hx : jr x) (hI : jIx N0 u0 H tm er T h) : mj_Ok 40 255 [.ref 0, .int (jn x)] h (rIa (A_terms N0 x) N0 u0 H tm er T) := by
  refine mj_Ok.of (M := mj_m255) rfl rfl rfl ?_
  obtain ⟨S, N, B, X, V, hs, K⟩ := hI
  iterate 2 refine mj_T.pl rfl rfl rfl rfl ?_
  refine rT_put (v := 0) hs rfl rfl (by decide) rfl (fun g10 hs10 => ?_)
  have K10 := K.put (k := 3) (v := 0) ⟨by decide, by decide⟩ (by decide) (by decide) (by decide) (by decide) (by decide)
  have e10 : jvu S 3 0 3 = 0 := jvu_at S 3 0
  generalize jvu S 3 0 = S10 at hs10 K10 e10
  refine mj_T.pl rfl rfl rfl rfl ?_
  refine mj_T.call (ins := .invokestatic 181) rfl rfl (Nat.le_of_ble_eq_true rfl) (Nat.le_of_ble_eq_true rfl) rfl rfl (mj_Ok.up (by decide) (rp_isRegister (D := 0) hx)) (fun v' h' hq' => ?_) (fun i h' hq' => by rcases hq' with ⟨_, _, h⟩ | ⟨_, h⟩ <;> cases h)
  rcases hq' with ⟨x1, x2, hq'⟩ | ⟨cn, hq'⟩
  case' inr =>
    cases hq'
    refine mj_T.if0 (a := 0) rfl ⟨by decide, by decide⟩ (fun hc => ?_) (fun hc => ?_)
    rotate_left
    · simp [jc] at hc
    iterate 2 refine mj_T.pl rfl rfl rfl rfl ?_
    refine mj_T.call (ins := .invokevirtual 198) rfl rfl (Nat.le_of_ble_eq_true rfl) (Nat.le_of_ble_eq_true rfl) (by simp [mj_recv, rS_f hs10]) rfl (mj_Ok.up (by decide) (rp_fails (D := 0) (c := 1) hs10)) (fun v' g11 hq' => ?_) (fun i h' hq' => by obtain ⟨_, _, h⟩ := hq'; cases h)
    obtain ⟨_, hs11, hq'⟩ := hq'
    cases hq'
    exact mj_T.ret rfl rfl rfl ⟨1, 0, g11, an.n (by omega), ⟨by decide, by decide⟩, rfl, ⟨_, N, B, X, V, hs11, K10.put ⟨by decide, by decide⟩ (by decide) (by decide) (by decide) (by decide) (by decide), jvu_at _ _ _⟩⟩
  cases hq'
  refine mj_T.if0 (a := 1) rfl ⟨by decide, by decide⟩ (fun hc => ?_) (fun hc => ?_)
  · simp [jc] at hc
  obtain ⟨x, rfl⟩ := Int.eq_ofNat_of_zero_le x1
  have hd := rtm_le N x 13
  iterate 2 refine mj_T.pl rfl rfl rfl rfl ?_
  refine mj_T.call (ins := .invokevirtual 292) rfl rfl (Nat.le_of_ble_eq_true rfl) (Nat.le_of_ble_eq_true rfl) (by simp [mj_recv, rS_f hs10]) rfl (mj_Ok.up (by decide) (rp_termsOf (D := 0) (r := x) (by omega) K10.nR hs10)) (fun v' h' hq' => ?_) (fun i h' hq' => by cases hq')
  cases hq'
  refine mj_T.pl rfl rfl rfl rfl ?_
  exact mj_T.ret rfl rfl rfl ⟨0, _, g10, an.y ⟨by omega, by omega⟩ (an.e (congrArg (fun q : Nat => (q : Int)) (rtm_tmc K10.2.1 (by omega) 13 (Nat.le_refl 13)))), ⟨by omega, by omega⟩, rfl, ⟨S10, N, B, X, V, hs10, K10, e10⟩⟩
theorem ra_coefficient {x y : Int} (hx : jr x) (hy : jr y) (hI : jIx N0 u0 H tm er T h) : mj_Ok 40 257 [.ref 0, .int (jn x), .int (jn y)] h (rIa (A_coefficient N0 x y) N0 u0 H tm er T) := by
  refine mj_Ok.of (M := mj_m257) rfl rfl rfl ?_
  obtain ⟨S, N, B, X, V, hs, K⟩ := hI
  iterate 2 refine mj_T.pl rfl rfl rfl rfl ?_
  refine rT_put (v := 0) hs rfl rfl (by decide) rfl (fun g12 hs12 => ?_)
  have K12 := K.put (k := 3) (v := 0) ⟨by decide, by decide⟩ (by decide) (by decide) (by decide) (by decide) (by decide)
  have e12 : jvu S 3 0 3 = 0 := jvu_at S 3 0
  generalize jvu S 3 0 = S12 at hs12 K12 e12
  refine mj_T.pl rfl rfl rfl rfl ?_
  refine mj_T.call (ins := .invokestatic 181) rfl rfl (Nat.le_of_ble_eq_true rfl) (Nat.le_of_ble_eq_true rfl) rfl rfl (mj_Ok.up (by decide) (rp_isRegister (D := 0) hx)) (fun v' h' hq' => ?_) (fun i h' hq' => by rcases hq' with ⟨_, _, h⟩ | ⟨_, h⟩ <;> cases h)
  rcases hq' with ⟨x1, x2, hq'⟩ | ⟨cn, hq'⟩
  case' inr =>
    cases hq'
    refine mj_T.if0 (a := 0) rfl ⟨by decide, by decide⟩ (fun hc => ?_) (fun hc => ?_)
    · simp [jc] at hc
    iterate 2 refine mj_T.pl rfl rfl rfl rfl ?_
    refine mj_T.call (ins := .invokevirtual 198) rfl rfl (Nat.le_of_ble_eq_true rfl) (Nat.le_of_ble_eq_true rfl) (by simp [mj_recv, rS_f hs12]) rfl (mj_Ok.up (by decide) (rp_fails (D := 0) (c := 1) hs12)) (fun v' g13 hq' => ?_) (fun i h' hq' => by obtain ⟨_, _, h⟩ := hq'; cases h)
    obtain ⟨_, hs13, hq'⟩ := hq'
    cases hq'
    exact mj_T.ret rfl rfl rfl ⟨1, 0, g13, an.n (by omega), ⟨by decide, by decide⟩, rfl, ⟨_, N, B, X, V, hs13, K12.put ⟨by decide, by decide⟩ (by decide) (by decide) (by decide) (by decide) (by decide), jvu_at _ _ _⟩⟩
  cases hq'
  refine mj_T.if0 (a := 1) rfl ⟨by decide, by decide⟩ (fun hc => ?_) (fun hc => ?_)
  rotate_left
  · simp [jc] at hc
  obtain ⟨x, rfl⟩ := Int.eq_ofNat_of_zero_le x1
  refine mj_T.pl rfl rfl rfl rfl ?_
  refine mj_T.i2l rfl hy ?_
  iterate 2 refine mj_T.pl rfl rfl rfl rfl ?_
  refine mj_T.call (ins := .invokestatic 177) rfl rfl (Nat.le_of_ble_eq_true rfl) (Nat.le_of_ble_eq_true rfl) rfl rfl (mj_Ok.up (by decide) (rp_in (D := 0) (v := y) (lo := 0) (hi := 12) ⟨by have := hy.1; omega, by have := hy.2; omega⟩ ⟨by decide, by decide⟩ ⟨by decide, by decide⟩)) (fun v' h' hq' => ?_) (fun i h' hq' => by rcases hq' with ⟨_, _, h⟩ | ⟨_, h⟩ <;> cases h)
  rcases hq' with ⟨r14a, r14b, hq'⟩ | ⟨cn, hq'⟩
  case' inr =>
    cases hq'
    refine mj_T.if0 (a := 0) rfl ⟨by decide, by decide⟩ (fun hc => ?_) (fun hc => ?_)
    · simp [jc] at hc
    iterate 2 refine mj_T.pl rfl rfl rfl rfl ?_
    refine mj_T.call (ins := .invokevirtual 198) rfl rfl (Nat.le_of_ble_eq_true rfl) (Nat.le_of_ble_eq_true rfl) (by simp [mj_recv, rS_f hs12]) rfl (mj_Ok.up (by decide) (rp_fails (D := 0) (c := 2) hs12)) (fun v' g15 hq' => ?_) (fun i h' hq' => by obtain ⟨_, _, h⟩ := hq'; cases h)
    obtain ⟨_, hs15, hq'⟩ := hq'
    cases hq'
    exact mj_T.ret rfl rfl rfl ⟨2, 0, g15, an.y ⟨by omega, by omega⟩ (an.n (by omega)), ⟨by decide, by decide⟩, rfl, ⟨_, N, B, X, V, hs15, K12.put ⟨by decide, by decide⟩ (by decide) (by decide) (by decide) (by decide) (by decide), jvu_at _ _ _⟩⟩
  cases hq'
  refine mj_T.if0 (a := 1) rfl ⟨by decide, by decide⟩ (fun hc => ?_) (fun hc => ?_)
  rotate_left
  · simp [jc] at hc
  obtain ⟨y, rfl⟩ := Int.eq_ofNat_of_zero_le r14a
  iterate 2 refine mj_T.pl rfl rfl rfl rfl ?_
  refine mj_T.pl rfl rfl rfl rfl ?_
  refine rT_get hs12 rfl rfl ?_
  iterate 2 refine mj_T.pl rfl rfl rfl rfl ?_
  refine mj_T.imul (a := (x : Int)) (b := 13) rfl ?_
  refine mj_T.pl rfl rfl rfl rfl ?_
  refine mj_T.iadd rfl ?_
  rw [show (x : Int) * 13 + (y : Int) = ((x * 13 + y : Nat) : Int) by omega]
  refine rT_ldN hs12 rfl ⟨by omega, by omega⟩ ?_
  rw [Int.toNat_natCast]
  refine mj_T.call (ins := .invokevirtual 45) rfl rfl (Nat.le_of_ble_eq_true rfl) (Nat.le_of_ble_eq_true rfl) (by simp [mj_recv, rS_f hs12]) rfl (mj_Ok.up (by decide) (jS_sets (D := 0) (rG S12 N B T X) (s := 652) (v := N (x * 13 + y)) (by decide) (K12.nR _ (by omega)) hs12)) (fun v' g16 hq' => ?_) (fun i h' hq' => by obtain ⟨_, _, h⟩ := hq'; cases h)
  obtain ⟨_, hs16, hq'⟩ := hq'
  cases hq'
  iterate 2 refine mj_T.pl rfl rfl rfl rfl ?_
  refine mj_T.call (ins := .invokevirtual 295) rfl rfl (Nat.le_of_ble_eq_true rfl) (Nat.le_of_ble_eq_true rfl) (by simp [mj_recv, rS_f hs16]) rfl (mj_Ok.up (by decide) (ra_tellsWhole (D := 0) (s := 652) (by decide) hs16)) (fun v' g17 hq' => ?_) (fun i h' hq' => by obtain ⟨_, _, _, h⟩ := hq'; cases h)
  obtain ⟨W17, _, hs17, hq'⟩ := hq'
  cases hq'
  rw [jvu_at]
  have hj := jsg_range (N (x * 13 + y))
  exact mj_T.ret rfl rfl rfl ⟨0, _, g17, an.y ⟨by omega, by omega⟩ (an.y ⟨by omega, by omega⟩ (an.e (by rw [Int.toNat_natCast, ← rwN_at K12.2.1 (r := x) (e := y) (by omega) (by omega)]))), ⟨by omega, by omega⟩, rfl, ⟨S12, N, B, X, W17, hs17, K12, e12⟩⟩
theorem ra_content {x : Int} (hx : jr x) (hI : jIx N0 u0 H tm er T h) : mj_Ok 40 258 [.ref 0, .int (jn x)] h (rIa (A_content N0 x) N0 u0 H tm er T) := by
  refine mj_Ok.of (M := mj_m258) rfl rfl rfl ?_
  obtain ⟨S, N, B, X, V, hs, K⟩ := hI
  iterate 2 refine mj_T.pl rfl rfl rfl rfl ?_
  refine rT_put (v := 0) hs rfl rfl (by decide) rfl (fun g18 hs18 => ?_)
  have K18 := K.put (k := 3) (v := 0) ⟨by decide, by decide⟩ (by decide) (by decide) (by decide) (by decide) (by decide)
  have e18 : jvu S 3 0 3 = 0 := jvu_at S 3 0
  generalize jvu S 3 0 = S18 at hs18 K18 e18
  refine mj_T.pl rfl rfl rfl rfl ?_
  refine mj_T.call (ins := .invokestatic 181) rfl rfl (Nat.le_of_ble_eq_true rfl) (Nat.le_of_ble_eq_true rfl) rfl rfl (mj_Ok.up (by decide) (rp_isRegister (D := 0) hx)) (fun v' h' hq' => ?_) (fun i h' hq' => by rcases hq' with ⟨_, _, h⟩ | ⟨_, h⟩ <;> cases h)
  rcases hq' with ⟨x1, x2, hq'⟩ | ⟨cn, hq'⟩
  case' inr =>
    cases hq'
    refine mj_T.if0 (a := 0) rfl ⟨by decide, by decide⟩ (fun hc => ?_) (fun hc => ?_)
    · simp [jc] at hc
    iterate 2 refine mj_T.pl rfl rfl rfl rfl ?_
    refine mj_T.call (ins := .invokevirtual 198) rfl rfl (Nat.le_of_ble_eq_true rfl) (Nat.le_of_ble_eq_true rfl) (by simp [mj_recv, rS_f hs18]) rfl (mj_Ok.up (by decide) (rp_fails (D := 0) (c := 1) hs18)) (fun v' g19 hq' => ?_) (fun i h' hq' => by obtain ⟨_, _, h⟩ := hq'; cases h)
    obtain ⟨_, hs19, hq'⟩ := hq'
    cases hq'
    exact mj_T.ret rfl rfl rfl ⟨1, 0, g19, an.n (by omega), ⟨by decide, by decide⟩, rfl, ⟨_, N, B, X, V, hs19, K18.put ⟨by decide, by decide⟩ (by decide) (by decide) (by decide) (by decide) (by decide), jvu_at _ _ _⟩⟩
  cases hq'
  refine mj_T.if0 (a := 1) rfl ⟨by decide, by decide⟩ (fun hc => ?_) (fun hc => ?_)
  rotate_left
  · simp [jc] at hc
  obtain ⟨x, rfl⟩ := Int.eq_ofNat_of_zero_le x1
  iterate 3 refine mj_T.pl rfl rfl rfl rfl ?_
  refine mj_T.call (ins := .invokevirtual 213) rfl rfl (Nat.le_of_ble_eq_true rfl) (Nat.le_of_ble_eq_true rfl) (by simp [mj_recv, rS_f hs18]) rfl (mj_Ok.up (by decide) (rp_loads (D := 0) (p := 0) (r := x) (by decide) (by omega) K18.nR hs18)) (fun v' g20 hq' => ?_) (fun i h' hq' => by obtain ⟨_, _, h⟩ := hq'; cases h)
  obtain ⟨_, hs20, hq'⟩ := hq'
  cases hq'
  have a20 : ∀ e, e < 13 → jfl V 0 (fun e => N (x * 13 + e)) 13 (0 * 13 + e) = N (x * 13 + e) := fun e he => jfl_at _ _ _ he
  have b20 : ∀ s, (s < 0 * 13 ∨ 0 * 13 + 13 ≤ s) → jfl V 0 (fun e => N (x * 13 + e)) 13 s = V s := fun s hc => jfl_off _ _ _ hc
  generalize jfl V 0 (fun e => N (x * 13 + e)) 13 = W20 at hs20 a20 b20
  iterate 3 refine mj_T.pl rfl rfl rfl rfl ?_
  refine mj_T.call (ins := .invokevirtual 130) rfl rfl (Nat.le_of_ble_eq_true rfl) (Nat.le_of_ble_eq_true rfl) (by simp [mj_recv, rS_f hs20]) rfl (mj_Ok.up (by decide) (jp_contents (D := 0) (rG S18 N B T X) (to := 661) (p := 0) (by decide) (by decide) (by decide) (by decide) (by decide) (by decide) (by decide) hs20)) (fun v' g21 hq' => ?_) (fun i h' hq' => by obtain ⟨_, _, _, _, _, h⟩ := hq'; cases h)
  obtain ⟨W21, _, hs21, p1, _, hq'⟩ := hq'
  cases hq'
  iterate 2 refine mj_T.pl rfl rfl rfl rfl ?_
  refine mj_T.call (ins := .invokevirtual 295) rfl rfl (Nat.le_of_ble_eq_true rfl) (Nat.le_of_ble_eq_true rfl) (by simp [mj_recv, rS_f hs21]) rfl (mj_Ok.up (by decide) (ra_tellsWhole (D := 0) (s := 661) (by decide) hs21)) (fun v' g22 hq' => ?_) (fun i h' hq' => by obtain ⟨_, _, _, h⟩ := hq'; cases h)
  obtain ⟨W22, _, hs22, hq'⟩ := hq'
  cases hq'
  rw [p1, jgk_cgd (f := rwN N0 (x : Int)) (fun e he => (a20 e he).trans (rwN_at K18.2.1 (by omega) he))]
  have hj := jsg_range ((cgd (rwN N0 (x : Int)) 13 : Nat) : Int)
  exact mj_T.ret rfl rfl rfl ⟨0, _, g22, an.y ⟨by omega, by omega⟩ (an.e rfl), ⟨by omega, by omega⟩, rfl, ⟨S18, N, B, X, W22, hs22, K18, e18⟩⟩
theorem ra_areSame {x y : Int} (hx : jr x) (hy : jr y) (hI : jIx N0 u0 H tm er T h) : mj_Ok 40 264 [.ref 0, .int (jn x), .int (jn y)] h (rIa (A_areSame N0 x y) N0 u0 H tm er T) := by
  refine mj_Ok.of (M := mj_m264) rfl rfl rfl ?_
  obtain ⟨S, N, B, X, V, hs, K⟩ := hI
  have t19 : ¬ rg2 x y → mj_T 39 mj_m264 19 [some (.ref 0), some (.int (jn x)), some (.int (jn y))] [.ref 0] h (rIa (A_areSame N0 x y) N0 u0 H tm er T) := by
    intro hno
    refine mj_T.pl rfl rfl rfl rfl ?_
    refine rT_put (v := 1) hs rfl rfl (by decide) rfl (fun g1 hs1 => ?_)
    refine mj_T.pl rfl rfl rfl rfl ?_
    refine rT_get (v := .int (jn 1)) hs1 rfl (by rw [← jvu_at S 3 1]; rfl) ?_
    refine mj_T.if0 (a := 1) rfl ⟨by decide, by decide⟩ (fun hc => ?_) (fun hc => ?_)
    rotate_left
    · simp [jc] at hc
    refine mj_T.pl rfl rfl rfl rfl ?_
    exact mj_T.ret rfl rfl rfl ⟨1, 0, g1, an.n hno, ⟨by decide, by decide⟩, rfl, ⟨_, N, B, X, V, hs1, K.put ⟨by decide, by decide⟩ (by decide) (by decide) (by decide) (by decide) (by decide), jvu_at _ _ _⟩⟩
  refine mj_T.pl rfl rfl rfl rfl ?_
  refine mj_T.pl rfl rfl rfl rfl ?_
  refine mj_T.call (ins := .invokestatic 181) rfl rfl (Nat.le_of_ble_eq_true rfl) (Nat.le_of_ble_eq_true rfl) rfl rfl (mj_Ok.up (by decide) (rp_isRegister (D := 0) hx)) (fun v' h' hq' => ?_) (fun i h' hq' => by rcases hq' with ⟨_, _, h⟩ | ⟨_, h⟩ <;> cases h)
  rcases hq' with ⟨x1, x2, hq'⟩ | ⟨cn, hq'⟩
  case' inr =>
    cases hq'
    refine mj_T.if0 (a := 0) rfl ⟨by decide, by decide⟩ (fun hc => ?_) (fun hc => ?_)
    · exact t19 (fun q => by have q1 := q.1; have q2 := q.2; omega)
    · simp [jc] at hc
  cases hq'
  refine mj_T.if0 (a := 1) rfl ⟨by decide, by decide⟩ (fun hc => ?_) (fun hc => ?_)
  · simp [jc] at hc
  refine mj_T.pl rfl rfl rfl rfl ?_
  refine mj_T.call (ins := .invokestatic 181) rfl rfl (Nat.le_of_ble_eq_true rfl) (Nat.le_of_ble_eq_true rfl) rfl rfl (mj_Ok.up (by decide) (rp_isRegister (D := 0) hy)) (fun v' h' hq' => ?_) (fun i h' hq' => by rcases hq' with ⟨_, _, h⟩ | ⟨_, h⟩ <;> cases h)
  rcases hq' with ⟨y1, y2, hq'⟩ | ⟨cn, hq'⟩
  case' inr =>
    cases hq'
    refine mj_T.if0 (a := 0) rfl ⟨by decide, by decide⟩ (fun hc => ?_) (fun hc => ?_)
    · exact t19 (fun q => by have q1 := q.1; have q2 := q.2; omega)
    · simp [jc] at hc
  cases hq'
  refine mj_T.if0 (a := 1) rfl ⟨by decide, by decide⟩ (fun hc => ?_) (fun hc => ?_)
  · simp [jc] at hc
  clear t19
  iterate 2 refine mj_T.pl rfl rfl rfl rfl ?_
  refine rT_put (v := 0) hs rfl rfl (by decide) rfl (fun g1 hs1 => ?_)
  have K1 := K.put (k := 3) (v := 0) ⟨by decide, by decide⟩ (by decide) (by decide) (by decide) (by decide) (by decide)
  refine mj_T.pl rfl rfl rfl rfl ?_
  refine rT_get (v := .int (jn 0)) hs1 rfl (by rw [← jvu_at S 3 0]; rfl) ?_
  have e1 : jvu S 3 0 3 = 0 := jvu_at S 3 0
  generalize jvu S 3 0 = S1 at hs1 K1 e1
  refine mj_T.if0 (a := 0) rfl ⟨by decide, by decide⟩ (fun hc => ?_) (fun hc => ?_)
  · simp [jc] at hc
  obtain ⟨x, rfl⟩ := Int.eq_ofNat_of_zero_le x1
  obtain ⟨y, rfl⟩ := Int.eq_ofNat_of_zero_le y1
  iterate 3 refine mj_T.pl rfl rfl rfl rfl ?_
  refine mj_T.call (ins := .invokevirtual 311) rfl rfl (Nat.le_of_ble_eq_true rfl) (Nat.le_of_ble_eq_true rfl) (by simp [mj_recv, rS_f hs1]) rfl (mj_Ok.up (by decide) (ra_isSame (D := 0) (x := x) (y := y) (by omega) (by omega) K1.nR hs1)) (fun v' h' hq' => ?_) (fun i h' hq' => by rcases hq' with ⟨_, h⟩ | ⟨_, h⟩ <;> cases h)
  rcases hq' with ⟨hsm, hq'⟩ | ⟨hsm, hq'⟩
  · cases hq'
    refine mj_T.if0 (a := 0) rfl ⟨by decide, by decide⟩ (fun hc => ?_) (fun hc => ?_)
    rotate_left
    · simp [jc] at hc
    refine mj_T.pl rfl rfl rfl rfl ?_
    exact mj_T.ret rfl rfl rfl ⟨0, 0, _, an.y ⟨⟨by omega, by omega⟩, ⟨by omega, by omega⟩⟩ (an.e (Or.inr ⟨rfl, fun q => hsm (fun j hj => (rwN_at K1.2.1 (r := x) (by omega) hj).trans ((q j hj).trans (rwN_at K1.2.1 (r := y) (by omega) hj).symm))⟩)), ⟨by decide, by decide⟩, rfl, ⟨_, _, _, _, _, hs1, K1, e1⟩⟩
  · cases hq'
    refine mj_T.if0 (a := 1) rfl ⟨by decide, by decide⟩ (fun hc => ?_) (fun hc => ?_)
    · simp [jc] at hc
    iterate 2 refine mj_T.pl rfl rfl rfl rfl ?_
    exact mj_T.ret rfl rfl rfl ⟨0, 1, _, an.y ⟨⟨by omega, by omega⟩, ⟨by omega, by omega⟩⟩ (an.e (Or.inl ⟨rfl, fun j hj => (rwN_at K1.2.1 (r := x) (by omega) hj).symm.trans ((hsm j hj).trans (rwN_at K1.2.1 (r := y) (by omega) hj))⟩)), ⟨by decide, by decide⟩, rfl, ⟨_, _, _, _, _, hs1, K1, e1⟩⟩
theorem ra_exponent {x y : Int} (hx : jr x) (hy : jr y) (hI : jIx N0 u0 H tm er T h) : mj_Ok 40 256 [.ref 0, .int (jn x), .int (jn y)] h (rIa (A_exponent N0 x y) N0 u0 H tm er T) := by
  refine mj_Ok.of (M := mj_m256) rfl rfl rfl ?_
  obtain ⟨S, N, B, X, V, hs, K⟩ := hI
  iterate 2 refine mj_T.pl rfl rfl rfl rfl ?_
  refine rT_put (v := 0) hs rfl rfl (by decide) rfl (fun g1 hs1 => ?_)
  have K1 := K.put (k := 3) (v := 0) ⟨by decide, by decide⟩ (by decide) (by decide) (by decide) (by decide) (by decide)
  have e1 : jvu S 3 0 3 = 0 := jvu_at S 3 0
  generalize jvu S 3 0 = S1 at hs1 K1 e1
  have t29 : ¬ ((0 ≤ x ∧ x ≤ 5) ∧ 0 ≤ y ∧ y < (tmc (rwN N0 x) 13 : Int)) → mj_T 39 mj_m256 29 [some (.ref 0), some (.int (jn x)), some (.int (jn y)), none, none] [] g1 (rIa (A_exponent N0 x y) N0 u0 H tm er T) := by
    intro hno
    iterate 2 refine mj_T.pl rfl rfl rfl rfl ?_
    refine mj_T.call (ins := .invokevirtual 198) rfl rfl (Nat.le_of_ble_eq_true rfl) (Nat.le_of_ble_eq_true rfl) (by simp [mj_recv, rS_f hs1]) rfl (mj_Ok.up (by decide) (rp_fails (D := 0) (c := 1) hs1)) (fun v' g2 hq' => ?_) (fun i h' hq' => by obtain ⟨_, _, h⟩ := hq'; cases h)
    obtain ⟨_, hs2, hq'⟩ := hq'
    cases hq'
    exact mj_T.ret rfl rfl rfl ⟨1, 0, g2, an.n hno, ⟨by decide, by decide⟩, rfl, ⟨_, N, B, X, V, hs2, K1.put ⟨by decide, by decide⟩ (by decide) (by decide) (by decide) (by decide) (by decide), jvu_at _ _ _⟩⟩
  refine mj_T.pl rfl rfl rfl rfl ?_
  refine mj_T.call (ins := .invokestatic 181) rfl rfl (Nat.le_of_ble_eq_true rfl) (Nat.le_of_ble_eq_true rfl) rfl rfl (mj_Ok.up (by decide) (rp_isRegister (D := 0) hx)) (fun v' h' hq' => ?_) (fun i h' hq' => by rcases hq' with ⟨_, _, h⟩ | ⟨_, h⟩ <;> cases h)
  rcases hq' with ⟨x1, x2, hq'⟩ | ⟨cn, hq'⟩
  case' inr =>
    cases hq'
    refine mj_T.if0 (a := 0) rfl ⟨by decide, by decide⟩ (fun hc => ?_) (fun hc => ?_)
    · exact t29 (fun q => by have q1 := q.1; omega)
    · simp [jc] at hc
  cases hq'
  refine mj_T.if0 (a := 1) rfl ⟨by decide, by decide⟩ (fun hc => ?_) (fun hc => ?_)
  · simp [jc] at hc
  obtain ⟨x, rfl⟩ := Int.eq_ofNat_of_zero_le x1
  have hrt := rtm_le N x 13
  have hrm := rtm_tmc K1.2.1 (x := x) (by omega)
  have h13 : (tmc (rwN N0 (x : Int)) 13 : Int) = (rtm N x 13 : Int) := congrArg (fun q : Nat => (q : Int)) (hrm 13 (Nat.le_refl 13)).symm
  refine mj_T.pl rfl rfl rfl rfl ?_
  refine mj_T.i2l rfl hy ?_
  iterate 3 refine mj_T.pl rfl rfl rfl rfl ?_
  refine mj_T.call (ins := .invokevirtual 292) rfl rfl (Nat.le_of_ble_eq_true rfl) (Nat.le_of_ble_eq_true rfl) (by simp [mj_recv, rS_f hs1]) rfl (mj_Ok.up (by decide) (rp_termsOf (D := 0) (r := x) (by omega) K1.nR hs1)) (fun v' h' hq' => ?_) (fun i h' hq' => by cases hq')
  cases hq'
  refine mj_T.pl rfl rfl rfl rfl ?_
  refine mj_T.isub (a := ((rtm N x 13 : Nat) : Int)) (b := 1) rfl ?_
  refine mj_T.i2l rfl ⟨by omega, by omega⟩ ?_
  refine mj_T.call (ins := .invokestatic 177) rfl rfl (Nat.le_of_ble_eq_true rfl) (Nat.le_of_ble_eq_true rfl) rfl rfl (mj_Ok.up (by decide) (rp_in (D := 0) (v := y) (lo := 0) (hi := ((rtm N x 13 : Nat) : Int) - 1) ⟨by have := hy.1; omega, by have := hy.2; omega⟩ ⟨by decide, by decide⟩ ⟨by omega, by omega⟩)) (fun v' h' hq' => ?_) (fun i h' hq' => by rcases hq' with ⟨_, _, h⟩ | ⟨_, h⟩ <;> cases h)
  rcases hq' with ⟨y1, y2, hq'⟩ | ⟨cn, hq'⟩
  case' inr =>
    cases hq'
    refine mj_T.if0 (a := 0) rfl ⟨by decide, by decide⟩ (fun hc => ?_) (fun hc => ?_)
    · simp [jc] at hc
    · exact t29 (fun q => by have q2 := q.2; omega)
  cases hq'
  refine mj_T.if0 (a := 1) rfl ⟨by decide, by decide⟩ (fun hc => ?_) (fun hc => ?_)
  rotate_left
  · simp [jc] at hc
  obtain ⟨y, rfl⟩ := Int.eq_ofNat_of_zero_le y1
  iterate 4 refine mj_T.pl rfl rfl rfl rfl ?_
  have fin := ra_ex_out (D := 39) (a := x) (c := rtm N x 13 - (y + 1)) (t0 := (y : Int)) (by omega) K1.nR hs1 (Q := rIa (A_exponent N0 (x : Int) (y : Int)) N0 u0 H tm er T) (fun k hk hne hc => ⟨0, (k : Int), _, an.y ⟨⟨by omega, by omega⟩, by omega, by omega⟩ (an.e ⟨k, rfl, by omega, by rw [← rwN_at K1.2.1 (r := x) (e := k) (by omega) (by omega)]; exact hne, by
    have e1 : rtm N x (k + 1) = rtm N x k + 1 := if_neg hne
    have e2 := hrm (k + 1) (by omega)
    omega⟩), ⟨by omega, by omega⟩, rfl, ⟨_, _, _, _, _, hs1, K1, e1⟩⟩) (y + 1) 13 (by omega) (by omega) (fun q => absurd q (by omega))
  rw [show ((y + 1 : Nat) : Int) - 1 = (y : Int) by omega] at fin
  exact fin
end RAW
section RAG
variable {h : mj_H} {u : Nat} {N : Nat → Int} {H : Nat → Nat → Int} {tm er : Int} {T : Nat → Int}
theorem ga_degree {x : Int} (jx : jr x) (I : jIx N u H tm er T h) : mj_Ok 60 253 [.ref 0, .int (jn x)] h (rZa (sameQ N u H) (A_degree N x) tm er T) := (mj_Ok.up (by decide) (ra_degree jx I)).to (fun r k => k.za)
theorem ga_terms {x : Int} (jx : jr x) (I : jIx N u H tm er T h) : mj_Ok 60 255 [.ref 0, .int (jn x)] h (rZa (sameQ N u H) (A_terms N x) tm er T) := (mj_Ok.up (by decide) (ra_terms jx I)).to (fun r k => k.za)
theorem ga_exponent {x : Int} (jx : jr x) {y : Int} (jy : jr y) (I : jIx N u H tm er T h) : mj_Ok 60 256 [.ref 0, .int (jn x), .int (jn y)] h (rZa (sameQ N u H) (A_exponent N x y) tm er T) := (mj_Ok.up (by decide) (ra_exponent jx jy I)).to (fun r k => k.za)
theorem ga_coefficient {x : Int} (jx : jr x) {y : Int} (jy : jr y) (I : jIx N u H tm er T h) : mj_Ok 60 257 [.ref 0, .int (jn x), .int (jn y)] h (rZa (sameQ N u H) (A_coefficient N x y) tm er T) := (mj_Ok.up (by decide) (ra_coefficient jx jy I)).to (fun r k => k.za)
theorem ga_content {x : Int} (jx : jr x) (I : jIx N u H tm er T h) : mj_Ok 60 258 [.ref 0, .int (jn x)] h (rZa (sameQ N u H) (A_content N x) tm er T) := (mj_Ok.up (by decide) (ra_content jx I)).to (fun r k => k.za)
theorem ga_areSame {x : Int} (jx : jr x) {y : Int} (jy : jr y) (I : jIx N u H tm er T h) : mj_Ok 60 264 [.ref 0, .int (jn x), .int (jn y)] h (rZa (sameQ N u H) (A_areSame N x y) tm er T) := (mj_Ok.up (by decide) (ra_areSame jx jy I)).to (fun r k => k.za)
end RAG
/-! rootsBy, rootBy: answers on both sides. -/
theorem A_areSame.b {N : Nat → Int} {a b z : Int} (p : A_areSame N a b 0 z) : z = 0 ∨ z = 1 := by
  rcases p with ⟨_, e⟩ | ⟨_, _, ⟨e, _⟩ | ⟨e, _⟩⟩
  · exact absurd (show (0 : Int) = 1 from e) (by decide)
  · exact Or.inr e
  · exact Or.inl e
/-- Horner's rule by p, m coefficients to come -/
def hrv (f : Nat → Int) (x p : Int) : Nat → Int → Int
  | 0, v => v
  | m + 1, v => hrv f x p m ((v * x + f m % p) % p)
theorem hrv_cg {f f' : Nat → Int} {x p : Int} : ∀ m v, (∀ j, j < m → f' j = f j) → hrv f' x p m v = hrv f x p m v
  | 0, _, _ => rfl
  | m + 1, v, h => by
    unfold hrv
    rw [h m (by omega)]
    exact hrv_cg m _ (fun j hj => h j (by omega))
/-- how many of the first are roots by p -/
def rbc (f : Nat → Int) (p : Int) : Nat → Nat
  | 0 => 0
  | k + 1 => if hrv f (k : Int) p 13 0 = 0 then rbc f p k + 1 else rbc f p k
theorem rbc_s {f : Nat → Int} {p : Int} {k : Nat} (h : hrv f (k : Int) p 13 0 = 0) : rbc f p (k + 1) = rbc f p k + 1 := if_pos h
theorem rbc_z {f : Nat → Int} {p : Int} {k : Nat} (h : hrv f (k : Int) p 13 0 ≠ 0) : rbc f p (k + 1) = rbc f p k := if_neg h
theorem rbc_le (f : Nat → Int) (p : Int) : ∀ k, rbc f p k ≤ k
  | 0 => Nat.le_refl 0
  | k + 1 => by
    have := rbc_le f p k
    by_cases q : hrv f (k : Int) p 13 0 = 0
    · rw [rbc_s q]
      omega
    · rw [rbc_z q]
      omega
theorem rbc_cg {f f' : Nat → Int} {p : Int} (h : ∀ j, j < 13 → f' j = f j) : ∀ k, rbc f' p k = rbc f p k
  | 0 => rfl
  | k + 1 => by
    unfold rbc
    rw [hrv_cg 13 0 h, rbc_cg h k]
def rtF (f : Nat → Int) (p z : Int) : Prop := ∃ x : Nat, z = (x : Int) ∧ (x : Int) < p ∧ hrv f (x : Int) p 13 0 = 0 ∧ ∀ y : Nat, y < x → hrv f (y : Int) p 13 0 ≠ 0
theorem rtF.one {f : Nat → Int} {p : Int} (z1 z2 : Int) (a : rtF f p z1) (b : rtF f p z2) : z1 = z2 := by
  obtain ⟨x1, a1, a2, a3, a4⟩ := a
  obtain ⟨x2, b1, b2, b3, b4⟩ := b
  rcases Nat.lt_trichotomy x1 x2 with c | c | c
  · exact absurd a3 (b4 x1 c)
  · omega
  · exact absurd b3 (a4 x2 c)
abbrev A_rootsBy (N : Nat → Int) (a p : Int) : Int → Int → Prop := an [(0 ≤ a ∧ a ≤ 5, 1), (prm p, 2)] (fun z => z = ((rbc (rwN N a) p p.toNat : Nat) : Int))
abbrev A_rootBy (N : Nat → Int) (a p : Int) : Int → Int → Prop := an [(0 ≤ a ∧ a ≤ 5, 1), (prm p, 2), (∃ x : Nat, (x : Int) < p ∧ hrv (rwN N a) (x : Int) p 13 0 = 0, 3)] (rtF (rwN N a) p)
section ARB
variable {N : Nat → Int} {c1 z1 c2 z2 : Int}
theorem A_rootsBy.ag {a p : Int} (x : A_rootsBy N a p c1 z1) (y : A_rootsBy N a p c2 z2) : c1 = c2 ∧ (c1 = 0 → z1 = z2) := an.ag (fun _ _ a b => a.trans b.symm) (by simp) x y
theorem A_rootBy.ag {a p : Int} (x : A_rootBy N a p c1 z1) (y : A_rootBy N a p c2 z2) : c1 = c2 ∧ (c1 = 0 → z1 = z2) := an.ag rtF.one (by simp) x y
end ARB
section MVB
variable {g h : mj_H} {n D u r : Nat} {V : Nat → Int} {X : Nat → Nat → Int} {N : Nat → Int} {H : Nat → Nat → Int}
theorem mS_by_loop (hm : jM g n V X h) (kr : cK r = 2) (hr : sml (X r)) {x p c : Int} (hx : 0 ≤ x ∧ x < p) (hp : 2 ≤ p ∧ p ≤ 97) {Q : mj_R → Prop} (hend : Q (.inl (some (.int (jn c))), h)) : ∀ (m : Nat) (v : Int), m ≤ 13 → 0 ≤ v → v < p → hrv (X r) x p m v = c → mj_T (D + 1) mj_m173 8 [some (.ref r), some (.int (jn x)), some (.int (jn p)), some (.int (jn v)), some (.int (jn ((m : Int) - 1)))] [] h Q
  | 0, v, _, v0, v1, hh => by
    refine mj_T.pl rfl rfl rfl rfl ?_
    refine mj_T.if0 (a := (((0 : Nat) : Int) - 1)) rfl ⟨by decide, by decide⟩ (fun c1 => ?_) (fun c1 => ?_)
    · simp only [jc, Bool.not_eq_true', Bool.not_eq_false', decide_eq_true_eq, decide_eq_false_iff_not] at c1
      refine mj_T.pl rfl rfl rfl rfl ?_
      have hh : v = c := hh
      subst hh
      exact mj_T.ret rfl rfl rfl hend
    · exfalso
      simp [jc] at c1
  | m + 1, v, hm13, v0, v1, hh => by
    have h1 := hr m (by omega)
    have hb : 0 ≤ v * x ∧ v * x ≤ 97 * 97 := ⟨Int.mul_nonneg v0 hx.1, Int.mul_le_mul (by omega) (by omega) (by omega) (by decide)⟩
    rw [show ((m + 1 : Nat) : Int) - 1 = (m : Int) by omega]
    refine mj_T.pl rfl rfl rfl rfl ?_
    refine mj_T.if0 (a := ((m : Nat) : Int)) rfl ⟨by omega, by omega⟩ (fun c1 => ?_) (fun c1 => ?_)
    · exfalso
      simp only [jc, Bool.not_eq_true', Bool.not_eq_false', decide_eq_true_eq, decide_eq_false_iff_not] at c1
      omega
    · simp only [jc, Bool.not_eq_true', Bool.not_eq_false', decide_eq_true_eq, decide_eq_false_iff_not] at c1
      refine mj_T.pl rfl rfl rfl rfl ?_
      refine mj_T.i2l rfl ⟨by omega, by omega⟩ ?_
      refine mj_T.pl rfl rfl rfl rfl ?_
      refine mj_T.i2l rfl ⟨by omega, by omega⟩ ?_
      refine mj_T.lmul (a := v) (b := x) rfl ?_
      iterate 2 refine mj_T.pl rfl rfl rfl rfl ?_
      refine mT_lald hm kr rfl ⟨by omega, by omega⟩ ?_
      refine mj_T.eq (st2 := [.long (jl (X r m)), .long (jl (v * x))]) ?_ rfl rfl rfl rfl
      refine mj_T.pl rfl rfl rfl rfl ?_
      refine mj_T.call rfl rfl (Nat.le_of_ble_eq_true rfl) (Nat.le_of_ble_eq_true rfl) rfl rfl (mj_Ok.up (by omega) (mS_res (D := 0) (v := (X r m)) (p := p) ⟨by omega, by omega⟩ (by omega) (by omega))) (fun v g2 hq => ?_) (fun i g2 hq => ?_)
      rotate_left
      · cases hq
      cases hq
      have q23 := Int.emod_nonneg (X r m) (show p ≠ 0 by omega)
      have s23 := Int.emod_lt_of_pos (X r m) (show (0 : Int) < p by omega)
      refine mj_T.eq (pc2 := 26) (st2 := [.int (jn ((X r m) % p)), .long (jl (v * x))]) ?_ rfl rfl rfl rfl
      refine mj_T.i2l rfl ⟨by omega, by omega⟩ ?_
      refine mj_T.ladd (a := (v * x)) (b := ((X r m) % p)) rfl ?_
      refine mj_T.pl rfl rfl rfl rfl ?_
      have hb2 : 0 ≤ v * x ∧ v * x ≤ 97 * 97 := hb
      refine mj_T.call rfl rfl (Nat.le_of_ble_eq_true rfl) (Nat.le_of_ble_eq_true rfl) rfl rfl (mj_Ok.up (by omega) (mS_res (D := 0) (v := ((v * x) + ((X r m) % p))) (p := p) ⟨by omega, by omega⟩ (by omega) (by omega))) (fun v g3 hq => ?_) (fun i g3 hq => ?_)
      rotate_left
      · cases hq
      cases hq
      have q29 := Int.emod_nonneg ((v * x) + ((X r m) % p)) (show p ≠ 0 by omega)
      have s29 := Int.emod_lt_of_pos ((v * x) + ((X r m) % p)) (show (0 : Int) < p by omega)
      refine mj_T.eq (pc2 := 32) (st2 := [.int (jn (((v * x) + ((X r m) % p)) % p))]) ?_ rfl rfl rfl rfl
      refine mj_T.pl (loc' := [some (.ref r), some (.int (jn x)), some (.int (jn p)), some (.int (jn (((v * x) + ((X r m) % p)) % p))), some (.int (jn ((m : Nat) : Int)))]) rfl rfl rfl rfl ?_
      refine mj_T.iinc rfl rfl ?_
      refine mj_T.eq (loc2 := [some (.ref r), some (.int (jn x)), some (.int (jn p)), some (.int (jn (((v * x) + ((X r m) % p)) % p))), some (.int (jn (((m : Nat) : Int) + (-1))))]) ?_ rfl rfl rfl rfl
      refine mj_T.pl rfl rfl rfl rfl ?_
      refine mj_T.eq (mS_by_loop hm kr hr hx hp hend m _ (by omega) q29 s29 hh) rfl ?_ rfl rfl
      rw [show (((m : Nat) : Int) + (-1)) = (m : Int) - 1 by omega]
theorem mS_by (hm : jM g n V X h) (kr : cK r = 2) (hr : sml (X r)) {x p : Int} (hx : 0 ≤ x ∧ x < p) (hp : 2 ≤ p ∧ p ≤ 97) : mj_Ok (D + 2) 173 [.ref r, .int (jn x), .int (jn p)] h (fun z => z = (.inl (some (.int (jn (hrv (X r) x p 13 0)))), h)) := by
  refine mj_Ok.of (M := mj_m173) rfl rfl rfl ?_
  iterate 3 refine mj_T.pl rfl rfl rfl rfl ?_
  refine mT_llen hm kr rfl ?_
  refine mj_T.pl rfl rfl rfl rfl ?_
  refine mj_T.isub (a := ((13 : Nat) : Int)) (b := 1) rfl ?_
  refine mj_T.pl (loc' := [some (.ref r), some (.int (jn x)), some (.int (jn p)), some (.int (jn 0)), some (.int (jn (((13 : Nat) : Int) - 1)))]) rfl rfl rfl rfl ?_
  exact mS_by_loop (Q := fun z => z = (.inl (some (.int (jn (hrv (X r) x p 13 0)))), h)) hm kr hr hx hp rfl 13 0 (by omega) (by decide) (by omega) rfl
theorem hrv_bd (f : Nat → Int) {x p : Int} (hp : 2 ≤ p) : ∀ m v, 0 ≤ v → v < p → 0 ≤ hrv f x p m v ∧ hrv f x p m v < p
  | 0, v, h0, h1 => ⟨h0, h1⟩
  | m + 1, v, _, _ => hrv_bd f hp m _ (Int.emod_nonneg _ (by omega)) (Int.emod_lt_of_pos _ (by omega))
theorem mS_rsb_loop (m : jM g n V X h) (kr : cK r = 2) (hr : sml (X r)) {a p : Int} (hp : 2 ≤ p ∧ p ≤ 97) {Q : mj_R → Prop} (hend : Q (.inl (some (.int (jn ((rbc (X r) p p.toNat : Nat) : Int)))), h)) : ∀ d k : Nat, (k : Int) + d = p → mj_T (D + 2) mj_m138 16 [some (.ref 1), some (.int (jn a)), some (.int (jn p)), some (.ref r), some (.int (jn ((rbc (X r) p k : Nat) : Int))), some (.int (jn (k : Int)))] [] h Q
  | 0, k, hk => by
    iterate 2 refine mj_T.pl rfl rfl rfl rfl ?_
    refine mj_T.icmp (a := ((k : Nat) : Int)) (b := p) rfl ⟨by omega, by omega⟩ ⟨by omega, by omega⟩ (fun c1 => ?_) (fun c1 => ?_)
    · simp only [jc, Bool.not_eq_true', Bool.not_eq_false', decide_eq_true_eq, decide_eq_false_iff_not] at c1
      refine mj_T.pl rfl rfl rfl rfl ?_
      obtain rfl : k = p.toNat := by omega
      exact mj_T.ret rfl rfl rfl hend
    · exfalso
      simp only [jc, Bool.not_eq_true', Bool.not_eq_false', decide_eq_true_eq, decide_eq_false_iff_not] at c1
      omega
  | d + 1, k, hk => by
    iterate 2 refine mj_T.pl rfl rfl rfl rfl ?_
    refine mj_T.icmp (a := ((k : Nat) : Int)) (b := p) rfl ⟨by omega, by omega⟩ ⟨by omega, by omega⟩ (fun c1 => ?_) (fun c1 => ?_)
    · exfalso
      simp only [jc, Bool.not_eq_true', Bool.not_eq_false', decide_eq_true_eq, decide_eq_false_iff_not] at c1
      omega
    · simp only [jc, Bool.not_eq_true', Bool.not_eq_false', decide_eq_true_eq, decide_eq_false_iff_not] at c1
      iterate 3 refine mj_T.pl rfl rfl rfl rfl ?_
      refine mj_T.call rfl rfl (Nat.le_of_ble_eq_true rfl) (Nat.le_of_ble_eq_true rfl) rfl rfl (mj_Ok.up (by omega) (mS_by (D := 0) (x := ((k : Nat) : Int)) (p := p) m kr hr ⟨by omega, by omega⟩ ⟨by omega, by omega⟩)) (fun v g2 hq => ?_) (fun i g2 hq => ?_)
      rotate_left
      · cases hq
      cases hq
      have hbd := hrv_bd (X r) (x := ((k : Nat) : Int)) (p := p) (by omega) 13 0 (by decide) (by omega)
      refine mj_T.eq (pc2 := 29) (st2 := [.int (jn (hrv (X r) ((k : Nat) : Int) p 13 0))]) ?_ rfl rfl rfl rfl
      refine mj_T.if0 (a := (hrv (X r) ((k : Nat) : Int) p 13 0)) rfl ⟨by omega, by omega⟩ (fun c3 => ?_) (fun c3 => ?_)
      · simp only [jc, Bool.not_eq_true', Bool.not_eq_false', decide_eq_true_eq, decide_eq_false_iff_not] at c3
        refine mj_T.iinc rfl rfl ?_
        rw [show ((k : Nat) : Int) + 1 = ((k + 1 : Nat) : Int) by omega]
        refine mj_T.eq (loc2 := [some (.ref 1), some (.int (jn a)), some (.int (jn p)), some (.ref r), some (.int (jn ((rbc (X r) p k : Nat) : Int))), some (.int (jn (((k + 1) : Nat) : Int)))]) ?_ rfl rfl rfl rfl
        refine mj_T.pl rfl rfl rfl rfl ?_
        have e := rbc_z (f := X r) (p := p) (k := k) (by omega)
        rw [← e]
        exact mS_rsb_loop m kr hr hp hend d (k + 1) (by omega)
      · simp only [jc, Bool.not_eq_true', Bool.not_eq_false', decide_eq_true_eq, decide_eq_false_iff_not] at c3
        refine mj_T.iinc rfl rfl ?_
        rw [show ((rbc (X r) p k : Nat) : Int) + 1 = ((rbc (X r) p k + 1 : Nat) : Int) by omega]
        refine mj_T.eq (loc2 := [some (.ref 1), some (.int (jn a)), some (.int (jn p)), some (.ref r), some (.int (jn (((rbc (X r) p k + 1) : Nat) : Int))), some (.int (jn ((k : Nat) : Int)))]) ?_ rfl rfl rfl rfl
        refine mj_T.iinc rfl rfl ?_
        rw [show ((k : Nat) : Int) + 1 = ((k + 1 : Nat) : Int) by omega]
        refine mj_T.eq (loc2 := [some (.ref 1), some (.int (jn a)), some (.int (jn p)), some (.ref r), some (.int (jn (((rbc (X r) p k + 1) : Nat) : Int))), some (.int (jn (((k + 1) : Nat) : Int)))]) ?_ rfl rfl rfl rfl
        refine mj_T.pl rfl rfl rfl rfl ?_
        have e := rbc_s (f := X r) (p := p) (k := k) (by omega)
        rw [← e]
        exact mS_rsb_loop m kr hr hp hend d (k + 1) (by omega)
theorem mS_rtb_loop (m : jM g n V X h) (kr : cK r = 2) (hr : sml (X r)) {a p : Int} (hp : 2 ≤ p ∧ p ≤ 97) {Q : mj_R → Prop} (hret : ∀ k : Nat, (k : Int) < p → hrv (X r) (k : Int) p 13 0 = 0 → (∀ y : Nat, y < k → hrv (X r) (y : Int) p 13 0 ≠ 0) → Q (.inl (some (.int (jn (k : Int)))), h)) (hthr : (∀ y : Nat, (y : Int) < p → hrv (X r) (y : Int) p 13 0 ≠ 0) → ∀ loc, mj_T (D + 2) mj_m139 38 loc [] h Q) : ∀ d k : Nat, (k : Int) + d = p → (∀ y : Nat, y < k → hrv (X r) (y : Int) p 13 0 ≠ 0) → mj_T (D + 2) mj_m139 13 [some (.ref 1), some (.int (jn a)), some (.int (jn p)), some (.ref r), some (.int (jn (k : Int)))] [] h Q
  | 0, k, hk, hn => by
    iterate 2 refine mj_T.pl rfl rfl rfl rfl ?_
    refine mj_T.icmp (a := ((k : Nat) : Int)) (b := p) rfl ⟨by omega, by omega⟩ ⟨by omega, by omega⟩ (fun c1 => ?_) (fun c1 => ?_)
    · simp only [jc, Bool.not_eq_true', Bool.not_eq_false', decide_eq_true_eq, decide_eq_false_iff_not] at c1
      exact hthr (fun y hy => hn y (by omega)) _
    · exfalso
      simp only [jc, Bool.not_eq_true', Bool.not_eq_false', decide_eq_true_eq, decide_eq_false_iff_not] at c1
      omega
  | d + 1, k, hk, hn => by
    iterate 2 refine mj_T.pl rfl rfl rfl rfl ?_
    refine mj_T.icmp (a := ((k : Nat) : Int)) (b := p) rfl ⟨by omega, by omega⟩ ⟨by omega, by omega⟩ (fun c1 => ?_) (fun c1 => ?_)
    · exfalso
      simp only [jc, Bool.not_eq_true', Bool.not_eq_false', decide_eq_true_eq, decide_eq_false_iff_not] at c1
      omega
    · simp only [jc, Bool.not_eq_true', Bool.not_eq_false', decide_eq_true_eq, decide_eq_false_iff_not] at c1
      iterate 3 refine mj_T.pl rfl rfl rfl rfl ?_
      refine mj_T.call rfl rfl (Nat.le_of_ble_eq_true rfl) (Nat.le_of_ble_eq_true rfl) rfl rfl (mj_Ok.up (by omega) (mS_by (D := 0) (x := ((k : Nat) : Int)) (p := p) m kr hr ⟨by omega, by omega⟩ ⟨by omega, by omega⟩)) (fun v g2 hq => ?_) (fun i g2 hq => ?_)
      rotate_left
      · cases hq
      cases hq
      have hbd := hrv_bd (X r) (x := ((k : Nat) : Int)) (p := p) (by omega) 13 0 (by decide) (by omega)
      refine mj_T.eq (pc2 := 26) (st2 := [.int (jn (hrv (X r) ((k : Nat) : Int) p 13 0))]) ?_ rfl rfl rfl rfl
      refine mj_T.if0 (a := (hrv (X r) ((k : Nat) : Int) p 13 0)) rfl ⟨by omega, by omega⟩ (fun c3 => ?_) (fun c3 => ?_)
      · simp only [jc, Bool.not_eq_true', Bool.not_eq_false', decide_eq_true_eq, decide_eq_false_iff_not] at c3
        refine mj_T.iinc rfl rfl ?_
        rw [show ((k : Nat) : Int) + 1 = ((k + 1 : Nat) : Int) by omega]
        refine mj_T.eq (loc2 := [some (.ref 1), some (.int (jn a)), some (.int (jn p)), some (.ref r), some (.int (jn (((k + 1) : Nat) : Int)))]) ?_ rfl rfl rfl rfl
        refine mj_T.pl rfl rfl rfl rfl ?_
        exact mS_rtb_loop m kr hr hp hret hthr d (k + 1) (by omega) (fun y hy => by
          by_cases e : y = k
          · rw [e]
            omega
          · exact hn y (by omega))
      · simp only [jc, Bool.not_eq_true', Bool.not_eq_false', decide_eq_true_eq, decide_eq_false_iff_not] at c3
        refine mj_T.pl rfl rfl rfl rfl ?_
        exact mj_T.ret rfl rfl rfl (hret k (by omega) (by omega) hn)
theorem cv_138 (A : AS N u H) (s : cC N u H h) {a : Int} (ra : -2147483648 ≤ a ∧ a ≤ 2147483647) {p : Int} (rp : -2147483648 ≤ p ∧ p ≤ 2147483647) : mj_Ok 59 138 [.ref 1, .int (jn a), .int (jn p)] h (cA (fun k => if k = 0 then 1 else 2) (A_rootsBy N a p)) := by
  obtain ⟨V, X, m, b, d, c, jx⟩ := cS.nr A s
  have jx : rjR X := jx
  refine mj_Ok.of (M := mj_m138) rfl rfl rfl ?_
  iterate 2 refine mj_T.pl rfl rfl rfl rfl ?_
  refine mj_T.call rfl rfl (Nat.le_of_ble_eq_true rfl) (Nat.le_of_ble_eq_true rfl) (mV_of m 19 cq_d1 (by decide) rfl (by decide) rfl _) rfl (mj_Ok.up (by omega) (mC_rowOf (D := 0) m (i := a) (by omega))) (fun v g1 hq => ?_) (fun i g1 hq => ?_)
  rotate_left
  · rcases hq with ⟨_, hq⟩ | ⟨hn, hq⟩
    · cases hq
    · cases hq
      exact Or.inl ⟨rfl, fun z => an.n hn⟩
  rcases hq with ⟨ka, hq⟩ | ⟨_, hq⟩
  rotate_left
  · cases hq
  cases hq
  refine mj_T.eq (pc2 := 5) (st2 := [.ref (4 + a.toNat)]) ?_ rfl rfl rfl rfl
  refine mj_T.pl (loc' := [some (.ref 1), some (.int (jn a)), some (.int (jn p)), some (.ref (4 + a.toNat)), none, none]) rfl rfl rfl rfl ?_
  refine mj_T.pl rfl rfl rfl rfl ?_
  refine mj_T.call rfl rfl (Nat.le_of_ble_eq_true rfl) (Nat.le_of_ble_eq_true rfl) rfl rfl (mj_Ok.up (by omega) (mC_prime (D := 0) (p := p) (by omega))) (fun v g2 hq => ?_) (fun i g2 hq => ?_)
  rotate_left
  · rcases hq with ⟨_, hq⟩ | ⟨hn, hq⟩
    · cases hq
    · cases hq
      exact Or.inl ⟨rfl, fun z => an.y ka (an.n hn)⟩
  rcases hq with ⟨kp, hq⟩ | ⟨_, hq⟩
  rotate_left
  · cases hq
  cases hq
  refine mj_T.eq (pc2 := 10) (st2 := []) ?_ rfl rfl rfl rfl
  refine mj_T.pl rfl rfl rfl rfl ?_
  refine mj_T.pl (loc' := [some (.ref 1), some (.int (jn a)), some (.int (jn p)), some (.ref (4 + a.toNat)), some (.int (jn 0)), none]) rfl rfl rfl rfl ?_
  refine mj_T.pl rfl rfl rfl rfl ?_
  refine mj_T.pl (loc' := [some (.ref 1), some (.int (jn a)), some (.int (jn p)), some (.ref (4 + a.toNat)), some (.int (jn 0)), some (.int (jn 0))]) rfl rfl rfl rfl ?_
  obtain ⟨q, rfl⟩ := Int.eq_ofNat_of_zero_le (show 0 ≤ p by have := kp.1.1; omega)
  have hq := rbc_le (rwN N a) ((q : Nat) : Int) q
  refine mS_rsb_loop (D := 56) (Q := cA (fun k => if k = 0 then 1 else 2) (A_rootsBy N a ((q : Nat) : Int))) m (mK_rt a.toNat (by omega)) (c.sm A.1 ka) kp.1 ?_ q 0 (by omega)
  refine ⟨_, ⟨?_, ?_⟩, rfl, an.y ka (an.y kp (an.e (congrArg (fun x : Nat => (x : Int)) (rbc_cg (c.rw ka) _))))⟩
  · omega
  · have := kp.1.2
    rw [rbc_cg (c.rw ka), Int.toNat_natCast]
    omega
theorem cv_139 (A : AS N u H) (s : cC N u H h) {a : Int} (ra : -2147483648 ≤ a ∧ a ≤ 2147483647) {p : Int} (rp : -2147483648 ≤ p ∧ p ≤ 2147483647) : mj_Ok 59 139 [.ref 1, .int (jn a), .int (jn p)] h (cA (fun k => if k = 0 then 1 else if k = 2 then 2 else 3) (A_rootBy N a p)) := by
  obtain ⟨V, X, m, b, d, c, jx⟩ := cS.nr A s
  have jx : rjR X := jx
  refine mj_Ok.of (M := mj_m139) rfl rfl rfl ?_
  iterate 2 refine mj_T.pl rfl rfl rfl rfl ?_
  refine mj_T.call rfl rfl (Nat.le_of_ble_eq_true rfl) (Nat.le_of_ble_eq_true rfl) (mV_of m 19 cq_d1 (by decide) rfl (by decide) rfl _) rfl (mj_Ok.up (by omega) (mC_rowOf (D := 0) m (i := a) (by omega))) (fun v g1 hq => ?_) (fun i g1 hq => ?_)
  rotate_left
  · rcases hq with ⟨_, hq⟩ | ⟨hn, hq⟩
    · cases hq
    · cases hq
      exact Or.inl ⟨rfl, fun z => an.n hn⟩
  rcases hq with ⟨ka, hq⟩ | ⟨_, hq⟩
  rotate_left
  · cases hq
  cases hq
  refine mj_T.eq (pc2 := 5) (st2 := [.ref (4 + a.toNat)]) ?_ rfl rfl rfl rfl
  refine mj_T.pl (loc' := [some (.ref 1), some (.int (jn a)), some (.int (jn p)), some (.ref (4 + a.toNat)), none]) rfl rfl rfl rfl ?_
  refine mj_T.pl rfl rfl rfl rfl ?_
  refine mj_T.call rfl rfl (Nat.le_of_ble_eq_true rfl) (Nat.le_of_ble_eq_true rfl) rfl rfl (mj_Ok.up (by omega) (mC_prime (D := 0) (p := p) (by omega))) (fun v g2 hq => ?_) (fun i g2 hq => ?_)
  rotate_left
  · rcases hq with ⟨_, hq⟩ | ⟨hn, hq⟩
    · cases hq
    · cases hq
      exact Or.inl ⟨rfl, fun z => an.y ka (an.n hn)⟩
  rcases hq with ⟨kp, hq⟩ | ⟨_, hq⟩
  rotate_left
  · cases hq
  cases hq
  refine mj_T.eq (pc2 := 10) (st2 := []) ?_ rfl rfl rfl rfl
  refine mj_T.pl rfl rfl rfl rfl ?_
  refine mj_T.pl (loc' := [some (.ref 1), some (.int (jn a)), some (.int (jn p)), some (.ref (4 + a.toNat)), some (.int (jn 0))]) rfl rfl rfl rfl ?_
  obtain ⟨q, rfl⟩ := Int.eq_ofNat_of_zero_le (show 0 ≤ p by have := kp.1.1; omega)
  have hq2 := kp.1.2
  refine mS_rtb_loop (D := 56) (Q := cA (fun k => if k = 0 then 1 else if k = 2 then 2 else 3) (A_rootBy N a ((q : Nat) : Int))) m (mK_rt a.toNat (by omega)) (c.sm A.1 ka) kp.1 (fun k h1 h2 h3 => ?_) (fun hn loc => ?_) q 0 (by omega) (fun y hy => absurd hy (by omega))
  · have h2 := (hrv_cg (x := (k : Int)) (p := ((q : Nat) : Int)) 13 0 (c.rw ka)).symm.trans h2
    exact ⟨_, ⟨by omega, by omega⟩, rfl, an.y ka (an.y kp (an.y ⟨k, h1, h2⟩ (an.e ⟨k, rfl, h1, h2, fun y hy e => h3 y hy ((hrv_cg 13 0 (c.rw ka)).trans e)⟩)))⟩
  · exact mj_T.throws rfl rfl rfl (Nat.le_of_ble_eq_true rfl) (fun z => an.y ka (an.y kp (an.n (fun q => by
      obtain ⟨y, y1, y2⟩ := q
      exact hn y y1 ((hrv_cg 13 0 (c.rw ka)).trans y2)))))
end MVB
section RBT
variable {h : mj_H} {T : Nat → Int}
theorem ra_rb_loop {S N B X V : Nat → Int} {r x z : Nat} (hr : r ≤ 5) (hx : x < z) (hz : 2 ≤ z) (hz2 : z ≤ 97) (hN : ∀ j, j < 78 → jR (N j)) (hs : rS S N B T X V h) {Q : mj_R → Prop} {c : Int} (q0 : c ≠ 0 → Q (.inl (some (.int (jn 0))), h)) (q1 : c = 0 → Q (.inl (some (.int (jn 1))), h)) :
    ∀ (m : Nat) (v : Int), m ≤ 13 → 0 ≤ v → v < z → hrv (fun e => N (r * 13 + e)) (x : Int) (z : Int) m v = c → mj_T 38 mj_m280 7 [some (.ref 0), some (.int (jn (r : Int))), some (.int (jn (x : Int))), some (.int (jn (z : Int))), some (.long (jl v)), none, some (.int (jn ((m : Int) - 1)))] [] h Q := by
  intro m
  induction m with
  | zero =>
    intro v hm v0 v1 hh
    refine mj_T.pl rfl rfl rfl rfl ?_
    refine mj_T.if0 (a := ((0 : Nat) : Int) - 1) rfl ⟨by decide, by decide⟩ (fun hc => ?_) (fun hc => ?_)
    · iterate 2 refine mj_T.pl rfl rfl rfl rfl ?_
      refine mj_T.lif (a := v) (b := 0) rfl rfl ⟨by omega, by omega⟩ ⟨by decide, by decide⟩ (fun hc2 => ?_) (fun hc2 => ?_)
      · refine mj_T.pl rfl rfl rfl rfl ?_
        have hh : v = c := hh
        exact mj_T.ret rfl rfl rfl (q0 (by simp only [jc, Bool.not_eq_true', Bool.not_eq_false', decide_eq_true_eq, decide_eq_false_iff_not] at hc2; omega))
      · iterate 2 refine mj_T.pl rfl rfl rfl rfl ?_
        have hh : v = c := hh
        exact mj_T.ret rfl rfl rfl (q1 (by simp only [jc, Bool.not_eq_true', Bool.not_eq_false', decide_eq_true_eq, decide_eq_false_iff_not] at hc2; omega))
    · simp [jc] at hc
  | succ m ih =>
    intro v hm v0 v1 hh
    refine mj_T.pl rfl rfl rfl rfl ?_
    refine mj_T.if0 (a := ((m + 1 : Nat) : Int) - 1) rfl ⟨by omega, by omega⟩ (fun hc => ?_) (fun hc => ?_)
    · simp only [jc, decide_eq_true_eq] at hc
      omega
    rw [show ((m + 1 : Nat) : Int) - 1 = (m : Int) by omega]
    iterate 2 refine mj_T.pl rfl rfl rfl rfl ?_
    refine mj_T.i2l rfl ⟨by omega, by omega⟩ ?_
    refine mj_T.lmul rfl ?_
    iterate 4 refine mj_T.pl rfl rfl rfl rfl ?_
    refine mj_T.call (ins := .invokevirtual 243) rfl rfl (Nat.le_of_ble_eq_true rfl) (Nat.le_of_ble_eq_true rfl) (by simp [mj_recv, rS_f hs]) rfl (mj_Ok.up (by decide) (rx_rest (D := 0) (r := r) (e := m) (x := z) hr (by omega) hz hz2 (hN _ (by omega)) hs)) (fun v' h' hq' => ?_) (fun i h' hq' => by cases hq')
    cases hq'
    have w0 := Int.emod_nonneg (N (r * 13 + m)) (show (z : Int) ≠ 0 by omega)
    have w1 := Int.emod_lt_of_pos (N (r * 13 + m)) (show (0 : Int) < (z : Int) by omega)
    have hb : 0 ≤ v * (x : Int) ∧ v * (x : Int) ≤ 97 * 97 := ⟨Int.mul_nonneg v0 (by omega), Int.mul_le_mul (by omega) (by omega) (by omega) (by decide)⟩
    refine mj_T.ladd rfl ?_
    refine mj_T.pl rfl rfl rfl rfl ?_
    refine mj_T.i2l rfl ⟨by omega, by omega⟩ ?_
    have t1 := Int.tmod_lt_of_pos (v * (x : Int) + N (r * 13 + m) % (z : Int)) (show (0 : Int) < (z : Int) by omega)
    have t2 := Int.tmod_nonneg (z : Int) (show 0 ≤ v * (x : Int) + N (r * 13 + m) % (z : Int) by omega)
    refine mj_T.lrem (a := v * (x : Int) + N (r * 13 + m) % (z : Int)) (b := (z : Int)) rfl ⟨by omega, by omega⟩ ⟨by omega, by omega⟩ (by omega) ?_
    refine mj_T.pl rfl rfl rfl rfl ?_
    refine mj_T.iinc (a := (m : Int)) rfl rfl ?_
    refine mj_T.pl rfl rfl rfl rfl ?_
    exact ih _ (by omega) t2 t1 (by rw [← hh]; show hrv _ _ _ m _ = hrv _ _ _ m _; rw [Int.tmod_eq_emod_of_nonneg (by omega)])
theorem ra_isRootBy {S N B X V : Nat → Int} {r x z : Nat} (hr : r ≤ 5) (hx : x < z) (hz : 2 ≤ z) (hz2 : z ≤ 97) (hN : ∀ j, j < 78 → jR (N j)) (hs : rS S N B T X V h) : mj_Ok 39 280 [.ref 0, .int (jn (r : Int)), .int (jn (x : Int)), .int (jn (z : Int))] h (fun q => (hrv (fun e => N (r * 13 + e)) (x : Int) (z : Int) 13 0 ≠ 0 ∧ q = (.inl (some (.int (jn 0))), h)) ∨ (hrv (fun e => N (r * 13 + e)) (x : Int) (z : Int) 13 0 = 0 ∧ q = (.inl (some (.int (jn 1))), h))) := by
  refine mj_Ok.of (M := mj_m280) rfl rfl rfl ?_
  iterate 4 refine mj_T.pl rfl rfl rfl rfl ?_
  exact ra_rb_loop hr hx hz hz2 hN hs (fun e => Or.inl ⟨e, rfl⟩) (fun e => Or.inr ⟨e, rfl⟩) 13 0 (by omega) (by decide) (by omega) rfl
end RBT
section RBU
variable {h : mj_H} {tm er : Int} {T : Nat → Int} {N0 : Nat → Int} {u0 : Nat} {H : Nat → Nat → Int}
theorem ra_rsb_loop {S N B X V : Nat → Int} {r z : Nat} (hr : r ≤ 5) (hz : 2 ≤ z) (hz2 : z ≤ 97) (hs : rS S N B T X V h) (K : jKx N0 u0 H tm er S N B T) (e3s : S 3 = 0) {A : Int → Int → Prop} (hA : A 0 ((rbc (fun e => N (r * 13 + e)) (z : Int) z : Nat) : Int)) :
    ∀ (m k c : Nat), k + m = z → c ≤ k → c = rbc (fun e => N (r * 13 + e)) (z : Int) k → mj_T 39 mj_m281 36 [some (.ref 0), some (.int (jn (r : Int))), some (.int (jn (z : Int))), some (.int (jn (c : Int))), some (.int (jn (k : Int)))] [] h (rIa A N0 u0 H tm er T) := by
  intro m
  induction m with
  | zero =>
    intro k c hk hc hcr
    iterate 2 refine mj_T.pl rfl rfl rfl rfl ?_
    refine mj_T.icmp (a := (k : Int)) (b := (z : Int)) rfl ⟨by omega, by omega⟩ ⟨by omega, by omega⟩ (fun hc2 => ?_) (fun hc2 => ?_)
    · refine mj_T.pl rfl rfl rfl rfl ?_
      obtain rfl : k = z := by omega
      exact mj_T.ret rfl rfl rfl ⟨0, (c : Int), h, by rw [hcr]; exact hA, ⟨by omega, by omega⟩, rfl, ⟨_, _, _, _, _, hs, K, e3s⟩⟩
    · simp only [jc, decide_eq_false_iff_not] at hc2
      omega
  | succ m ih =>
    intro k c hk hc hcr
    iterate 2 refine mj_T.pl rfl rfl rfl rfl ?_
    refine mj_T.icmp (a := (k : Int)) (b := (z : Int)) rfl ⟨by omega, by omega⟩ ⟨by omega, by omega⟩ (fun hc2 => ?_) (fun hc2 => ?_)
    · simp only [jc, decide_eq_true_eq] at hc2
      omega
    iterate 5 refine mj_T.pl rfl rfl rfl rfl ?_
    refine mj_T.call (ins := .invokevirtual 341) rfl rfl (Nat.le_of_ble_eq_true rfl) (Nat.le_of_ble_eq_true rfl) (by simp [mj_recv, rS_f hs]) rfl (mj_Ok.up (by decide) (ra_isRootBy (r := r) (x := k) (z := z) hr (by omega) hz hz2 K.nR hs)) (fun v' h' hq' => ?_) (fun i h' hq' => by rcases hq' with ⟨_, h⟩ | ⟨_, h⟩ <;> cases h)
    rcases hq' with ⟨hh, hq'⟩ | ⟨hh, hq'⟩
    · cases hq'
      refine mj_T.if0 (a := 0) rfl ⟨by decide, by decide⟩ (fun hc => ?_) (fun hc => ?_)
      rotate_left
      · simp [jc] at hc
      refine mj_T.pl rfl rfl rfl rfl ?_
      refine mj_T.iadd (a := (c : Int)) (b := 0) rfl ?_
      rw [show (c : Int) + 0 = ((c + 0 : Nat) : Int) by omega]
      refine mj_T.pl rfl rfl rfl rfl ?_
      refine mj_T.iinc (a := (k : Int)) rfl rfl ?_
      refine mj_T.pl rfl rfl rfl rfl ?_
      exact ih (k + 1) (c + 0) (by omega) (by omega) (by rw [rbc_z hh]; omega)
    · cases hq'
      refine mj_T.if0 (a := 1) rfl ⟨by decide, by decide⟩ (fun hc => ?_) (fun hc => ?_)
      · simp [jc] at hc
      iterate 2 refine mj_T.pl rfl rfl rfl rfl ?_
      refine mj_T.iadd (a := (c : Int)) (b := 1) rfl ?_
      rw [show (c : Int) + 1 = ((c + 1 : Nat) : Int) by omega]
      refine mj_T.pl rfl rfl rfl rfl ?_
      refine mj_T.iinc (a := (k : Int)) rfl rfl ?_
      refine mj_T.pl rfl rfl rfl rfl ?_
      exact ih (k + 1) (c + 1) (by omega) (by omega) (by rw [rbc_s hh]; omega)
theorem ra_rootsBy {x y : Int} (hx : jr x) (hy : jr y) (hI : jIx N0 u0 H tm er T h) : mj_Ok 40 281 [.ref 0, .int (jn x), .int (jn y)] h (rIa (A_rootsBy N0 x y) N0 u0 H tm er T) := by
  refine mj_Ok.of (M := mj_m281) rfl rfl rfl ?_
  obtain ⟨S, N, B, X, V, hs, K⟩ := hI
  iterate 2 refine mj_T.pl rfl rfl rfl rfl ?_
  refine rT_put (v := 0) hs rfl rfl (by decide) rfl (fun g10 hs10 => ?_)
  have K10 := K.put (k := 3) (v := 0) ⟨by decide, by decide⟩ (by decide) (by decide) (by decide) (by decide) (by decide)
  have e10 : jvu S 3 0 3 = 0 := jvu_at S 3 0
  generalize jvu S 3 0 = S10 at hs10 K10 e10
  refine mj_T.pl rfl rfl rfl rfl ?_
  refine mj_T.call (ins := .invokestatic 181) rfl rfl (Nat.le_of_ble_eq_true rfl) (Nat.le_of_ble_eq_true rfl) rfl rfl (mj_Ok.up (by decide) (rp_isRegister (D := 0) hx)) (fun v' h' hq' => ?_) (fun i h' hq' => by rcases hq' with ⟨_, _, h⟩ | ⟨_, h⟩ <;> cases h)
  rcases hq' with ⟨x1, x2, hq'⟩ | ⟨cn, hq'⟩
  case' inr =>
    cases hq'
    refine mj_T.if0 (a := 0) rfl ⟨by decide, by decide⟩ (fun hc => ?_) (fun hc => ?_)
    · simp [jc] at hc
    iterate 2 refine mj_T.pl rfl rfl rfl rfl ?_
    refine mj_T.call (ins := .invokevirtual 198) rfl rfl (Nat.le_of_ble_eq_true rfl) (Nat.le_of_ble_eq_true rfl) (by simp [mj_recv, rS_f hs10]) rfl (mj_Ok.up (by decide) (rp_fails (D := 0) (c := 1) hs10)) (fun v' g11 hq' => ?_) (fun i h' hq' => by obtain ⟨_, _, h⟩ := hq'; cases h)
    obtain ⟨_, hs11, hq'⟩ := hq'
    cases hq'
    exact mj_T.ret rfl rfl rfl ⟨1, 0, g11, an.n (by omega), ⟨by decide, by decide⟩, rfl, ⟨_, N, B, X, V, hs11, K10.put ⟨by decide, by decide⟩ (by decide) (by decide) (by decide) (by decide) (by decide), jvu_at _ _ _⟩⟩
  cases hq'
  refine mj_T.if0 (a := 1) rfl ⟨by decide, by decide⟩ (fun hc => ?_) (fun hc => ?_)
  rotate_left
  · simp [jc] at hc
  obtain ⟨x, rfl⟩ := Int.eq_ofNat_of_zero_le x1
  refine mj_T.pl rfl rfl rfl rfl ?_
  refine mj_T.call (ins := .invokestatic 240) rfl rfl (Nat.le_of_ble_eq_true rfl) (Nat.le_of_ble_eq_true rfl) rfl rfl (mj_Ok.up (by decide) (rx_isPrime hy)) (fun v' h' hq' => ?_) (fun i h' hq' => by rcases hq' with ⟨_, h⟩ | ⟨_, h⟩ <;> cases h)
  rcases hq' with ⟨hpr, hq'⟩ | ⟨cn, hq'⟩
  case' inr =>
    cases hq'
    refine mj_T.if0 (a := 0) rfl ⟨by decide, by decide⟩ (fun hc => ?_) (fun hc => ?_)
    · simp [jc] at hc
    iterate 2 refine mj_T.pl rfl rfl rfl rfl ?_
    refine mj_T.call (ins := .invokevirtual 198) rfl rfl (Nat.le_of_ble_eq_true rfl) (Nat.le_of_ble_eq_true rfl) (by simp [mj_recv, rS_f hs10]) rfl (mj_Ok.up (by decide) (rp_fails (D := 0) (c := 2) hs10)) (fun v' g12 hq' => ?_) (fun i h' hq' => by obtain ⟨_, _, h⟩ := hq'; cases h)
    obtain ⟨_, hs12, hq'⟩ := hq'
    cases hq'
    exact mj_T.ret rfl rfl rfl ⟨2, 0, g12, an.y ⟨by omega, by omega⟩ (an.n cn), ⟨by decide, by decide⟩, rfl, ⟨_, N, B, X, V, hs12, K10.put ⟨by decide, by decide⟩ (by decide) (by decide) (by decide) (by decide) (by decide), jvu_at _ _ _⟩⟩
  cases hq'
  refine mj_T.if0 (a := 1) rfl ⟨by decide, by decide⟩ (fun hc => ?_) (fun hc => ?_)
  rotate_left
  · simp [jc] at hc
  have y1 := hpr.1.1
  have y2 := hpr.1.2
  obtain ⟨y, rfl⟩ := Int.eq_ofNat_of_zero_le (show 0 ≤ y by omega)
  iterate 4 refine mj_T.pl rfl rfl rfl rfl ?_
  exact ra_rsb_loop (by omega) (by omega) (by omega) hs10 K10 e10 (an.y ⟨by omega, by omega⟩ (an.y hpr (an.e (by rw [Int.toNat_natCast, rbc_cg (fun j hj => rwN_at K10.2.1 (r := x) (by omega) hj)])))) y 0 0 (by omega) (by decide) rfl
theorem ra_rtb_loop {S N B X V : Nat → Int} {r z : Nat} (hr : r ≤ 5) (hz : 2 ≤ z) (hz2 : z ≤ 97) (hs : rS S N B T X V h) (K : jKx N0 u0 H tm er S N B T) (e3s : S 3 = 0) {A : Int → Int → Prop} (hA : ∀ k : Nat, k < z → hrv (fun e => N (r * 13 + e)) (k : Int) (z : Int) 13 0 = 0 → (∀ y : Nat, y < k → hrv (fun e => N (r * 13 + e)) (y : Int) (z : Int) 13 0 ≠ 0) → A 0 (k : Int)) (hB : (∀ y : Nat, y < z → hrv (fun e => N (r * 13 + e)) (y : Int) (z : Int) 13 0 ≠ 0) → A 3 0) :
    ∀ (m k : Nat), k + m = z → (∀ y : Nat, y < k → hrv (fun e => N (r * 13 + e)) (y : Int) (z : Int) 13 0 ≠ 0) → mj_T 39 mj_m282 33 [some (.ref 0), some (.int (jn (r : Int))), some (.int (jn (z : Int))), some (.int (jn (k : Int)))] [] h (rIa A N0 u0 H tm er T) := by
  intro m
  induction m with
  | zero =>
    intro k hk hn
    iterate 2 refine mj_T.pl rfl rfl rfl rfl ?_
    refine mj_T.icmp (a := (k : Int)) (b := (z : Int)) rfl ⟨by omega, by omega⟩ ⟨by omega, by omega⟩ (fun hc2 => ?_) (fun hc2 => ?_)
    rotate_left
    · simp only [jc, decide_eq_false_iff_not] at hc2
      omega
    iterate 2 refine mj_T.pl rfl rfl rfl rfl ?_
    refine mj_T.call (ins := .invokevirtual 198) rfl rfl (Nat.le_of_ble_eq_true rfl) (Nat.le_of_ble_eq_true rfl) (by simp [mj_recv, rS_f hs]) rfl (mj_Ok.up (by decide) (rp_fails (D := 0) (c := 3) hs)) (fun v' g13 hq' => ?_) (fun i h' hq' => by obtain ⟨_, _, h⟩ := hq'; cases h)
    obtain ⟨_, hs13, hq'⟩ := hq'
    cases hq'
    exact mj_T.ret rfl rfl rfl ⟨3, 0, g13, hB (fun y hy => hn y (by omega)), ⟨by decide, by decide⟩, rfl, ⟨_, N, B, X, V, hs13, K.put ⟨by decide, by decide⟩ (by decide) (by decide) (by decide) (by decide) (by decide), jvu_at _ _ _⟩⟩
  | succ m ih =>
    intro k hk hn
    iterate 2 refine mj_T.pl rfl rfl rfl rfl ?_
    refine mj_T.icmp (a := (k : Int)) (b := (z : Int)) rfl ⟨by omega, by omega⟩ ⟨by omega, by omega⟩ (fun hc2 => ?_) (fun hc2 => ?_)
    · simp only [jc, decide_eq_true_eq] at hc2
      omega
    iterate 4 refine mj_T.pl rfl rfl rfl rfl ?_
    refine mj_T.call (ins := .invokevirtual 341) rfl rfl (Nat.le_of_ble_eq_true rfl) (Nat.le_of_ble_eq_true rfl) (by simp [mj_recv, rS_f hs]) rfl (mj_Ok.up (by decide) (ra_isRootBy (r := r) (x := k) (z := z) hr (by omega) hz hz2 K.nR hs)) (fun v' h' hq' => ?_) (fun i h' hq' => by rcases hq' with ⟨_, h⟩ | ⟨_, h⟩ <;> cases h)
    rcases hq' with ⟨hh, hq'⟩ | ⟨hh, hq'⟩
    · cases hq'
      refine mj_T.if0 (a := 0) rfl ⟨by decide, by decide⟩ (fun hc => ?_) (fun hc => ?_)
      rotate_left
      · simp [jc] at hc
      refine mj_T.iinc (a := (k : Int)) rfl rfl ?_
      refine mj_T.pl rfl rfl rfl rfl ?_
      exact ih (k + 1) (by omega) (fun y hy => by
        by_cases e : y = k
        · rw [e]
          exact hh
        · exact hn y (by omega))
    · cases hq'
      refine mj_T.if0 (a := 1) rfl ⟨by decide, by decide⟩ (fun hc => ?_) (fun hc => ?_)
      · simp [jc] at hc
      refine mj_T.pl rfl rfl rfl rfl ?_
      exact mj_T.ret rfl rfl rfl ⟨0, (k : Int), h, hA k (by omega) hh hn, ⟨by omega, by omega⟩, rfl, ⟨_, _, _, _, _, hs, K, e3s⟩⟩
theorem ra_rootBy {x y : Int} (hx : jr x) (hy : jr y) (hI : jIx N0 u0 H tm er T h) : mj_Ok 40 282 [.ref 0, .int (jn x), .int (jn y)] h (rIa (A_rootBy N0 x y) N0 u0 H tm er T) := by
  refine mj_Ok.of (M := mj_m282) rfl rfl rfl ?_
  obtain ⟨S, N, B, X, V, hs, K⟩ := hI
  iterate 2 refine mj_T.pl rfl rfl rfl rfl ?_
  refine rT_put (v := 0) hs rfl rfl (by decide) rfl (fun g14 hs14 => ?_)
  have K14 := K.put (k := 3) (v := 0) ⟨by decide, by decide⟩ (by decide) (by decide) (by decide) (by decide) (by decide)
  have e14 : jvu S 3 0 3 = 0 := jvu_at S 3 0
  generalize jvu S 3 0 = S14 at hs14 K14 e14
  refine mj_T.pl rfl rfl rfl rfl ?_
  refine mj_T.call (ins := .invokestatic 181) rfl rfl (Nat.le_of_ble_eq_true rfl) (Nat.le_of_ble_eq_true rfl) rfl rfl (mj_Ok.up (by decide) (rp_isRegister (D := 0) hx)) (fun v' h' hq' => ?_) (fun i h' hq' => by rcases hq' with ⟨_, _, h⟩ | ⟨_, h⟩ <;> cases h)
  rcases hq' with ⟨x1, x2, hq'⟩ | ⟨cn, hq'⟩
  case' inr =>
    cases hq'
    refine mj_T.if0 (a := 0) rfl ⟨by decide, by decide⟩ (fun hc => ?_) (fun hc => ?_)
    · simp [jc] at hc
    iterate 2 refine mj_T.pl rfl rfl rfl rfl ?_
    refine mj_T.call (ins := .invokevirtual 198) rfl rfl (Nat.le_of_ble_eq_true rfl) (Nat.le_of_ble_eq_true rfl) (by simp [mj_recv, rS_f hs14]) rfl (mj_Ok.up (by decide) (rp_fails (D := 0) (c := 1) hs14)) (fun v' g15 hq' => ?_) (fun i h' hq' => by obtain ⟨_, _, h⟩ := hq'; cases h)
    obtain ⟨_, hs15, hq'⟩ := hq'
    cases hq'
    exact mj_T.ret rfl rfl rfl ⟨1, 0, g15, an.n (by omega), ⟨by decide, by decide⟩, rfl, ⟨_, N, B, X, V, hs15, K14.put ⟨by decide, by decide⟩ (by decide) (by decide) (by decide) (by decide) (by decide), jvu_at _ _ _⟩⟩
  cases hq'
  refine mj_T.if0 (a := 1) rfl ⟨by decide, by decide⟩ (fun hc => ?_) (fun hc => ?_)
  rotate_left
  · simp [jc] at hc
  obtain ⟨x, rfl⟩ := Int.eq_ofNat_of_zero_le x1
  refine mj_T.pl rfl rfl rfl rfl ?_
  refine mj_T.call (ins := .invokestatic 240) rfl rfl (Nat.le_of_ble_eq_true rfl) (Nat.le_of_ble_eq_true rfl) rfl rfl (mj_Ok.up (by decide) (rx_isPrime hy)) (fun v' h' hq' => ?_) (fun i h' hq' => by rcases hq' with ⟨_, h⟩ | ⟨_, h⟩ <;> cases h)
  rcases hq' with ⟨hpr, hq'⟩ | ⟨cn, hq'⟩
  case' inr =>
    cases hq'
    refine mj_T.if0 (a := 0) rfl ⟨by decide, by decide⟩ (fun hc => ?_) (fun hc => ?_)
    · simp [jc] at hc
    iterate 2 refine mj_T.pl rfl rfl rfl rfl ?_
    refine mj_T.call (ins := .invokevirtual 198) rfl rfl (Nat.le_of_ble_eq_true rfl) (Nat.le_of_ble_eq_true rfl) (by simp [mj_recv, rS_f hs14]) rfl (mj_Ok.up (by decide) (rp_fails (D := 0) (c := 2) hs14)) (fun v' g16 hq' => ?_) (fun i h' hq' => by obtain ⟨_, _, h⟩ := hq'; cases h)
    obtain ⟨_, hs16, hq'⟩ := hq'
    cases hq'
    exact mj_T.ret rfl rfl rfl ⟨2, 0, g16, an.y ⟨by omega, by omega⟩ (an.n cn), ⟨by decide, by decide⟩, rfl, ⟨_, N, B, X, V, hs16, K14.put ⟨by decide, by decide⟩ (by decide) (by decide) (by decide) (by decide) (by decide), jvu_at _ _ _⟩⟩
  cases hq'
  refine mj_T.if0 (a := 1) rfl ⟨by decide, by decide⟩ (fun hc => ?_) (fun hc => ?_)
  rotate_left
  · simp [jc] at hc
  have y1 := hpr.1.1
  have y2 := hpr.1.2
  obtain ⟨y, rfl⟩ := Int.eq_ofNat_of_zero_le (show 0 ≤ y by omega)
  iterate 2 refine mj_T.pl rfl rfl rfl rfl ?_
  have hc9 : ∀ k : Nat, hrv (fun e => N (x * 13 + e)) (k : Int) (y : Int) 13 0 = hrv (rwN N0 (x : Int)) (k : Int) (y : Int) 13 0 := fun k => hrv_cg 13 0 (fun j hj => rwN_at K14.2.1 (r := x) (by omega) hj)
  exact ra_rtb_loop (by omega) (by omega) (by omega) hs14 K14 e14 (fun k h1 h2 h3 => an.y ⟨by omega, by omega⟩ (an.y hpr (an.y ⟨k, by omega, (hc9 k).symm.trans h2⟩ (an.e ⟨k, rfl, by omega, (hc9 k).symm.trans h2, fun w hw e => h3 w hw ((hc9 w).trans e)⟩)))) (fun hn => an.y ⟨by omega, by omega⟩ (an.y hpr (an.n (fun q => by
    obtain ⟨w, w1, w2⟩ := q
    exact hn w (by omega) ((hc9 w).trans w2))))) y 0 (by omega) (fun w hw => absurd hw (by omega))
end RBU
section RBG
variable {h : mj_H} {u : Nat} {N : Nat → Int} {H : Nat → Nat → Int} {tm er : Int} {T : Nat → Int}
theorem ga_rootsBy {x : Int} (jx : jr x) {y : Int} (jy : jr y) (I : jIx N u H tm er T h) : mj_Ok 60 281 [.ref 0, .int (jn x), .int (jn y)] h (rZa (sameQ N u H) (A_rootsBy N x y) tm er T) := (mj_Ok.up (by decide) (ra_rootsBy jx jy I)).to (fun r k => k.za)
theorem ga_rootBy {x : Int} (jx : jr x) {y : Int} (jy : jr y) (I : jIx N u H tm er T h) : mj_Ok 60 282 [.ref 0, .int (jn x), .int (jn y)] h (rZa (sameQ N u H) (A_rootBy N x y) tm er T) := (mj_Ok.up (by decide) (ra_rootBy jx jy I)).to (fun r k => k.za)
end RBG
/-! meanTerms, usedShare. -/
def mtc (N : Nat → Int) : Nat → Nat
  | 0 => 0
  | k + 1 => mtc N k + tmc (rwN N (k : Int)) 13
def usc (N : Nat → Int) : Nat → Nat
  | 0 => 0
  | k + 1 => if 0 < fdg (rwN N (k : Int)) 13 then usc N k + 1 else usc N k
theorem usc_s {N : Nat → Int} {k : Nat} (h : 0 < fdg (rwN N (k : Int)) 13) : usc N (k + 1) = usc N k + 1 := if_pos h
theorem usc_z {N : Nat → Int} {k : Nat} (h : ¬ 0 < fdg (rwN N (k : Int)) 13) : usc N (k + 1) = usc N k := if_neg h
theorem mtc_le (N : Nat → Int) : ∀ k, mtc N k ≤ 13 * k
  | 0 => Nat.le_refl 0
  | k + 1 => by
    have h1 := mtc_le N k
    have h2 := tmc_le (rwN N (k : Int)) 13
    show mtc N k + tmc (rwN N (k : Int)) 13 ≤ _
    omega
theorem usc_le (N : Nat → Int) : ∀ k, usc N k ≤ k
  | 0 => Nat.le_refl 0
  | k + 1 => by
    have h1 := usc_le N k
    by_cases q : 0 < fdg (rwN N (k : Int)) 13
    · rw [usc_s q]
      omega
    · rw [usc_z q]
      omega
def mtD (N : Nat → Int) : UInt64 := FP.ddiv (FP.i2d (jn ((mtc N 6 : Nat) : Int))) 4618441417868443648
def usD (N : Nat → Int) : UInt32 := FP.fdiv (FP.i2f (jn ((usc N 6 : Nat) : Int))) 1086324736
theorem rp_dc : ∀ n, n < 79 → Op.cmpValue (FP.dcmp (FP.ddiv (FP.i2d (jn (n : Nat))) 4618441417868443648) (FP.ddiv (FP.i2d (jn (n : Nat))) 4618441417868443648)) .l = jn 0 := by decide +kernel
theorem rp_fc : ∀ n, n < 79 → Op.cmpValue (FP.dcmp (FP.f2d (FP.fdiv (FP.i2f (jn (n : Nat))) 1086324736)) (FP.f2d (FP.fdiv (FP.i2f (jn (n : Nat))) 1086324736))) .l = jn 0 := by decide +kernel
theorem mtD_c (N : Nat → Int) : Op.cmpValue (FP.dcmp (mtD N) (mtD N)) .l = jn 0 := rp_dc _ (by have := mtc_le N 6; omega)
theorem usD_c (N : Nat → Int) : Op.cmpValue (FP.dcmp (FP.f2d (usD N)) (FP.f2d (usD N))) .l = jn 0 := rp_fc _ (by have := usc_le N 6; omega)
theorem rp_f2b : ∀ n, n < 79 → FP.f2d (FP.fdiv (FP.i2f (jn (n : Nat))) 1086324736) &&& 0x7fffffffffffffff ≤ 0x7ff0000000000000 := by decide +kernel
theorem usD_f (N : Nat → Int) : FP.f2d (usD N) &&& 0x7fffffffffffffff ≤ 0x7ff0000000000000 := rp_f2b _ (by have := usc_le N 6; omega)
section MVU
variable {g h : mj_H} {n D u r : Nat} {V : Nat → Int} {X : Nat → Nat → Int} {N : Nat → Int} {H : Nat → Nat → Int}
theorem CR.rwn {X : Nat → Nat → Int} {N : Nat → Int} {u : Nat} {H : Nat → Nat → Int} (c : CR X N u H) {k : Nat} (hk : k < 6) : ∀ j, j < 13 → X (4 + k) j = rwN N (k : Int) j := fun j hj => by
  have h := c.rw (a := (k : Int)) ⟨by omega, by omega⟩ j hj
  rwa [Int.toNat_natCast] at h
theorem CR.smn {X : Nat → Nat → Int} {N : Nat → Int} {u : Nat} {H : Nat → Nat → Int} (gn : gN N) (c : CR X N u H) {k : Nat} (hk : k < 6) : sml (X (4 + k)) := by
  have h := c.sm gn (a := (k : Int)) ⟨by omega, by omega⟩
  rwa [Int.toNat_natCast] at h
theorem cL_3 : cL (2 + 1) = 6 := by decide +kernel
theorem mX_mean_loop (m : jM g n V X h) (gn : gN N) (c : CR X N u H) {Q : mj_R → Prop} (hend : Q (.inl (some (.double (mtD N))), h)) : ∀ d k : Nat, k + d = 6 → mj_T (D + 1) mj_m146 4 [some (.ref 1), some (.int (jn ((mtc N k : Nat) : Int))), some (.int (jn (k : Int)))] [] h Q
  | 0, k, hk => by
    have l3 := cL_3
    iterate 2 refine mj_T.pl rfl rfl rfl rfl ?_
    refine mT_get m 19 cq_d1 (by decide) rfl rfl ?_
    refine mT_get m 10 cq_d2 (by decide) rfl rfl ?_
    refine mT_alen m 6 (mK_b cq_d2).1 (by decide) rfl ?_
    refine mj_T.icmp (a := ((k : Nat) : Int)) (b := ((cL (2 + 1) : Nat) : Int)) rfl ⟨by omega, by omega⟩ ⟨by omega, by omega⟩ (fun c1 => ?_) (fun c1 => ?_)
    · simp only [jc, Bool.not_eq_true', Bool.not_eq_false', decide_eq_true_eq, decide_eq_false_iff_not] at c1
      obtain rfl : k = 6 := by omega
      iterate 3 refine mj_T.pl rfl rfl rfl rfl ?_
      refine mj_T.ddv rfl (rp_dd _ (by have := mtc_le N 6; omega)) ?_
      exact mj_T.ret rfl rfl rfl hend
    · exfalso
      simp only [jc, Bool.not_eq_true', Bool.not_eq_false', decide_eq_true_eq, decide_eq_false_iff_not] at c1
      omega
  | d + 1, k, hk => by
    have l3 := cL_3
    have hb := mtc_le N k
    iterate 2 refine mj_T.pl rfl rfl rfl rfl ?_
    refine mT_get m 19 cq_d1 (by decide) rfl rfl ?_
    refine mT_get m 10 cq_d2 (by decide) rfl rfl ?_
    refine mT_alen m 6 (mK_b cq_d2).1 (by decide) rfl ?_
    refine mj_T.icmp (a := ((k : Nat) : Int)) (b := ((cL (2 + 1) : Nat) : Int)) rfl ⟨by omega, by omega⟩ ⟨by omega, by omega⟩ (fun c1 => ?_) (fun c1 => ?_)
    · exfalso
      simp only [jc, Bool.not_eq_true', Bool.not_eq_false', decide_eq_true_eq, decide_eq_false_iff_not] at c1
      omega
    · simp only [jc, Bool.not_eq_true', Bool.not_eq_false', decide_eq_true_eq, decide_eq_false_iff_not] at c1
      iterate 2 refine mj_T.pl rfl rfl rfl rfl ?_
      refine mT_get m 19 cq_d1 (by decide) rfl rfl ?_
      refine mT_get m 10 cq_d2 (by decide) rfl rfl ?_
      refine mj_T.pl rfl rfl rfl rfl ?_
      refine mT_aald m 6 (mK_b cq_d2).1 (by decide) rfl rfl (by omega) ⟨by omega, by omega⟩ ?_
      refine mj_T.eq (st2 := [.ref (4 + k), .int (jn ((mtc N k : Nat) : Int))]) ?_ rfl rfl rfl rfl
      refine mj_T.call rfl rfl (Nat.le_of_ble_eq_true rfl) (Nat.le_of_ble_eq_true rfl) rfl rfl (mj_Ok.up (by omega) (mS_terms (D := 0) m (mK_rt k (by omega)) (c.smn gn (k := k) (by omega)))) (fun v g2 hq => ?_) (fun i g2 hq => ?_)
      rotate_left
      · cases hq
      cases hq
      have e := tmc_cg 13 (c.rwn (k := k) (by omega))
      rw [e]
      refine mj_T.eq (pc2 := 29) (st2 := [.int (jn ((tmc (rwN N (k : Int)) 13 : Nat) : Int)), .int (jn ((mtc N k : Nat) : Int))]) ?_ rfl rfl rfl rfl
      refine mj_T.iadd (a := ((mtc N k : Nat) : Int)) (b := ((tmc (rwN N (k : Int)) 13 : Nat) : Int)) rfl ?_
      refine mj_T.pl (loc' := [some (.ref 1), some (.int (jn (((mtc N k : Nat) : Int) + ((tmc (rwN N (k : Int)) 13 : Nat) : Int)))), some (.int (jn ((k : Nat) : Int)))]) rfl rfl rfl rfl ?_
      refine mj_T.iinc rfl rfl ?_
      rw [show ((k : Nat) : Int) + 1 = ((k + 1 : Nat) : Int) by omega]
      refine mj_T.eq (loc2 := [some (.ref 1), some (.int (jn (((mtc N k : Nat) : Int) + ((tmc (rwN N (k : Int)) 13 : Nat) : Int)))), some (.int (jn (((k + 1) : Nat) : Int)))]) ?_ rfl rfl rfl rfl
      refine mj_T.pl rfl rfl rfl rfl ?_
      refine mj_T.eq (mX_mean_loop m gn c hend d (k + 1) (by omega)) rfl ?_ rfl rfl
      rw [show (((mtc N k : Nat) : Int) + ((tmc (rwN N (k : Int)) 13 : Nat) : Int)) = ((mtc N (k + 1) : Nat) : Int) by show _ = ((mtc N k + tmc (rwN N (k : Int)) 13 : Nat) : Int); omega]
theorem cv_146 (A : AS N u H) (s : cC N u H h) : mj_Ok 59 146 [.ref 1] h (fun r => r.1 = .inl (some (.double (mtD N)))) := by
  obtain ⟨V, X, m, b, d, c⟩ := s
  refine mj_Ok.of (M := mj_m146) rfl rfl rfl ?_
  iterate 4 refine mj_T.pl rfl rfl rfl rfl ?_
  exact mX_mean_loop (D := 57) (Q := fun r => r.1 = .inl (some (.double (mtD N)))) m A.1 c rfl 6 0 (by omega)
theorem mX_share_loop (m : jM g n V X h) (gn : gN N) (c : CR X N u H) {Q : mj_R → Prop} (hend : Q (.inl (some (.float (usD N))), h)) : ∀ d k : Nat, k + d = 6 → mj_T (D + 1) mj_m147 4 [some (.ref 1), some (.int (jn ((usc N k : Nat) : Int))), some (.int (jn (k : Int)))] [] h Q
  | 0, k, hk => by
    have l3 := cL_3
    iterate 2 refine mj_T.pl rfl rfl rfl rfl ?_
    refine mT_get m 19 cq_d1 (by decide) rfl rfl ?_
    refine mT_get m 10 cq_d2 (by decide) rfl rfl ?_
    refine mT_alen m 6 (mK_b cq_d2).1 (by decide) rfl ?_
    refine mj_T.icmp (a := ((k : Nat) : Int)) (b := ((cL (2 + 1) : Nat) : Int)) rfl ⟨by omega, by omega⟩ ⟨by omega, by omega⟩ (fun c1 => ?_) (fun c1 => ?_)
    · simp only [jc, Bool.not_eq_true', Bool.not_eq_false', decide_eq_true_eq, decide_eq_false_iff_not] at c1
      obtain rfl : k = 6 := by omega
      iterate 3 refine mj_T.pl rfl rfl rfl rfl ?_
      refine mj_T.fdv rfl (rp_ff _ (by have := usc_le N 6; omega)) ?_
      exact mj_T.ret rfl rfl rfl hend
    · exfalso
      simp only [jc, Bool.not_eq_true', Bool.not_eq_false', decide_eq_true_eq, decide_eq_false_iff_not] at c1
      omega
  | d + 1, k, hk => by
    have l3 := cL_3
    have hb := usc_le N k
    iterate 2 refine mj_T.pl rfl rfl rfl rfl ?_
    refine mT_get m 19 cq_d1 (by decide) rfl rfl ?_
    refine mT_get m 10 cq_d2 (by decide) rfl rfl ?_
    refine mT_alen m 6 (mK_b cq_d2).1 (by decide) rfl ?_
    refine mj_T.icmp (a := ((k : Nat) : Int)) (b := ((cL (2 + 1) : Nat) : Int)) rfl ⟨by omega, by omega⟩ ⟨by omega, by omega⟩ (fun c1 => ?_) (fun c1 => ?_)
    · exfalso
      simp only [jc, Bool.not_eq_true', Bool.not_eq_false', decide_eq_true_eq, decide_eq_false_iff_not] at c1
      omega
    · simp only [jc, Bool.not_eq_true', Bool.not_eq_false', decide_eq_true_eq, decide_eq_false_iff_not] at c1
      refine mj_T.pl rfl rfl rfl rfl ?_
      refine mT_get m 19 cq_d1 (by decide) rfl rfl ?_
      refine mT_get m 10 cq_d2 (by decide) rfl rfl ?_
      refine mj_T.pl rfl rfl rfl rfl ?_
      refine mT_aald m 6 (mK_b cq_d2).1 (by decide) rfl rfl (by omega) ⟨by omega, by omega⟩ ?_
      refine mj_T.eq (st2 := [.ref (4 + k)]) ?_ rfl rfl rfl rfl
      refine mj_T.call rfl rfl (Nat.le_of_ble_eq_true rfl) (Nat.le_of_ble_eq_true rfl) rfl rfl (mj_Ok.up (by omega) (mS_deg (D := 0) m (mK_rt k (by omega)) (c.smn gn (k := k) (by omega)))) (fun v g2 hq => ?_) (fun i g2 hq => ?_)
      rotate_left
      · cases hq
      cases hq
      have e := fdg_congr 13 (c.rwn (k := k) (by omega))
      have el := fdg_le (rwN N (k : Int)) 13
      rw [e]
      refine mj_T.eq (pc2 := 28) (st2 := [.int (jn ((fdg (rwN N (k : Int)) 13 : Int) - 1))]) ?_ rfl rfl rfl rfl
      refine mj_T.if0 (a := ((fdg (rwN N (k : Int)) 13 : Int) - 1)) rfl ⟨by omega, by omega⟩ (fun c3 => ?_) (fun c3 => ?_)
      · simp only [jc, Bool.not_eq_true', Bool.not_eq_false', decide_eq_true_eq, decide_eq_false_iff_not] at c3
        refine mj_T.iinc rfl rfl ?_
        rw [show ((k : Nat) : Int) + 1 = ((k + 1 : Nat) : Int) by omega]
        refine mj_T.eq (loc2 := [some (.ref 1), some (.int (jn ((usc N k : Nat) : Int))), some (.int (jn (((k + 1) : Nat) : Int)))]) ?_ rfl rfl rfl rfl
        refine mj_T.pl rfl rfl rfl rfl ?_
        have e2 := usc_z (N := N) (k := k) (by omega)
        rw [← e2]
        exact mX_share_loop m gn c hend d (k + 1) (by omega)
      · simp only [jc, Bool.not_eq_true', Bool.not_eq_false', decide_eq_true_eq, decide_eq_false_iff_not] at c3
        refine mj_T.iinc rfl rfl ?_
        rw [show ((usc N k : Nat) : Int) + 1 = ((usc N k + 1 : Nat) : Int) by omega]
        refine mj_T.eq (loc2 := [some (.ref 1), some (.int (jn (((usc N k + 1) : Nat) : Int))), some (.int (jn ((k : Nat) : Int)))]) ?_ rfl rfl rfl rfl
        refine mj_T.iinc rfl rfl ?_
        rw [show ((k : Nat) : Int) + 1 = ((k + 1 : Nat) : Int) by omega]
        refine mj_T.eq (loc2 := [some (.ref 1), some (.int (jn (((usc N k + 1) : Nat) : Int))), some (.int (jn (((k + 1) : Nat) : Int)))]) ?_ rfl rfl rfl rfl
        refine mj_T.pl rfl rfl rfl rfl ?_
        have e2 := usc_s (N := N) (k := k) (by omega)
        rw [← e2]
        exact mX_share_loop m gn c hend d (k + 1) (by omega)
theorem cv_147 (A : AS N u H) (s : cC N u H h) : mj_Ok 59 147 [.ref 1] h (fun r => r.1 = .inl (some (.float (usD N)))) := by
  obtain ⟨V, X, m, b, d, c⟩ := s
  refine mj_Ok.of (M := mj_m147) rfl rfl rfl ?_
  iterate 4 refine mj_T.pl rfl rfl rfl rfl ?_
  exact mX_share_loop (D := 57) (Q := fun r => r.1 = .inl (some (.float (usD N)))) m A.1 c rfl 6 0 (by omega)
end MVU
section RVU
variable {h : mj_H} {tm er : Int} {T : Nat → Int} {N0 : Nat → Int} {u0 : Nat} {H : Nat → Nat → Int}
theorem ra_meanTerms_loop {S N B X V : Nat → Int} (hs : rS S N B T X V h) (K : jKx N0 u0 H tm er S N B T) :
    ∀ (m k c : Nat), k + m = 6 → c = mtc N0 k → mj_T 39 mj_m307 9 [some (.ref 0), some (.int (jn (c : Int))), some (.int (jn (k : Int)))] [] h (fun r => r.1 = .inl (some (.double (mtD N0))) ∧ rZ (sameQ N0 u0 H) tm er T r) := by
  intro m
  induction m with
  | zero =>
    intro k c hk hcb
    have hb9 := mtc_le N0 k
    have hk : k = 6 := by omega
    subst hk
    iterate 2 refine mj_T.pl rfl rfl rfl rfl ?_
    refine mj_T.icmp (a := ((6 : Nat) : Int)) (b := 6) rfl ⟨by decide, by decide⟩ ⟨by decide, by decide⟩ (fun hc => ?_) (fun hc => ?_)
    · iterate 3 refine mj_T.pl rfl rfl rfl rfl ?_
      refine mj_T.ddv rfl (rp_dd c (by omega)) ?_
      subst hcb
      exact mj_T.ret rfl rfl rfl ⟨rfl, N0, u0, H, ⟨rfl, rfl, rfl⟩, ⟨_, _, _, _, _, hs, K⟩⟩
    · simp [jc] at hc
  | succ m ih =>
    intro k c hk hcb
    have hb9 := mtc_le N0 k
    iterate 2 refine mj_T.pl rfl rfl rfl rfl ?_
    refine mj_T.icmp (a := (k : Int)) (b := 6) rfl ⟨by omega, by omega⟩ ⟨by decide, by decide⟩ (fun hc => ?_) (fun hc => ?_)
    · simp only [jc, decide_eq_true_eq] at hc
      omega
    iterate 3 refine mj_T.pl rfl rfl rfl rfl ?_
    have hrt := rtm_le N k 13
    refine mj_T.call (ins := .invokevirtual 292) rfl rfl (Nat.le_of_ble_eq_true rfl) (Nat.le_of_ble_eq_true rfl) (by simp [mj_recv, rS_f hs]) rfl (mj_Ok.up (by decide) (rp_termsOf (D := 0) (r := k) (by omega) K.nR hs)) (fun v' h' hq' => ?_) (fun i h' hq' => by cases hq')
    cases hq'
    refine mj_T.iadd (a := (c : Int)) (b := ((rtm N k 13 : Nat) : Int)) rfl ?_
    rw [show (c : Int) + ((rtm N k 13 : Nat) : Int) = ((c + rtm N k 13 : Nat) : Int) by omega]
    refine mj_T.pl rfl rfl rfl rfl ?_
    refine mj_T.iinc (a := (k : Int)) rfl rfl ?_
    refine mj_T.pl rfl rfl rfl rfl ?_
    exact ih (k + 1) _ (by omega) (by rw [hcb, rtm_tmc K.2.1 (by omega) 13 (Nat.le_refl 13)]; rfl)
theorem ra_meanTerms  (hI : jIx N0 u0 H tm er T h) : mj_Ok 40 307 [.ref 0] h (fun r => r.1 = .inl (some (.double (mtD N0))) ∧ rZ (sameQ N0 u0 H) tm er T r) := by
  refine mj_Ok.of (M := mj_m307) rfl rfl rfl ?_
  obtain ⟨S, N, B, X, V, hs, K⟩ := hI
  iterate 2 refine mj_T.pl rfl rfl rfl rfl ?_
  refine rT_put (v := 0) hs rfl rfl (by decide) rfl (fun g5 hs5 => ?_)
  have K5 := K.put (k := 3) (v := 0) ⟨by decide, by decide⟩ (by decide) (by decide) (by decide) (by decide) (by decide)
  generalize jvu S 3 0 = S5 at hs5 K5
  iterate 4 refine mj_T.pl rfl rfl rfl rfl ?_
  exact ra_meanTerms_loop hs5 K5 6 0 0 (by omega) rfl
theorem ra_usedShare_loop {S N B X V : Nat → Int} (hs : rS S N B T X V h) (K : jKx N0 u0 H tm er S N B T) :
    ∀ (m k c : Nat), k + m = 6 → c = usc N0 k → mj_T 39 mj_m308 9 [some (.ref 0), some (.int (jn (c : Int))), some (.int (jn (k : Int)))] [] h (fun r => r.1 = .inl (some (.float (usD N0))) ∧ rZ (sameQ N0 u0 H) tm er T r) := by
  intro m
  induction m with
  | zero =>
    intro k c hk hcb
    have hb9 := usc_le N0 k
    have hk : k = 6 := by omega
    subst hk
    iterate 2 refine mj_T.pl rfl rfl rfl rfl ?_
    refine mj_T.icmp (a := ((6 : Nat) : Int)) (b := 6) rfl ⟨by decide, by decide⟩ ⟨by decide, by decide⟩ (fun hc => ?_) (fun hc => ?_)
    · iterate 3 refine mj_T.pl rfl rfl rfl rfl ?_
      refine mj_T.fdv rfl (rp_ff c (by omega)) ?_
      subst hcb
      exact mj_T.ret rfl rfl rfl ⟨rfl, N0, u0, H, ⟨rfl, rfl, rfl⟩, ⟨_, _, _, _, _, hs, K⟩⟩
    · simp [jc] at hc
  | succ m ih =>
    intro k c hk hcb
    have hb9 := usc_le N0 k
    iterate 2 refine mj_T.pl rfl rfl rfl rfl ?_
    refine mj_T.icmp (a := (k : Int)) (b := 6) rfl ⟨by omega, by omega⟩ ⟨by decide, by decide⟩ (fun hc => ?_) (fun hc => ?_)
    · simp only [jc, decide_eq_true_eq] at hc
      omega
    iterate 3 refine mj_T.pl rfl rfl rfl rfl ?_
    refine mj_T.call (ins := .invokevirtual 232) rfl rfl (Nat.le_of_ble_eq_true rfl) (Nat.le_of_ble_eq_true rfl) (by simp [mj_recv, rS_f hs]) rfl (mj_Ok.up (by decide) (rp_isZero (D := 0) (r := k) (by omega) K.nR hs)) (fun v' h' hq' => ?_) (fun i h' hq' => by rcases hq' with ⟨_, h⟩ | ⟨_, h⟩ <;> cases h)
    have hz9 : fdg (rwN N0 (k : Int)) 13 = jdg N k 13 := by
      rw [← fdg_jdg]
      exact (fdg_congr 13 (fun j hj => rwN_at K.2.1 (r := k) (by omega) hj)).symm
    rcases hq' with ⟨hz8, hq'⟩ | ⟨hz8, hq'⟩
    · cases hq'
      refine mj_T.if0 (a := 1) rfl ⟨by decide, by decide⟩ (fun hc => ?_) (fun hc => ?_)
      · simp [jc] at hc
      iterate 2 refine mj_T.pl rfl rfl rfl rfl ?_
      refine mj_T.iadd (a := (c : Int)) (b := 0) rfl ?_
      rw [show (c : Int) + 0 = ((c + 0 : Nat) : Int) by omega]
      refine mj_T.pl rfl rfl rfl rfl ?_
      refine mj_T.iinc (a := (k : Int)) rfl rfl ?_
      refine mj_T.pl rfl rfl rfl rfl ?_
      exact ih (k + 1) _ (by omega) (by rw [usc_z (by omega), hcb]; rfl)
    · cases hq'
      refine mj_T.if0 (a := 0) rfl ⟨by decide, by decide⟩ (fun hc => ?_) (fun hc => ?_)
      rotate_left
      · simp [jc] at hc
      refine mj_T.pl rfl rfl rfl rfl ?_
      refine mj_T.iadd (a := (c : Int)) (b := 1) rfl ?_
      rw [show (c : Int) + 1 = ((c + 1 : Nat) : Int) by omega]
      refine mj_T.pl rfl rfl rfl rfl ?_
      refine mj_T.iinc (a := (k : Int)) rfl rfl ?_
      refine mj_T.pl rfl rfl rfl rfl ?_
      exact ih (k + 1) _ (by omega) (by rw [usc_s (by omega), hcb])
theorem ra_usedShare  (hI : jIx N0 u0 H tm er T h) : mj_Ok 40 308 [.ref 0] h (fun r => r.1 = .inl (some (.float (usD N0))) ∧ rZ (sameQ N0 u0 H) tm er T r) := by
  refine mj_Ok.of (M := mj_m308) rfl rfl rfl ?_
  obtain ⟨S, N, B, X, V, hs, K⟩ := hI
  iterate 2 refine mj_T.pl rfl rfl rfl rfl ?_
  refine rT_put (v := 0) hs rfl rfl (by decide) rfl (fun g6 hs6 => ?_)
  have K6 := K.put (k := 3) (v := 0) ⟨by decide, by decide⟩ (by decide) (by decide) (by decide) (by decide) (by decide)
  generalize jvu S 3 0 = S6 at hs6 K6
  iterate 4 refine mj_T.pl rfl rfl rfl rfl ?_
  exact ra_usedShare_loop hs6 K6 6 0 0 (by omega) rfl
end RVU
section YXW
variable {N : Nat → Int} {u : Nat} {H : Nat → Nat → Int} {hr h : mj_H} {tm er : Int} {T : Nat → Int}
theorem YX.callvd {D j : Nat} {as as2 : List Value} {tm' er' : Int} {x : UInt64} {T' : Nat → Int} {Φ Ψ : SP} (E : jEm 563 hr h) (y : yZ Φ h) (ag : AgP Φ Ψ) (c : mj_Ok D j as hr (fun r => r.1 = .inl (some (.double x)) ∧ rZ Ψ tm' er' T' r)) (has : ∀ N, as.map (mj_rn (jro 563 N)) = as2) : mj_Ok D j as2 h (fun r => r.1 = .inl (some (.double x)) ∧ YX tm' er' T' r.2) := by
  have hL := E.2.2.1
  have := E.run c (fun r q h3 => by
    obtain ⟨_, N', u', H', _, k⟩ := q
    exact jI_s8 k.tI h3)
  rw [has] at this
  refine this.to (fun r hq => ?_)
  obtain ⟨r0, hr', ⟨v0, N2, u2, H2, p2, k⟩, v1, d, _, f⟩ := hq
  obtain ⟨N1, u1, H1, p1, s1⟩ := y
  have s2 : cC N1 u1 H1 r.2 := s1.fr (fun a ha => by
    have l : a < 563 := by
      rcases Nat.lt_or_ge a 563 with c | c
      · exact c
      · exact absurd (cK_out c) ha
    exact f a (by omega) (Or.inl l))
  have v0 : r0 = .inl (some (.double x)) := v0
  refine ⟨?_, N2, u2, H2, hr', s2.cg (ag _ _ _ _ _ _ p1 p2), d, k⟩
  rw [v1, v0]
  first
  | rfl
  | done
theorem YX.callvf {D j : Nat} {as as2 : List Value} {tm' er' : Int} {x : UInt32} {T' : Nat → Int} {Φ Ψ : SP} (E : jEm 563 hr h) (y : yZ Φ h) (ag : AgP Φ Ψ) (c : mj_Ok D j as hr (fun r => r.1 = .inl (some (.float x)) ∧ rZ Ψ tm' er' T' r)) (has : ∀ N, as.map (mj_rn (jro 563 N)) = as2) : mj_Ok D j as2 h (fun r => r.1 = .inl (some (.float x)) ∧ YX tm' er' T' r.2) := by
  have hL := E.2.2.1
  have := E.run c (fun r q h3 => by
    obtain ⟨_, N', u', H', _, k⟩ := q
    exact jI_s8 k.tI h3)
  rw [has] at this
  refine this.to (fun r hq => ?_)
  obtain ⟨r0, hr', ⟨v0, N2, u2, H2, p2, k⟩, v1, d, _, f⟩ := hq
  obtain ⟨N1, u1, H1, p1, s1⟩ := y
  have s2 : cC N1 u1 H1 r.2 := s1.fr (fun a ha => by
    have l : a < 563 := by
      rcases Nat.lt_or_ge a 563 with c | c
      · exact c
      · exact absurd (cK_out c) ha
    exact f a (by omega) (Or.inl l))
  have v0 : r0 = .inl (some (.float x)) := v0
  refine ⟨?_, N2, u2, H2, hr', s2.cg (ag _ _ _ _ _ _ p1 p2), d, k⟩
  rw [v1, v0]
  first
  | rfl
  | done
end YXW
/-! The value of a polynomial at a fraction, exactly. -/
def hpv (f : Nat → Int) (x : Int) : Nat → Int → Int
  | 0, v => v
  | m + 1, v => hpv f x m (v * x + f m)
def hvz (f : Nat → Int) (x y : Int) : Nat → Int → Int → Int
  | 0, a, _ => a
  | m + 1, a, q => hvz f x y m (a * x + f m * (q * y)) (q * y)
/-- the value at x / y, times the bottom to the degree -/
def vlz (f : Nat → Int) (x y : Int) : Int := hpv (fun e => f e * y ^ ((fdg f 13 - 1) - e)) x (fdg f 13) 0
theorem hpv_cg {f f' : Nat → Int} {x : Int} : ∀ m v, (∀ j, j < m → f' j = f j) → hpv f' x m v = hpv f x m v
  | 0, _, _ => rfl
  | m + 1, v, h => by
    unfold hpv
    rw [h m (by omega)]
    exact hpv_cg m _ (fun j hj => h j (by omega))
theorem hvz_hpv {f : Nat → Int} {x y : Int} {d : Nat} : ∀ m, m ≤ d → ∀ v, hpv (fun e => f e * y ^ (d - e)) x m v = hvz f x y m v (y ^ (d - m))
  | 0, _, _ => rfl
  | m + 1, hm, v => by
    show hpv (fun e => f e * y ^ (d - e)) x m (v * x + f m * y ^ (d - m)) = hvz f x y m (v * x + f m * (y ^ (d - (m + 1)) * y)) (y ^ (d - (m + 1)) * y)
    rw [← Int.pow_succ, show (d - (m + 1)).succ = d - m by omega]
    exact hvz_hpv m (by omega) _
theorem vlz_hvz {f : Nat → Int} {x y : Int} {d : Nat} (h : fdg f 13 = d + 1) : vlz f x y = hvz f x y d (f d) 1 := by
  unfold vlz
  rw [h, Nat.add_sub_cancel]
  show hpv (fun e => f e * y ^ (d - e)) x d (0 * x + f d * y ^ (d - d)) = _
  rw [hvz_hpv d (Nat.le_refl d), Nat.sub_self, Int.pow_zero, Int.zero_mul, Int.zero_add, Int.mul_one]
theorem vlz_0 {f : Nat → Int} {x y : Int} (h : fdg f 13 = 0) : vlz f x y = 0 := by
  unfold vlz
  rw [h]
  rfl
theorem vlz_cg {f f' : Nat → Int} {x y : Int} (h : ∀ j, j < 13 → f' j = f j) : vlz f' x y = vlz f x y := by
  have hl := fdg_le f 13
  unfold vlz
  rw [fdg_congr 13 h]
  exact hpv_cg _ _ (fun j hj => by rw [h j (by omega)])
theorem hvz_bd {f : Nat → Int} {x y : Int} {C Z : Nat} (hf : ∀ e, e < 13 → (f e).natAbs ≤ C) (hx : x.natAbs ≤ Z) (hy : y.natAbs ≤ Z) : ∀ m n (a q : Int), m ≤ 13 → a.natAbs ≤ (n + 1) * (C * Z ^ n) → q.natAbs ≤ Z ^ n → (hvz f x y m a q).natAbs ≤ (n + m + 1) * (C * Z ^ (n + m))
  | 0, n, a, q, _, h1, _ => h1
  | m + 1, n, a, q, hm, h1, h2 => by
    have q2 : (q * y).natAbs ≤ Z ^ (n + 1) := by
      rw [Int.natAbs_mul, Nat.pow_succ]
      exact Nat.mul_le_mul h2 hy
    have s := (jva_step h1 hx (hf m (by omega)) _ q2).2.2
    have k := hvz_bd hf hx hy m (n + 1) _ _ (by omega) s q2
    rw [show n + (m + 1) = n + 1 + m by omega]
    exact k
theorem vlz_bd {f : Nat → Int} {x y : Int} {C Z : Nat} (hZ : 1 ≤ Z) (hf : ∀ e, e < 13 → (f e).natAbs ≤ C) (hx : x.natAbs ≤ Z) (hy : y.natAbs ≤ Z) : (vlz f x y).natAbs ≤ 13 * (C * Z ^ 12) := by
  have hl := fdg_le f 13
  rcases Nat.eq_zero_or_pos (fdg f 13) with h | h
  · rw [vlz_0 h]
    exact Nat.zero_le _
  · obtain ⟨d, hd⟩ : ∃ d, fdg f 13 = d + 1 := ⟨fdg f 13 - 1, by omega⟩
    rw [vlz_hvz hd]
    have k := hvz_bd hf hx hy d 0 (f d) 1 (by omega) (by rw [Nat.pow_zero, Nat.mul_one, Nat.zero_add, Nat.one_mul]; exact hf d (by omega)) (by rw [Nat.pow_zero]; decide)
    rw [Nat.zero_add] at k
    exact Nat.le_trans k (Nat.mul_le_mul (by omega) (Nat.mul_le_mul_left _ (Nat.pow_le_pow_right hZ (by omega))))
theorem str_p {s : Int} (hs : 1 ≤ s ∧ s ≤ 1000) {j : Nat} (hj : j ≤ 13) : (s ^ j).natAbs ≤ 1000 ^ 13 ∧ jnl (s ^ j).natAbs ≤ 5 := by
  have h1 : (s ^ j).natAbs ≤ 1000 ^ j := by
    rw [Int.natAbs_pow]
    exact Nat.pow_le_pow_left (by omega) j
  have h2 : 1000 ^ j ≤ 1000 ^ 13 := Nat.pow_le_pow_right (by decide) hj
  exact ⟨Nat.le_trans h1 h2, jnl_le_lt.mpr (Nat.lt_of_le_of_lt (Nat.le_trans h1 h2) (by decide +kernel))⟩
theorem str_c {a s : Int} (ha : a.natAbs ≤ 2000000000000000000) (hs : 1 ≤ s ∧ s ≤ 1000) {j : Nat} (hj : j ≤ 13) : (a * s ^ j).natAbs ≤ 2000000000000000000 * 1000 ^ 13 ∧ jnl (a * s ^ j).natAbs ≤ 7 := by
  have h1 : (a * s ^ j).natAbs ≤ 2000000000000000000 * 1000 ^ 13 := by
    rw [Int.natAbs_mul]
    exact Nat.mul_le_mul ha (str_p hs hj).1
  exact ⟨h1, jnl_le_lt.mpr (Nat.lt_of_le_of_lt h1 (by decide +kernel))⟩
def hrF : Nat := 2000000000000000000 * 1000 ^ 13
theorem hor_l {v : Int} {m n : Nat} (hm : m ≤ 13) (hn : n ≤ 13) (h : v.natAbs ≤ m * (hrF * 1000 ^ n)) : jnl v.natAbs ≤ 11 := by
  have h1 : m * (hrF * 1000 ^ n) ≤ 13 * (hrF * 1000 ^ 13) := Nat.mul_le_mul hm (Nat.mul_le_mul_left _ (Nat.pow_le_pow_right (by decide) hn))
  exact jnl_le_lt.mpr (Nat.lt_of_le_of_lt (Nat.le_trans h h1) (by decide +kernel))
section MVV
variable {g h : mj_H} {n D u p r : Nat} {V : Nat → Int} {X : Nat → Nat → Int} {N : Nat → Int} {H : Nat → Nat → Int}
theorem mP_loadR_loop {d : Int} (kp : cK p = 13) (kr : cK r = 2) (hm : cL (p + 3) = 13) (hd : jR d) (hX : ∀ i, i < 13 → (X r i).natAbs ≤ 2000000000000000000) (hcap : ∀ i, i < 13 → 3 ≤ cL (p + 4 + 2 * i + 1)) {Q : mj_R → Prop} (hend : ∀ h, jM g n (pfl V p (fun e => (X r e).tdiv d) 13) X h → mj_T (D + 1) mj_m40 52 [some (.ref p), some (.ref r), some (.long (jl d)), none, some (.int (jn ((13 : Nat) : Int)))] [] h Q) : ∀ k i, i + k = 13 → ∀ h, jM g n (pfl V p (fun e => (X r e).tdiv d) i) X h → mj_T (D + 1) mj_m40 3 [some (.ref p), some (.ref r), some (.long (jl d)), none, some (.int (jn (i : Int)))] [] h Q
  | 0, i, hi, h, m => by
    have hb := (mK_p kp).2.2.1
    iterate 2 refine mj_T.pl rfl rfl rfl rfl ?_
    refine mT_get m 13 kp (by decide) rfl rfl ?_
    refine mT_alen m 4 (mK_p kp).2.1 (by decide) rfl ?_
    refine mj_T.icmp (a := ((i : Nat) : Int)) (b := ((cL (p + 3) : Nat) : Int)) rfl ⟨by omega, by omega⟩ ⟨by omega, by omega⟩ (fun c1 => ?_) (fun c1 => ?_)
    · simp only [jc, Bool.not_eq_true', Bool.not_eq_false', decide_eq_true_eq, decide_eq_false_iff_not] at c1
      rw [show i = 13 by omega] at m ⊢
      exact hend _ m
    · exfalso
      simp only [jc, Bool.not_eq_true', Bool.not_eq_false', decide_eq_true_eq, decide_eq_false_iff_not] at c1
      omega
  | k + 1, i, hi, h, m => by
    have hb := (mK_p kp).2.2.1
    have hx := hX i (by omega)
    have hxr : jR (X r i) := ⟨by omega, by omega⟩
    have hxn : X r i ≠ -9223372036854775808 := by omega
    have hq := Int.natAbs_tdiv_le_natAbs (X r i) d
    have hj : jR ((X r i).tdiv d) := ⟨by omega, by omega⟩
    have hjn : jnl ((X r i).tdiv d).natAbs ≤ cL (p + 4 + 2 * i + 1) := Nat.le_trans (jnl_R (by omega)) (hcap i (by omega))
    iterate 2 refine mj_T.pl rfl rfl rfl rfl ?_
    refine mT_get m 13 kp (by decide) rfl rfl ?_
    refine mT_alen m 4 (mK_p kp).2.1 (by decide) rfl ?_
    refine mj_T.icmp (a := ((i : Nat) : Int)) (b := ((cL (p + 3) : Nat) : Int)) rfl ⟨by omega, by omega⟩ ⟨by omega, by omega⟩ (fun c1 => ?_) (fun c1 => ?_)
    · exfalso
      simp only [jc, Bool.not_eq_true', Bool.not_eq_false', decide_eq_true_eq, decide_eq_false_iff_not] at c1
      omega
    · simp only [jc, Bool.not_eq_true', Bool.not_eq_false', decide_eq_true_eq, decide_eq_false_iff_not] at c1
      refine mj_T.pl rfl rfl rfl rfl ?_
      refine mT_get m 13 kp (by decide) rfl rfl ?_
      refine mj_T.pl rfl rfl rfl rfl ?_
      refine mT_aald m 4 (mK_p kp).2.1 (by decide) rfl rfl (by omega) ⟨by omega, by omega⟩ ?_
      refine mj_T.eq (st2 := [.ref (p + 4 + 2 * i)]) ?_ rfl rfl rfl rfl
      iterate 2 refine mj_T.pl rfl rfl rfl rfl ?_
      refine mT_llen m kr rfl ?_
      refine mj_T.icmp (a := ((i : Nat) : Int)) (b := ((13 : Nat) : Int)) rfl ⟨by omega, by omega⟩ ⟨by omega, by omega⟩ (fun c2 => ?_) (fun c2 => ?_)
      · exfalso
        simp only [jc, Bool.not_eq_true', Bool.not_eq_false', decide_eq_true_eq, decide_eq_false_iff_not] at c2
        omega
      · simp only [jc, Bool.not_eq_true', Bool.not_eq_false', decide_eq_true_eq, decide_eq_false_iff_not] at c2
        refine mj_T.pl rfl rfl rfl rfl ?_
        refine jT.lc 0 rfl rfl ?_
        refine mj_T.lif (a := d) (b := ((0 : Nat) : Int)) rfl rfl hd jR_0 (fun c3 => ?_) (fun c3 => ?_)
        · simp only [jc, Bool.not_eq_true', Bool.not_eq_false', decide_eq_true_eq, decide_eq_false_iff_not] at c3
          refine jT.lc 0 rfl rfl ?_
          refine mj_T.call rfl rfl (Nat.le_of_ble_eq_true rfl) (Nat.le_of_ble_eq_true rfl) (mV_of m 18 ((mK_p kp).2.2.2 _ (by omega)) (by decide) rfl (by decide) rfl _) rfl (mj_Ok.up (by omega) (mW_setLong (D := 0) (v := ((0 : Nat) : Int)) m ((mK_p kp).2.2.2 _ (by omega)) jR_0 (by rw [jnl_0]; omega))) (fun v g4 hq => ?_) (fun i g4 hq => ?_)
          rotate_left
          · obtain ⟨_, _, hq⟩ := hq; cases hq
          obtain ⟨_, m5, hq⟩ := hq
          cases hq
          refine mj_T.eq (pc2 := 46) (st2 := []) ?_ rfl rfl rfl rfl
          refine mj_T.iinc rfl rfl ?_
          rw [show ((i : Nat) : Int) + 1 = ((i + 1 : Nat) : Int) by omega]
          refine mj_T.eq (loc2 := [some (.ref p), some (.ref r), some (.long (jl d)), none, some (.int (jn (((i + 1) : Nat) : Int)))]) ?_ rfl rfl rfl rfl
          refine mj_T.pl rfl rfl rfl rfl ?_
          refine mP_loadR_loop kp kr hm hd hX hcap hend k (i + 1) (by omega) _ (m5.to ?_ rfl)
          rw [pfl_succ]
          congr 1
          rw [show d = 0 by omega, Int.tdiv_zero]
          rfl
        · simp only [jc, Bool.not_eq_true', Bool.not_eq_false', decide_eq_true_eq, decide_eq_false_iff_not] at c3
          iterate 2 refine mj_T.pl rfl rfl rfl rfl ?_
          refine mT_lald m kr rfl ⟨by omega, by omega⟩ ?_
          refine mj_T.eq (st2 := [.long (jl (X r i)), .ref (p + 4 + 2 * i)]) ?_ rfl rfl rfl rfl
          refine mj_T.pl rfl rfl rfl rfl ?_
          refine mT_ldiv rfl hxr hxn hd (by omega) ?_
          refine mj_T.pl rfl rfl rfl rfl ?_
          refine mj_T.call rfl rfl (Nat.le_of_ble_eq_true rfl) (Nat.le_of_ble_eq_true rfl) (mV_of m 18 ((mK_p kp).2.2.2 _ (by omega)) (by decide) rfl (by decide) rfl _) rfl (mj_Ok.up (by omega) (mW_setLong (D := 0) (v := ((X r i).tdiv d)) m ((mK_p kp).2.2.2 _ (by omega)) hj hjn)) (fun v g6 hq => ?_) (fun i g6 hq => ?_)
          rotate_left
          · obtain ⟨_, _, hq⟩ := hq; cases hq
          obtain ⟨_, m7, hq⟩ := hq
          cases hq
          refine mj_T.eq (pc2 := 46) (st2 := []) ?_ rfl rfl rfl rfl
          refine mj_T.iinc rfl rfl ?_
          rw [show ((i : Nat) : Int) + 1 = ((i + 1 : Nat) : Int) by omega]
          refine mj_T.eq (loc2 := [some (.ref p), some (.ref r), some (.long (jl d)), none, some (.int (jn (((i + 1) : Nat) : Int)))]) ?_ rfl rfl rfl rfl
          refine mj_T.pl rfl rfl rfl rfl ?_
          refine mP_loadR_loop kp kr hm hd hX hcap hend k (i + 1) (by omega) _ (m7.to ?_ rfl)
          rw [pfl_succ]
theorem mP_loadR (m : jM g n V X h) {d : Int} (kp : cK p = 13) (kr : cK r = 2) (hm : cL (p + 3) = 13) (hd : jR d) (hX : ∀ i, i < 13 → (X r i).natAbs ≤ 2000000000000000000) (hcap : ∀ i, i < 13 → 3 ≤ cL (p + 4 + 2 * i + 1)) : mj_Ok (D + 2) 40 [.ref p, .ref r, .long (jl d)] h (fun z => ∃ h2, jM g n (pfl V p (fun e => (X r e).tdiv d) 13) (xup X p 2 ((fdg (fun e => (X r e).tdiv d) 13 : Int) - 1)) h2 ∧ z = (.inl none, h2)) := by
  refine mj_Ok.of (M := mj_m40) rfl rfl rfl ?_
  refine mj_T.pl rfl rfl rfl rfl ?_
  refine mj_T.pl (loc' := [some (.ref p), some (.ref r), some (.long (jl d)), none, some (.int (jn 0))]) rfl rfl rfl rfl ?_
  refine mP_loadR_loop kp kr hm hd hX hcap (fun h1 m1 => ?_) 13 0 (by omega) _ (m.to (pfl_zero _ _ _) rfl)
  refine mj_T.pl rfl rfl rfl rfl ?_
  refine mj_T.call rfl rfl (Nat.le_of_ble_eq_true rfl) (Nat.le_of_ble_eq_true rfl) (mV_of m1 13 kp (by decide) rfl (by decide) rfl _) rfl (mj_Ok.up (by omega) (mP_settle (D := 0) m1 kp (pcl_pfl (by omega) (fun i hi => Nat.le_trans (jnl_R (by have q1 := hX i hi; have q2 := Int.natAbs_tdiv_le_natAbs (X r i) d; omega)) (by decide))))) (fun v g61 hq => ?_) (fun i g61 hq => ?_)
  rotate_left
  · obtain ⟨_, _, hq⟩ := hq; cases hq
  obtain ⟨_, m62, hq⟩ := hq
  cases hq
  refine mj_T.eq (pc2 := 56) (st2 := []) ?_ rfl rfl rfl rfl
  exact mj_T.ret rfl rfl rfl ⟨_, m62.to rfl (by rw [hm, fdg_congr _ (fun i hi => pco_pfl i hi)]), rfl⟩
theorem mP_loadR1 (m : jM g n V X h) (kp : cK p = 13) (kr : cK r = 2) (hm : cL (p + 3) = 13) (hX : ∀ i, i < 13 → (X r i).natAbs ≤ 2000000000000000000) (hcap : ∀ i, i < 13 → 3 ≤ cL (p + 4 + 2 * i + 1)) : mj_Ok (D + 2) 40 [.ref p, .ref r, .long (jl ((1 : Nat) : Int))] h (fun z => ∃ h2, jM g n (pfl V p (X r) 13) (xup X p 2 ((fdg (X r) 13 : Int) - 1)) h2 ∧ z = (.inl none, h2)) := by
  have e : (fun e => (X r e).tdiv ((1 : Nat) : Int)) = X r := funext fun e => Int.tdiv_one _
  have h1 := mP_loadR (D := D) m (d := ((1 : Nat) : Int)) kp kr hm ⟨by decide, by decide⟩ hX hcap
  rw [e] at h1
  exact h1
theorem mD_str_loop {d : Nat} {s : Int} (hd : d ≤ 12) (hs : 1 ≤ s ∧ s ≤ 1000) (hC : ∀ e, e < 13 → (V (80 + 4 + 2 * e)).natAbs ≤ 2000000000000000000) {Q : mj_R → Prop} (hend : ∀ (V1 : Nat → Int) (h1 : mj_H), jM g n V1 X h1 → (∀ e, e < 13 → V1 (80 + 4 + 2 * e) = V (80 + 4 + 2 * e) * s ^ (d - e)) → (∀ x, x ≠ 164 → x ≠ 166 → x ≠ 168 → (x < 80 + 4 ∨ 80 + 4 + 26 ≤ x) → V1 x = V x) → Q (.inl none, h1)) : ∀ k, k ≤ d → ∀ (V1 : Nat → Int) (h1 : mj_H), jM g n V1 X h1 → (∀ e, e < 13 → V1 (80 + 4 + 2 * e) = if e < k then V (80 + 4 + 2 * e) else V (80 + 4 + 2 * e) * s ^ (d - e)) → V1 168 = s ^ (d - k) → (∀ x, x ≠ 164 → x ≠ 166 → x ≠ 168 → (x < 80 + 4 ∨ 80 + 4 + 26 ≤ x) → V1 x = V x) → mj_T (D + 2) mj_m26 16 [some (.ref 19), some (.ref 80), some (.long (jl s)), none, some (.int (jn ((k : Int) - 1)))] [] h1 Q
  | 0, hk, V1, h1, m, e1, e2, e3 => by
    refine mj_T.pl rfl rfl rfl rfl ?_
    refine mj_T.if0 (a := (((0 : Nat) : Int) - 1)) rfl ⟨by omega, by omega⟩ (fun c1 => ?_) (fun c1 => ?_)
    · simp only [jc, Bool.not_eq_true', Bool.not_eq_false', decide_eq_true_eq, decide_eq_false_iff_not] at c1
      exact mj_T.ret rfl rfl rfl (hend V1 _ m (fun e he => by rw [e1 e he, if_neg (by omega)]) e3)
    · exfalso
      simp [jc] at c1
  | k + 1, hk, V1, h1, m, e1, e2, e3 => by
    have lc1 : cL (164 + 1) = 240 := mK_z.2.2.2.2.2.2.2.1
    have lc2 : cL (166 + 1) = 240 := mK_z.2.2.2.2.2.2.2.2.1
    have lc3 : cL (168 + 1) = 40 := mK_z.2.2.2.2.2.2.2.2.2.1
    have lc4 : cL (80 + 4 + 2 * k + 1) = 236 := (mK_z.2.2.2.2.1 k (by omega)).2.2
    have hs3 := jnl_R (v := s) (by omega)
    have ek := e1 k (by omega)
    rw [if_pos (by omega)] at ek
    have lc5 : cL (80 + 3) = 13 := mK_z.2.2.1
    rw [show ((k + 1 : Nat) : Int) - 1 = (k : Int) by omega]
    refine mj_T.pl rfl rfl rfl rfl ?_
    refine mj_T.if0 (a := ((k : Nat) : Int)) rfl ⟨by omega, by omega⟩ (fun c1 => ?_) (fun c1 => ?_)
    · exfalso
      simp only [jc, Bool.not_eq_true', Bool.not_eq_false', decide_eq_true_eq, decide_eq_false_iff_not] at c1
      omega
    · simp only [jc, Bool.not_eq_true', Bool.not_eq_false', decide_eq_true_eq, decide_eq_false_iff_not] at c1
      refine mj_T.pl rfl rfl rfl rfl ?_
      refine jT.lc 1 rfl rfl ?_
      refine mj_T.lif (a := s) (b := ((1 : Nat) : Int)) rfl rfl ⟨by omega, by omega⟩ ⟨by omega, by omega⟩ (fun c2 => ?_) (fun c2 => ?_)
      · simp only [jc, Bool.not_eq_true', Bool.not_eq_false', decide_eq_true_eq, decide_eq_false_iff_not] at c2
        exact mj_T.ret rfl rfl rfl (hend V1 _ m (fun e he => by rw [e1 e he, show s = 1 by omega, Int.one_pow, Int.mul_one]; split <;> rfl) e3)
      · simp only [jc, Bool.not_eq_true', Bool.not_eq_false', decide_eq_true_eq, decide_eq_false_iff_not] at c2
        refine mj_T.pl rfl rfl rfl rfl ?_
        refine mT_get m 11 cq_d19 (by decide) rfl rfl ?_
        refine mj_T.pl rfl rfl rfl rfl ?_
        refine mj_T.call rfl rfl (Nat.le_of_ble_eq_true rfl) (Nat.le_of_ble_eq_true rfl) (mV_of m 18 cq_d166 (by decide) rfl (by decide) rfl _) rfl (mj_Ok.up (by omega) (mW_setLong (D := 0) (v := s) m cq_d166 ⟨by omega, by omega⟩ (by rw [lc2]; exact Nat.le_trans hs3 (by decide)))) (fun v g3 hq => ?_) (fun i g3 hq => ?_)
        rotate_left
        · obtain ⟨_, _, hq⟩ := hq; cases hq
        obtain ⟨_, m4, hq⟩ := hq
        cases hq
        have m4 := m4.to (V' := (jvu V1 166 s)) (by rfl) rfl
        refine mj_T.eq (pc2 := 35) (st2 := []) ?_ rfl rfl rfl rfl
        refine mj_T.pl rfl rfl rfl rfl ?_
        refine mT_get m4 11 cq_d19 (by decide) rfl rfl ?_
        refine mj_T.pl rfl rfl rfl rfl ?_
        refine mT_get m4 11 cq_d19 (by decide) rfl rfl ?_
        refine mj_T.pl rfl rfl rfl rfl ?_
        refine mT_get m4 11 cq_d19 (by decide) rfl rfl ?_
        refine mj_T.call rfl rfl (Nat.le_of_ble_eq_true rfl) (Nat.le_of_ble_eq_true rfl) (mV_of m4 18 cq_d164 (by decide) rfl (by decide) rfl _) rfl (mj_Ok.up (by omega) (mW_setProduct (D := 0) m4 cq_d164 cq_d168 cq_d166 (by omega) (by omega) (by omega) (by rw [((jvu_ne _ _ _ (by omega)).trans (rfl : V1 168 = _)), (jvu_at _ _ _)]; exact (by rw [lc1, e2, ← Int.pow_succ]; exact Nat.le_trans (str_p hs (by omega)).2 (by decide))) (hca := by rw [((jvu_ne _ _ _ (by omega)).trans (rfl : V1 168 = _))]; rw [e2]; exact Nat.le_trans (str_p hs (by omega)).2 (by decide)) (hcb := by rw [(jvu_at _ _ _)]; exact Nat.le_trans hs3 (by decide)))) (fun v g5 hq => ?_) (fun i g5 hq => ?_)
        rotate_left
        · obtain ⟨_, _, hq⟩ := hq; cases hq
        obtain ⟨_, m6, hq⟩ := hq
        cases hq
        have m6 := m6.to (V' := (jvu (jvu V1 166 s) 164 ((V1 168) * s))) (by rw [((jvu_ne _ _ _ (by omega)).trans (rfl : V1 168 = _)), (jvu_at _ _ _)]) rfl
        refine mj_T.eq (pc2 := 50) (st2 := []) ?_ rfl rfl rfl rfl
        refine mj_T.pl rfl rfl rfl rfl ?_
        refine mT_get m6 11 cq_d19 (by decide) rfl rfl ?_
        refine mj_T.pl rfl rfl rfl rfl ?_
        refine mT_get m6 11 cq_d19 (by decide) rfl rfl ?_
        refine mj_T.call rfl rfl (Nat.le_of_ble_eq_true rfl) (Nat.le_of_ble_eq_true rfl) (mV_of m6 18 cq_d168 (by decide) rfl (by decide) rfl _) rfl (mj_Ok.up (by omega) (mW_set (D := 0) m6 cq_d168 cq_d164 (by omega) (by rw [(jvu_at _ _ _)]; exact (by rw [lc3, e2, ← Int.pow_succ]; exact Nat.le_trans (str_p hs (by omega)).2 (by decide))))) (fun v g7 hq => ?_) (fun i g7 hq => ?_)
        rotate_left
        · obtain ⟨_, _, hq⟩ := hq; cases hq
        obtain ⟨_, m8, hq⟩ := hq
        cases hq
        have m8 := m8.to (V' := (jvu (jvu (jvu V1 166 s) 164 ((V1 168) * s)) 168 ((V1 168) * s))) (by rw [(jvu_at _ _ _)]) rfl
        refine mj_T.eq (pc2 := 61) (st2 := []) ?_ rfl rfl rfl rfl
        refine mj_T.pl rfl rfl rfl rfl ?_
        refine mT_get m8 11 cq_d19 (by decide) rfl rfl ?_
        iterate 2 refine mj_T.pl rfl rfl rfl rfl ?_
        refine mj_T.call rfl rfl (Nat.le_of_ble_eq_true rfl) (Nat.le_of_ble_eq_true rfl) (mV_of m8 13 cq_d80 (by decide) rfl (by decide) rfl _) rfl (mj_Ok.up (by omega) (mP_at (D := 0) m8 cq_d80 (e := k) (by omega))) (fun v g9 hq => ?_) (fun i g9 hq => ?_)
        rotate_left
        · cases hq
        cases hq
        refine mj_T.eq (pc2 := 71) (st2 := [.ref (80 + 4 + 2 * k), .ref 164]) ?_ rfl rfl rfl rfl
        refine mj_T.pl rfl rfl rfl rfl ?_
        refine mT_get m8 11 cq_d19 (by decide) rfl rfl ?_
        refine mj_T.call rfl rfl (Nat.le_of_ble_eq_true rfl) (Nat.le_of_ble_eq_true rfl) (mV_of m8 18 cq_d164 (by decide) rfl (by decide) rfl _) rfl (mj_Ok.up (by omega) (mW_setProduct (D := 0) m8 cq_d164 ((mK_p cq_d80).2.2.2 _ (by omega)) cq_d168 (by omega) (by omega) (by omega) (by rw [((jvu_ne _ _ _ (by omega)).trans ((jvu_ne _ _ _ (by omega)).trans ((jvu_ne _ _ _ (by omega)).trans (rfl : V1 (80 + 4 + 2 * k) = _)))), (jvu_at _ _ _)]; exact (by rw [lc1, ek, e2, ← Int.pow_succ]; exact Nat.le_trans (str_c (hC k (by omega)) hs (by omega)).2 (by decide))) (hca := by rw [((jvu_ne _ _ _ (by omega)).trans ((jvu_ne _ _ _ (by omega)).trans ((jvu_ne _ _ _ (by omega)).trans (rfl : V1 (80 + 4 + 2 * k) = _))))]; rw [ek]; exact Nat.le_trans (jnl_R (by have := hC k (by omega); omega)) (by decide)) (hcb := by rw [(jvu_at _ _ _)]; rw [e2, ← Int.pow_succ]; exact Nat.le_trans (str_p hs (by omega)).2 (by decide)))) (fun v g10 hq => ?_) (fun i g10 hq => ?_)
        rotate_left
        · obtain ⟨_, _, hq⟩ := hq; cases hq
        obtain ⟨_, m11, hq⟩ := hq
        cases hq
        have m11 := m11.to (V' := (jvu (jvu (jvu (jvu V1 166 s) 164 ((V1 168) * s)) 168 ((V1 168) * s)) 164 ((V1 (80 + 4 + 2 * k)) * ((V1 168) * s)))) (by rw [((jvu_ne _ _ _ (by omega)).trans ((jvu_ne _ _ _ (by omega)).trans ((jvu_ne _ _ _ (by omega)).trans (rfl : V1 (80 + 4 + 2 * k) = _)))), (jvu_at _ _ _)]) rfl
        refine mj_T.eq (pc2 := 78) (st2 := []) ?_ rfl rfl rfl rfl
        iterate 2 refine mj_T.pl rfl rfl rfl rfl ?_
        refine mj_T.call rfl rfl (Nat.le_of_ble_eq_true rfl) (Nat.le_of_ble_eq_true rfl) (mV_of m11 13 cq_d80 (by decide) rfl (by decide) rfl _) rfl (mj_Ok.up (by omega) (mP_at (D := 0) m11 cq_d80 (e := k) (by omega))) (fun v g12 hq => ?_) (fun i g12 hq => ?_)
        rotate_left
        · cases hq
        cases hq
        refine mj_T.eq (pc2 := 84) (st2 := [.ref (80 + 4 + 2 * k)]) ?_ rfl rfl rfl rfl
        refine mj_T.pl rfl rfl rfl rfl ?_
        refine mT_get m11 11 cq_d19 (by decide) rfl rfl ?_
        refine mj_T.call rfl rfl (Nat.le_of_ble_eq_true rfl) (Nat.le_of_ble_eq_true rfl) (mV_of m11 18 ((mK_p cq_d80).2.2.2 _ (by omega)) (by decide) rfl (by decide) rfl _) rfl (mj_Ok.up (by omega) (mW_set (D := 0) m11 ((mK_p cq_d80).2.2.2 _ (by omega)) cq_d164 (by omega) (by rw [(jvu_at _ _ _)]; exact (by rw [lc4, ek, e2, ← Int.pow_succ]; exact Nat.le_trans (str_c (hC k (by omega)) hs (by omega)).2 (by decide))))) (fun v g13 hq => ?_) (fun i g13 hq => ?_)
        rotate_left
        · obtain ⟨_, _, hq⟩ := hq; cases hq
        obtain ⟨_, m14, hq⟩ := hq
        cases hq
        have m14 := m14.to (V' := (jvu (jvu (jvu (jvu (jvu V1 166 s) 164 ((V1 168) * s)) 168 ((V1 168) * s)) 164 ((V1 (80 + 4 + 2 * k)) * ((V1 168) * s))) (80 + 4 + 2 * k) ((V1 (80 + 4 + 2 * k)) * ((V1 168) * s)))) (by rw [(jvu_at _ _ _)]) rfl
        refine mj_T.eq (pc2 := 91) (st2 := []) ?_ rfl rfl rfl rfl
        refine mj_T.iinc rfl rfl ?_
        refine mj_T.eq (loc2 := [some (.ref 19), some (.ref 80), some (.long (jl s)), none, some (.int (jn (((k : Nat) : Int) + (-1))))]) ?_ rfl rfl rfl rfl
        refine mj_T.pl rfl rfl rfl rfl ?_
        refine mj_T.eq (mD_str_loop hd hs hC hend k (by omega) _ _ m14 (fun e he => ?_) ?_ (fun x x1 x2 x3 x4 => ?_)) rfl (by rw [show (((k : Nat) : Int) + (-1)) = (k : Int) - 1 by omega]) rfl rfl
        · by_cases q : e = k
          · rw [q, if_neg (by omega), (jvu_at _ _ _), ek, e2, ← Int.pow_succ, show (d - (k + 1)).succ = d - k by omega]
          · rw [((jvu_ne _ _ _ (by omega)).trans ((jvu_ne _ _ _ (by omega)).trans ((jvu_ne _ _ _ (by omega)).trans ((jvu_ne _ _ _ (by omega)).trans ((jvu_ne _ _ _ (by omega)).trans (rfl : V1 (80 + 4 + 2 * e) = _)))))), e1 e he]
            by_cases q2 : e < k
            · rw [if_pos q2, if_pos (by omega)]
            · rw [if_neg q2, if_neg (by omega)]
        · rw [((jvu_ne _ _ _ (by omega)).trans ((jvu_ne _ _ _ (by omega)).trans (jvu_at _ _ _))), e2, ← Int.pow_succ, show (d - (k + 1)).succ = d - k by omega]
        · rw [((jvu_ne _ _ _ (by omega)).trans ((jvu_ne _ _ _ (by omega)).trans ((jvu_ne _ _ _ (by omega)).trans ((jvu_ne _ _ _ (by omega)).trans ((jvu_ne _ _ _ (by omega)).trans (rfl : V1 x = _))))))]
          exact e3 x x1 x2 x3 x4
theorem mD_stretch (m : jM g n V X h) {d : Nat} {s : Int} (hd : d ≤ 12) (hX80 : X 80 2 = (d : Int)) (hs : 1 ≤ s ∧ s ≤ 1000) (hC : ∀ e, e < 13 → (V (80 + 4 + 2 * e)).natAbs ≤ 2000000000000000000) : mj_Ok (D + 3) 26 [.ref 19, .ref 80, .long (jl s)] h (fun r => ∃ (V2 : Nat → Int) (h2 : mj_H), jM g n V2 X h2 ∧ (∀ e, e < 13 → V2 (80 + 4 + 2 * e) = V (80 + 4 + 2 * e) * s ^ (d - e)) ∧ (∀ x, x ≠ 164 → x ≠ 166 → x ≠ 168 → (x < 80 + 4 ∨ 80 + 4 + 26 ≤ x) → V2 x = V x) ∧ r = (.inl none, h2)) := by
  have lc1 : cL (164 + 1) = 240 := mK_z.2.2.2.2.2.2.2.1
  have lc2 : cL (166 + 1) = 240 := mK_z.2.2.2.2.2.2.2.2.1
  have lc3 : cL (168 + 1) = 40 := mK_z.2.2.2.2.2.2.2.2.2.1
  refine mj_Ok.of (M := mj_m26) rfl rfl rfl ?_
  refine mj_T.pl rfl rfl rfl rfl ?_
  refine mT_get m 11 cq_d19 (by decide) rfl rfl ?_
  refine jT.lc 1 rfl rfl ?_
  refine mj_T.call rfl rfl (Nat.le_of_ble_eq_true rfl) (Nat.le_of_ble_eq_true rfl) (mV_of m 18 cq_d168 (by decide) rfl (by decide) rfl _) rfl (mj_Ok.up (by omega) (mW_setLong (D := 0) (v := ((1 : Nat) : Int)) m cq_d168 ⟨by decide, by decide⟩ (by rw [lc3]; decide +kernel))) (fun v g1 hq => ?_) (fun i g1 hq => ?_)
  rotate_left
  · obtain ⟨_, _, hq⟩ := hq; cases hq
  obtain ⟨_, m2, hq⟩ := hq
  cases hq
  have m2 := m2.to (V' := (jvu V 168 ((1 : Nat) : Int))) (by rfl) rfl
  refine mj_T.eq (pc2 := 8) (st2 := []) ?_ rfl rfl rfl rfl
  refine mj_T.pl rfl rfl rfl rfl ?_
  refine mT_get (v := .int (jn (d : Int))) m2 13 cq_d80 (by decide) rfl (congrArg (fun z : Int => some (Value.int (jn z))) (hX80)) ?_
  refine mj_T.pl rfl rfl rfl rfl ?_
  refine mj_T.isub (a := (d : Int)) (b := 1) rfl ?_
  refine mj_T.pl (loc' := [some (.ref 19), some (.ref 80), some (.long (jl s)), none, some (.int (jn ((d : Int) - 1)))]) rfl rfl rfl rfl ?_
  refine mj_T.eq (mD_str_loop (V := V) hd hs hC (fun V1 h1 m1 f1 f2 => ⟨V1, h1, m1, f1, f2, rfl⟩) d (Nat.le_refl d) _ _ m2 (fun e he => ?_) ?_ (fun x x1 x2 x3 x4 => ?_)) rfl ?_ rfl rfl
  · rw [((jvu_ne _ _ _ (by omega)).trans (rfl : V (80 + 4 + 2 * e) = _))]
    by_cases q : e < d
    · rw [if_pos q]
    · rw [if_neg q, show d - e = 0 by omega, Int.pow_zero, Int.mul_one]
  · rw [Nat.sub_self, Int.pow_zero, (jvu_at _ _ _)]
    rfl
  · rw [((jvu_ne _ _ _ (by omega)).trans (rfl : V x = _))]
  · rfl
theorem mD_stretch0 (m : jM g n V X h) {s : Int} (hX80 : X 80 2 = -1) : mj_Ok (D + 3) 26 [.ref 19, .ref 80, .long (jl s)] h (fun r => ∃ (V2 : Nat → Int) (h2 : mj_H), jM g n V2 X h2 ∧ (∀ e, e < 13 → V2 (80 + 4 + 2 * e) = V (80 + 4 + 2 * e)) ∧ (∀ x, x ≠ 164 → x ≠ 166 → x ≠ 168 → (x < 80 + 4 ∨ 80 + 4 + 26 ≤ x) → V2 x = V x) ∧ r = (.inl none, h2)) := by
  have lc1 : cL (164 + 1) = 240 := mK_z.2.2.2.2.2.2.2.1
  have lc2 : cL (166 + 1) = 240 := mK_z.2.2.2.2.2.2.2.2.1
  have lc3 : cL (168 + 1) = 40 := mK_z.2.2.2.2.2.2.2.2.2.1
  refine mj_Ok.of (M := mj_m26) rfl rfl rfl ?_
  refine mj_T.pl rfl rfl rfl rfl ?_
  refine mT_get m 11 cq_d19 (by decide) rfl rfl ?_
  refine jT.lc 1 rfl rfl ?_
  refine mj_T.call rfl rfl (Nat.le_of_ble_eq_true rfl) (Nat.le_of_ble_eq_true rfl) (mV_of m 18 cq_d168 (by decide) rfl (by decide) rfl _) rfl (mj_Ok.up (by omega) (mW_setLong (D := 0) (v := ((1 : Nat) : Int)) m cq_d168 ⟨by decide, by decide⟩ (by rw [lc3]; decide +kernel))) (fun v g1 hq => ?_) (fun i g1 hq => ?_)
  rotate_left
  · obtain ⟨_, _, hq⟩ := hq; cases hq
  obtain ⟨_, m2, hq⟩ := hq
  cases hq
  have m2 := m2.to (V' := (jvu V 168 ((1 : Nat) : Int))) (by rfl) rfl
  refine mj_T.eq (pc2 := 8) (st2 := []) ?_ rfl rfl rfl rfl
  refine mj_T.pl rfl rfl rfl rfl ?_
  refine mT_get (v := .int (jn (-1))) m2 13 cq_d80 (by decide) rfl (congrArg (fun z : Int => some (Value.int (jn z))) (hX80)) ?_
  refine mj_T.pl rfl rfl rfl rfl ?_
  refine mj_T.isub (a := (-1)) (b := 1) rfl ?_
  refine mj_T.pl (loc' := [some (.ref 19), some (.ref 80), some (.long (jl s)), none, some (.int (jn ((-1) - 1)))]) rfl rfl rfl rfl ?_
  refine mj_T.pl rfl rfl rfl rfl ?_
  refine mj_T.if0 (a := ((-1) - 1)) rfl ⟨by omega, by omega⟩ (fun c3 => ?_) (fun c3 => ?_)
  · simp only [jc, Bool.not_eq_true', Bool.not_eq_false', decide_eq_true_eq, decide_eq_false_iff_not] at c3
    exact mj_T.ret rfl rfl rfl ⟨_, _, m2, fun e he => ((jvu_ne _ _ _ (by omega)).trans (rfl : V (80 + 4 + 2 * e) = _)), fun x x1 x2 x3 x4 => ((jvu_ne _ _ _ (by omega)).trans (rfl : V x = _)), rfl⟩
  · exfalso
    simp [jc] at c3
theorem mD_hor_loop {x c : Int} (hx : x.natAbs ≤ 1000) (hV8 : V 168 = x) (hF : ∀ e, e < 13 → (V (80 + 4 + 2 * e)).natAbs ≤ hrF) {Q : mj_R → Prop} (hend : ∀ (V1 : Nat → Int) (h1 : mj_H), jM g n V1 X h1 → (∀ a, a ≠ 164 → a ≠ 166 → V1 a = V a) → V1 164 = c → Q (.inl (some (.int (jn (jsg c)))), h1)) : ∀ k t, k + t ≤ 13 → ∀ (V1 : Nat → Int) (h1 : mj_H), jM g n V1 X h1 → (∀ a, a ≠ 164 → a ≠ 166 → V1 a = V a) → (V1 164).natAbs ≤ t * (hrF * 1000 ^ t) → hpv (fun e => V (80 + 4 + 2 * e)) x k (V1 164) = c → mj_T (D + 2) mj_m28 13 [some (.ref 19), some (.ref 80), some (.ref 168), some (.int (jn ((k : Int) - 1)))] [] h1 Q
  | 0, t, hk, V1, h1, m, e2, e3, e4 => by
    refine mj_T.pl rfl rfl rfl rfl ?_
    refine mj_T.if0 (a := (((0 : Nat) : Int) - 1)) rfl ⟨by omega, by omega⟩ (fun c1 => ?_) (fun c1 => ?_)
    · simp only [jc, Bool.not_eq_true', Bool.not_eq_false', decide_eq_true_eq, decide_eq_false_iff_not] at c1
      refine mj_T.pl rfl rfl rfl rfl ?_
      refine mT_get m 11 cq_d19 (by decide) rfl rfl ?_
      refine mT_sg m cq_d164 rfl ?_ (hcl := Nat.le_trans (hor_l (by omega) (by omega) e3) (by decide))
      have e5 : V1 164 = c := e4
      rw [e5]
      exact mj_T.ret rfl rfl rfl (hend V1 _ m e2 e5)
    · exfalso
      simp [jc] at c1
  | k + 1, t, hk, V1, h1, m, e2, e3, e4 => by
    have lc1 : cL (164 + 1) = 240 := mK_z.2.2.2.2.2.2.2.1
    have lc2 : cL (166 + 1) = 240 := mK_z.2.2.2.2.2.2.2.2.1
    have lc3 : cL (168 + 1) = 40 := mK_z.2.2.2.2.2.2.2.2.2.1
    have ex : V1 168 = x := (e2 168 (by decide) (by decide)).trans hV8
    have ek : V1 (80 + 4 + 2 * k) = V (80 + 4 + 2 * k) := e2 _ (by omega) (by omega)
    have lc5 : cL (80 + 3) = 13 := mK_z.2.2.1
    have sb := jva_step (k := x) e3 hx (hF k (by omega)) 1 (show (1 : Int).natAbs ≤ 1000 ^ (t + 1) from Nat.one_le_pow _ _ (by decide))
    rw [show ((k + 1 : Nat) : Int) - 1 = (k : Int) by omega]
    refine mj_T.pl rfl rfl rfl rfl ?_
    refine mj_T.if0 (a := ((k : Nat) : Int)) rfl ⟨by omega, by omega⟩ (fun c1 => ?_) (fun c1 => ?_)
    · exfalso
      simp only [jc, Bool.not_eq_true', Bool.not_eq_false', decide_eq_true_eq, decide_eq_false_iff_not] at c1
      omega
    · simp only [jc, Bool.not_eq_true', Bool.not_eq_false', decide_eq_true_eq, decide_eq_false_iff_not] at c1
      refine mj_T.pl rfl rfl rfl rfl ?_
      refine mT_get m 11 cq_d19 (by decide) rfl rfl ?_
      refine mj_T.pl rfl rfl rfl rfl ?_
      refine mT_get m 11 cq_d19 (by decide) rfl rfl ?_
      refine mj_T.pl rfl rfl rfl rfl ?_
      refine mj_T.call rfl rfl (Nat.le_of_ble_eq_true rfl) (Nat.le_of_ble_eq_true rfl) (mV_of m 18 cq_d166 (by decide) rfl (by decide) rfl _) rfl (mj_Ok.up (by omega) (mW_setProduct (D := 0) m cq_d166 cq_d164 cq_d168 (by omega) (by omega) (by omega) (by rw [(rfl : V1 164 = _), (rfl : V1 168 = _)]; exact (by rw [lc2, ex]; exact Nat.le_trans (hor_l (by omega) (by omega) sb.1) (by decide))) (hca := by rw [(rfl : V1 164 = _)]; exact Nat.le_trans (hor_l (by omega) (by omega) e3) (by decide)) (hcb := by rw [(rfl : V1 168 = _)]; rw [ex]; exact Nat.le_trans (jnl_R (by omega)) (by decide)))) (fun v g2 hq => ?_) (fun i g2 hq => ?_)
      rotate_left
      · obtain ⟨_, _, hq⟩ := hq; cases hq
      obtain ⟨_, m3, hq⟩ := hq
      cases hq
      have m3 := m3.to (V' := (jvu V1 166 ((V1 164) * (V1 168)))) (by rw [(rfl : V1 164 = _), (rfl : V1 168 = _)]) rfl
      refine mj_T.eq (pc2 := 29) (st2 := []) ?_ rfl rfl rfl rfl
      refine mj_T.pl rfl rfl rfl rfl ?_
      refine mT_get m3 11 cq_d19 (by decide) rfl rfl ?_
      iterate 2 refine mj_T.pl rfl rfl rfl rfl ?_
      refine mj_T.call rfl rfl (Nat.le_of_ble_eq_true rfl) (Nat.le_of_ble_eq_true rfl) (mV_of m3 13 cq_d80 (by decide) rfl (by decide) rfl _) rfl (mj_Ok.up (by omega) (mP_at (D := 0) m3 cq_d80 (e := k) (by omega))) (fun v g4 hq => ?_) (fun i g4 hq => ?_)
      rotate_left
      · cases hq
      cases hq
      refine mj_T.eq (pc2 := 38) (st2 := [.ref (80 + 4 + 2 * k), .ref 166]) ?_ rfl rfl rfl rfl
      refine mj_T.pl rfl rfl rfl rfl ?_
      refine mj_T.call rfl rfl (Nat.le_of_ble_eq_true rfl) (Nat.le_of_ble_eq_true rfl) (mV_of m3 18 cq_d166 (by decide) rfl (by decide) rfl _) rfl (mj_Ok.up (by omega) (mW_plus (D := 0) (f := 1) m3 cq_d166 ((mK_p cq_d80).2.2.2 _ (by omega)) (by omega) (Or.inl rfl) (by rw [((jvu_ne _ _ _ (by omega)).trans (rfl : V1 (80 + 4 + 2 * k) = _))]; exact (by rw [lc2, ek]; exact Nat.le_trans (hor_l (by omega) (by omega) (m := 1) (n := 0) (by rw [Nat.pow_zero, Nat.mul_one, Nat.one_mul]; exact hF k (by omega))) (by decide))) (by rw [(jvu_at _ _ _), ((jvu_ne _ _ _ (by omega)).trans (rfl : V1 (80 + 4 + 2 * k) = _))]; exact (by rw [lc2, Int.one_mul, ex, ek, ← Int.mul_one (V (80 + 4 + 2 * k))]; exact Nat.le_trans (hor_l (by omega) (by omega) sb.2.2) (by decide))))) (fun v g5 hq => ?_) (fun i g5 hq => ?_)
      rotate_left
      · obtain ⟨_, _, hq⟩ := hq; cases hq
      obtain ⟨_, m6, hq⟩ := hq
      cases hq
      have m6 := m6.to (V' := (jvu (jvu V1 166 ((V1 164) * (V1 168))) 166 (((V1 164) * (V1 168)) + 1 * (V1 (80 + 4 + 2 * k))))) (by rw [(jvu_at _ _ _), ((jvu_ne _ _ _ (by omega)).trans (rfl : V1 (80 + 4 + 2 * k) = _))]) rfl
      refine mj_T.eq (pc2 := 42) (st2 := []) ?_ rfl rfl rfl rfl
      refine mj_T.pl rfl rfl rfl rfl ?_
      refine mT_get m6 11 cq_d19 (by decide) rfl rfl ?_
      refine mj_T.pl rfl rfl rfl rfl ?_
      refine mT_get m6 11 cq_d19 (by decide) rfl rfl ?_
      refine mj_T.call rfl rfl (Nat.le_of_ble_eq_true rfl) (Nat.le_of_ble_eq_true rfl) (mV_of m6 18 cq_d164 (by decide) rfl (by decide) rfl _) rfl (mj_Ok.up (by omega) (mW_set (D := 0) m6 cq_d164 cq_d166 (by omega) (by rw [(jvu_at _ _ _)]; exact (by rw [lc1, Int.one_mul, ex, ek, ← Int.mul_one (V (80 + 4 + 2 * k))]; exact Nat.le_trans (hor_l (by omega) (by omega) sb.2.2) (by decide))))) (fun v g7 hq => ?_) (fun i g7 hq => ?_)
      rotate_left
      · obtain ⟨_, _, hq⟩ := hq; cases hq
      obtain ⟨_, m8, hq⟩ := hq
      cases hq
      have m8 := m8.to (V' := (jvu (jvu (jvu V1 166 ((V1 164) * (V1 168))) 166 (((V1 164) * (V1 168)) + 1 * (V1 (80 + 4 + 2 * k)))) 164 (((V1 164) * (V1 168)) + 1 * (V1 (80 + 4 + 2 * k))))) (by rw [(jvu_at _ _ _)]) rfl
      refine mj_T.eq (pc2 := 53) (st2 := []) ?_ rfl rfl rfl rfl
      refine mj_T.iinc rfl rfl ?_
      refine mj_T.eq (loc2 := [some (.ref 19), some (.ref 80), some (.ref 168), some (.int (jn (((k : Nat) : Int) + (-1))))]) ?_ rfl rfl rfl rfl
      refine mj_T.pl rfl rfl rfl rfl ?_
      refine mj_T.eq (mD_hor_loop hx hV8 hF hend k (t + 1) (by omega) _ _ m8 (fun a a1 a2 => ?_) ?_ ?_) rfl (by rw [show (((k : Nat) : Int) + (-1)) = (k : Int) - 1 by omega]) rfl rfl
      · rw [((jvu_ne _ _ _ (by omega)).trans ((jvu_ne _ _ _ (by omega)).trans ((jvu_ne _ _ _ (by omega)).trans (rfl : V1 a = _))))]
        exact e2 a a1 a2
      · rw [(jvu_at _ _ _), Int.one_mul, ex, ek, ← Int.mul_one (V (80 + 4 + 2 * k))]
        exact sb.2.2
      · rw [(jvu_at _ _ _), Int.one_mul, ex, ek]
        exact e4
theorem mD_hor (m : jM g n V X h) {x : Int} {k : Nat} (hk : k ≤ 13) (hX80 : X 80 2 = (k : Int) - 1) (hx : x.natAbs ≤ 1000) (hV8 : V 168 = x) (hF : ∀ e, e < 13 → (V (80 + 4 + 2 * e)).natAbs ≤ hrF) : mj_Ok (D + 3) 28 [.ref 19, .ref 80, .ref 168] h (fun r => ∃ (V2 : Nat → Int) (h2 : mj_H), jM g n V2 X h2 ∧ V2 164 = hpv (fun e => V (80 + 4 + 2 * e)) x k 0 ∧ (∀ a, a ≠ 164 → a ≠ 166 → V2 a = V a) ∧ r = (.inl (some (.int (jn (jsg (hpv (fun e => V (80 + 4 + 2 * e)) x k 0))))), h2)) := by
  have lc1 : cL (164 + 1) = 240 := mK_z.2.2.2.2.2.2.2.1
  have lc2 : cL (166 + 1) = 240 := mK_z.2.2.2.2.2.2.2.2.1
  have lc3 : cL (168 + 1) = 40 := mK_z.2.2.2.2.2.2.2.2.2.1
  refine mj_Ok.of (M := mj_m28) rfl rfl rfl ?_
  refine mj_T.pl rfl rfl rfl rfl ?_
  refine mT_get m 11 cq_d19 (by decide) rfl rfl ?_
  refine jT.lc 0 rfl rfl ?_
  refine mj_T.call rfl rfl (Nat.le_of_ble_eq_true rfl) (Nat.le_of_ble_eq_true rfl) (mV_of m 18 cq_d164 (by decide) rfl (by decide) rfl _) rfl (mj_Ok.up (by omega) (mW_setLong (D := 0) (v := ((0 : Nat) : Int)) m cq_d164 ⟨by decide, by decide⟩ (by rw [lc1]; decide +kernel))) (fun v g1 hq => ?_) (fun i g1 hq => ?_)
  rotate_left
  · obtain ⟨_, _, hq⟩ := hq; cases hq
  obtain ⟨_, m2, hq⟩ := hq
  cases hq
  have m2 := m2.to (V' := (jvu V 164 ((0 : Nat) : Int))) (by rfl) rfl
  refine mj_T.eq (pc2 := 8) (st2 := []) ?_ rfl rfl rfl rfl
  refine mj_T.pl rfl rfl rfl rfl ?_
  refine mT_get (v := .int (jn ((k : Int) - 1))) m2 13 cq_d80 (by decide) rfl (congrArg (fun z : Int => some (Value.int (jn z))) (hX80)) ?_
  refine mj_T.pl (loc' := [some (.ref 19), some (.ref 80), some (.ref 168), some (.int (jn ((k : Int) - 1)))]) rfl rfl rfl rfl ?_
  exact mj_T.eq (mD_hor_loop (V := jvu V 164 0) hx ((jvu_ne _ _ _ (by decide)).trans hV8) (fun e he => by rw [jvu_ne _ _ _ (by omega)]; exact hF e he) (fun V1 h1 m1 f1 f2 => ⟨V1, h1, m1, f2, fun a a1 a2 => (f1 a a1 a2).trans (jvu_ne _ _ _ a1), rfl⟩) k 0 (by omega) _ _ m2 (fun a a1 a2 => rfl) (by rw [jvu_at]; exact Nat.zero_le _) (by rw [jvu_at]; exact hpv_cg _ _ (fun j hj => jvu_ne _ _ _ (by omega)))) rfl rfl rfl rfl
end MVV
/-! The value at a fraction: answers on both sides. -/
abbrev okfr (x y : Int) : Prop := (-1000 ≤ x ∧ x ≤ 1000) ∧ (1 ≤ y ∧ y ≤ 1000)
abbrev A_value (N : Nat → Int) (a x y : Int) : Int → Int → Prop := an [(0 ≤ a ∧ a ≤ 5, 1), (okfr x y, 2)] (fun z => z = jsg (vlz (rwN N a) x y))
theorem A_value.ag {N : Nat → Int} {a x y c1 z1 c2 z2 : Int} (p : A_value N a x y c1 z1) (q : A_value N a x y c2 z2) : c1 = c2 ∧ (c1 = 0 → z1 = z2) := an.ag (fun _ _ a b => a.trans b.symm) (by simp) p q
theorem tq_g {v y : Int} (hy : 1 ≤ y ∧ y ≤ 1000) : 1 ≤ ((Nat.gcd v.natAbs y.natAbs : Nat) : Int) ∧ ((Nat.gcd v.natAbs y.natAbs : Nat) : Int) ≤ y ∧ ((Nat.gcd v.natAbs y.natAbs : Nat) : Int) ∣ v := by
  have h1 : 0 < Nat.gcd v.natAbs y.natAbs := Nat.gcd_pos_of_pos_right _ (by omega)
  have h2 := Nat.le_of_dvd (by omega) (Nat.gcd_dvd_right v.natAbs y.natAbs)
  exact ⟨by omega, by omega, Int.ofNat_dvd_left.mpr (Nat.gcd_dvd_left _ _)⟩
theorem tq_l {v : Int} {i : Nat} (hi : i ≤ 13) (h : v.natAbs ≤ 1000 ^ i) : jnl v.natAbs ≤ 10 := jnl_le_lt.mpr (Nat.lt_of_le_of_lt (Nat.le_trans h (Nat.pow_le_pow_right (by decide) hi)) (by decide +kernel))
theorem vlz_9 {f : Nat → Int} {x y : Int} (hf : ∀ e, e < 13 → (f e).natAbs ≤ 999999999999999999) (hx : x.natAbs ≤ 1000) (hy : y.natAbs ≤ 1000) : jnl (vlz f x y).natAbs ≤ 9 := jnl_le_lt.mpr (Nat.lt_of_le_of_lt (vlz_bd (Z := 1000) (by decide) hf hx hy) (by decide +kernel))
section MVW
variable {g h : mj_H} {n D u r : Nat} {V : Nat → Int} {X : Nat → Nat → Int} {N : Nat → Int} {H : Nat → Nat → Int}
theorem mD_strk (m : jM g n V X h) {k : Nat} {s : Int} (hk : k ≤ 13) (hX80 : X 80 2 = (k : Int) - 1) (hs : 1 ≤ s ∧ s ≤ 1000) (hC : ∀ e, e < 13 → (V (80 + 4 + 2 * e)).natAbs ≤ 2000000000000000000) : mj_Ok (D + 3) 26 [.ref 19, .ref 80, .long (jl s)] h (fun r => ∃ (V2 : Nat → Int) (h2 : mj_H), jM g n V2 X h2 ∧ (∀ e, e < 13 → V2 (80 + 4 + 2 * e) = V (80 + 4 + 2 * e) * s ^ ((k - 1) - e)) ∧ r = (.inl none, h2)) := by
  rcases Nat.eq_zero_or_pos k with q | q
  · subst q
    exact (mD_stretch0 m (by rw [hX80]; rfl)).to (fun r o => by
      obtain ⟨V2, h2, m2, e1, e2, e3⟩ := o
      exact ⟨V2, h2, m2, fun e he => by rw [e1 e he, Nat.zero_sub, Int.pow_zero, Int.mul_one], e3⟩)
  · obtain ⟨d, rfl⟩ : ∃ d, k = d + 1 := ⟨k - 1, by omega⟩
    rw [Nat.add_sub_cancel]
    exact (mD_stretch m (d := d) (by omega) (by rw [hX80]; omega) hs hC).to (fun r o => by
      obtain ⟨V2, h2, m2, e1, e2, e3⟩ := o
      exact ⟨V2, h2, m2, e1, e3⟩)
theorem mD_value (m : jM g n V X h) (kr : cK r = 2) (hX : ∀ i, i < 13 → (X r i).natAbs ≤ 2000000000000000000) {x y : Int} (hx : x.natAbs ≤ 1000) (hy : 1 ≤ y ∧ y ≤ 1000) : mj_Ok (D + 5) 27 [.ref 19, .ref r, .int (jn x), .int (jn y)] h (fun z => ∃ (V2 : Nat → Int) (h2 : mj_H), jM g n V2 (xup X 80 2 ((fdg (X r) 13 : Int) - 1)) h2 ∧ V2 164 = vlz (X r) x y ∧ z = (.inl (some (.int (jn (jsg (vlz (X r) x y))))), h2)) := by
  have hl := fdg_le (X r) 13
  have c3 : cL (168 + 1) = 40 := mK_z.2.2.2.2.2.2.2.2.2.1
  refine mj_Ok.of (M := mj_m27) rfl rfl rfl ?_
  refine mj_T.pl rfl rfl rfl rfl ?_
  refine mT_get m 11 cq_d19 (by decide) rfl rfl ?_
  refine mj_T.pl rfl rfl rfl rfl ?_
  refine jT.lc 1 rfl rfl ?_
  refine mj_T.call rfl rfl (Nat.le_of_ble_eq_true rfl) (Nat.le_of_ble_eq_true rfl) (mV_of m 13 cq_d80 (by decide) rfl (by decide) rfl _) rfl (mj_Ok.up (by omega) (mP_loadR1 (D := 0) m cq_d80 kr (by decide +kernel) hX (fun i hi => by have := mK_z.2.2.2.2.1 i hi; omega))) (fun v g1 hq => ?_) (fun i g1 hq => by obtain ⟨_, _, hq⟩ := hq; cases hq)
  obtain ⟨_, m3, hq⟩ := hq
  cases hq
  have a1 : ∀ e, e < 13 → pfl V 80 (X r) 13 (80 + 4 + 2 * e) = X r e := fun e he => pfl_at V 80 (X r) he
  generalize pfl V 80 (X r) 13 = V1 at m3 a1
  refine mj_T.eq (pc2 := 9) (st2 := []) ?_ rfl rfl rfl rfl
  iterate 2 refine mj_T.pl rfl rfl rfl rfl ?_
  refine mT_get m3 11 cq_d19 (by decide) rfl rfl ?_
  refine mj_T.pl rfl rfl rfl rfl ?_
  refine mj_T.i2l rfl ⟨by omega, by omega⟩ ?_
  refine mj_T.call rfl rfl (Nat.le_of_ble_eq_true rfl) (Nat.le_of_ble_eq_true rfl) (mV_of m3 11 cq_d19 (by decide) rfl (by decide) rfl _) rfl (mj_Ok.up (by omega) (mD_strk (D := 0) m3 hl (xup_at _ _ _ _) hy (fun e he => by rw [a1 e he]; exact hX e he))) (fun v g6 hq => ?_) (fun i g6 hq => by obtain ⟨_, _, _, _, hq⟩ := hq; cases hq)
  obtain ⟨V7, _, m8, b1, hq⟩ := hq
  cases hq
  refine mj_T.eq (pc2 := 19) (st2 := []) ?_ rfl rfl rfl rfl
  refine mj_T.pl rfl rfl rfl rfl ?_
  refine mT_get m8 11 cq_d19 (by decide) rfl rfl ?_
  refine mj_T.pl rfl rfl rfl rfl ?_
  refine mj_T.i2l rfl ⟨by omega, by omega⟩ ?_
  refine mj_T.call rfl rfl (Nat.le_of_ble_eq_true rfl) (Nat.le_of_ble_eq_true rfl) (mV_of m8 18 cq_d168 (by decide) rfl (by decide) rfl _) rfl (mj_Ok.up (by omega) (mW_setLong (D := 0) (v := x) m8 cq_d168 ⟨by omega, by omega⟩ (by rw [c3]; exact Nat.le_trans (jR_l10 ⟨by omega, by omega⟩) (by decide)))) (fun v g10 hq => ?_) (fun i g10 hq => by obtain ⟨_, _, hq⟩ := hq; cases hq)
  obtain ⟨_, m12, hq⟩ := hq
  cases hq
  have d1 : jvu V7 168 x 168 = x := jvu_at _ _ _
  have d2 : ∀ s, s ≠ 168 → jvu V7 168 x s = V7 s := fun s hne => jvu_ne _ _ _ hne
  generalize jvu V7 168 x = V9 at m12 d1 d2
  have f1 : ∀ e, e < 13 → V9 (80 + 4 + 2 * e) = X r e * y ^ ((fdg (X r) 13 - 1) - e) := fun e he => by rw [d2 _ (by omega), b1 e he, a1 e he]
  have f2 : hpv (fun e => V9 (80 + 4 + 2 * e)) x (fdg (X r) 13) 0 = vlz (X r) x y := hpv_cg _ _ (fun j hj => f1 j (by omega))
  refine mj_T.eq (pc2 := 28) (st2 := []) ?_ rfl rfl rfl rfl
  iterate 2 refine mj_T.pl rfl rfl rfl rfl ?_
  refine mT_get m12 11 cq_d19 (by decide) rfl rfl ?_
  refine mj_T.pl rfl rfl rfl rfl ?_
  refine mT_get m12 11 cq_d19 (by decide) rfl rfl ?_
  refine mj_T.call rfl rfl (Nat.le_of_ble_eq_true rfl) (Nat.le_of_ble_eq_true rfl) (mV_of m12 11 cq_d19 (by decide) rfl (by decide) rfl _) rfl (mj_Ok.up (by omega) (mD_hor (D := 0) m12 hl (xup_at _ _ _ _) hx d1 (fun e he => by rw [f1 e he]; exact (str_c (hX e he) hy (by omega)).1))) (fun v g14 hq => ?_) (fun i g14 hq => by obtain ⟨_, _, _, _, _, hq⟩ := hq; cases hq)
  obtain ⟨V17, _, m16, e1, _, hq⟩ := hq
  rw [f2] at e1 hq
  cases hq
  refine mj_T.eq (pc2 := 40) (st2 := [.int (jn (jsg (vlz (X r) x y)))]) ?_ rfl rfl rfl rfl
  exact mj_T.ret rfl rfl rfl ⟨V17, _, m16, e1, rfl⟩
theorem mX_tq_loop {c y t : Int} (hy : 1 ≤ y ∧ y ≤ 1000) (ht : -1 ≤ t ∧ t ≤ 12) : ∀ (k i : Nat), t - (i : Int) ≤ k → i ≤ 13 → ∀ (l6 : Option Value) (V : Nat → Int) (h : mj_H), jM g n V X h → jsg (V 477) = c → jnl (V 477).natAbs ≤ 9 → (V 479).natAbs ≤ 1000 ^ i → mj_T (D + 3) mj_m159 19 [some (.ref 1), some (.ref 164), some (.long (jl y)), none, some (.int (jn t)), some (.int (jn (i : Int))), l6, none] [] h (fun r => r.1 = .inl (some (.int (jn c))))
  | 0, i, hi, h13, l6, V, h, m, e1, e2, e3 => by
    iterate 2 refine mj_T.pl rfl rfl rfl rfl ?_
    refine mj_T.icmp (a := (i : Int)) (b := t) rfl ⟨by omega, by omega⟩ ⟨by omega, by omega⟩ (fun c1 => ?_) (fun c1 => ?_)
    · simp only [jc, Bool.not_eq_true', Bool.not_eq_false', decide_eq_true_eq, decide_eq_false_iff_not] at c1
      refine mj_T.pl rfl rfl rfl rfl ?_
      refine mT_get m 19 cq_d1 (by decide) rfl rfl ?_
      refine mT_sg m cq_d477 rfl ?_ (by omega)
      rw [e1]
      exact mj_T.ret rfl rfl rfl rfl
    · exfalso
      simp only [jc, Bool.not_eq_true', Bool.not_eq_false', decide_eq_true_eq, decide_eq_false_iff_not] at c1
      omega
  | k + 1, i, hi, h13, l6, V, h, m, e1, e2, e3 => by
    obtain ⟨k7, k9, l8, l0⟩ := ck_47
    iterate 2 refine mj_T.pl rfl rfl rfl rfl ?_
    refine mj_T.icmp (a := (i : Int)) (b := t) rfl ⟨by omega, by omega⟩ ⟨by omega, by omega⟩ (fun c1 => ?_) (fun c1 => ?_)
    · simp only [jc, Bool.not_eq_true', Bool.not_eq_false', decide_eq_true_eq, decide_eq_false_iff_not] at c1
      refine mj_T.pl rfl rfl rfl rfl ?_
      refine mT_get m 19 cq_d1 (by decide) rfl rfl ?_
      refine mT_sg m cq_d477 rfl ?_ (by omega)
      rw [e1]
      exact mj_T.ret rfl rfl rfl rfl
    · simp only [jc, Bool.not_eq_true', Bool.not_eq_false', decide_eq_true_eq, decide_eq_false_iff_not] at c1
      refine mj_T.pl rfl rfl rfl rfl ?_
      refine mT_get m 19 cq_d1 (by decide) rfl rfl ?_
      refine mj_T.pl rfl rfl rfl rfl ?_
      refine mT_get m 19 cq_d1 (by decide) rfl rfl ?_
      refine mj_T.pl rfl rfl rfl rfl ?_
      refine mj_T.call rfl rfl (Nat.le_of_ble_eq_true rfl) (Nat.le_of_ble_eq_true rfl) (mV_of m 11 cq_d19 (by decide) rfl (by decide) rfl _) rfl (mj_Ok.up (by omega) (mD_common (D := 0) m k7 ⟨by decide, by decide, by decide⟩ (f := y) (by omega) (by omega) (by omega))) (fun v g3 hq => ?_) (fun i g3 hq => by obtain ⟨_, _, _, _, hq⟩ := hq; cases hq)
      obtain ⟨V4, _, m5, q4, hq⟩ := hq
      cases hq
      obtain ⟨p1, p2, p3⟩ := tq_g (v := V 477) hy
      generalize ((Nat.gcd (V 477).natAbs y.natAbs : Nat) : Int) = q at p1 p2 p3 ⊢
      have f4 : V4 477 = V 477 := q4 477 (by decide) (by decide) (by decide) (by decide) (by decide)
      have f5 : V4 479 = V 479 := q4 479 (by decide) (by decide) (by decide) (by decide) (by decide)
      refine mj_T.eq (pc2 := 38) (st2 := [.long (jl q)]) ?_ rfl rfl rfl rfl
      refine mj_T.pl (loc' := [some (.ref 1), some (.ref 164), some (.long (jl y)), none, some (.int (jn t)), some (.int (jn (i : Int))), some (.long (jl q)), none]) rfl rfl rfl rfl ?_
      refine mj_T.pl rfl rfl rfl rfl ?_
      refine mT_get m5 19 cq_d1 (by decide) rfl rfl ?_
      refine mj_T.pl rfl rfl rfl rfl ?_
      refine mT_get m5 19 cq_d1 (by decide) rfl rfl ?_
      refine mj_T.pl rfl rfl rfl rfl ?_
      refine mj_T.call rfl rfl (Nat.le_of_ble_eq_true rfl) (Nat.le_of_ble_eq_true rfl) (mV_of m5 11 cq_d19 (by decide) rfl (by decide) rfl _) rfl (mj_Ok.up (by omega) (mD_lessen (D := 0) m5 k7 ⟨by decide, by decide, by decide⟩ (f := q) (by omega) (by rw [l8, f4]; omega) (by rw [f4]; omega))) (fun v g8 hq => ?_) (fun i g8 hq => by obtain ⟨_, _, _, _, _, hq⟩ := hq; cases hq)
      obtain ⟨V9, _, m10, w9, q9, hq⟩ := hq
      cases hq
      have f9 : V9 479 = V 479 := (q9 479 (by decide) (by decide) (by decide) (by decide) (by decide)).trans f5
      have d1 : (y.tdiv q).natAbs ≤ 1000 := by
        rw [Int.natAbs_tdiv]
        exact Nat.le_trans (Nat.div_le_self _ _) (by omega)
      have d2 : (V 479 * y.tdiv q).natAbs ≤ 1000 ^ (i + 1) := by
        rw [Int.natAbs_mul, Nat.pow_succ]
        exact Nat.mul_le_mul e3 d1
      have d3 := tq_l (i := i + 1) (by omega) d2
      have d4 := tq_l h13 e3
      refine mj_T.eq (pc2 := 53) (st2 := []) ?_ rfl rfl rfl rfl
      refine mj_T.pl rfl rfl rfl rfl ?_
      refine mT_get m10 19 cq_d1 (by decide) rfl rfl ?_
      refine mj_T.pl rfl rfl rfl rfl ?_
      refine mT_get m10 19 cq_d1 (by decide) rfl rfl ?_
      refine mj_T.pl rfl rfl rfl rfl ?_
      refine jT.lc 0 rfl rfl ?_
      refine mj_T.lif (a := q) (b := ((0 : Nat) : Int)) rfl rfl ⟨by omega, by omega⟩ ⟨by omega, by omega⟩ (fun c12 => ?_) (fun c12 => ?_)
      · iterate 2 refine mj_T.pl rfl rfl rfl rfl ?_
        refine mT_ldiv rfl ⟨by omega, by omega⟩ (by omega) ⟨by omega, by omega⟩ (by omega) ?_
        refine mj_T.call rfl rfl (Nat.le_of_ble_eq_true rfl) (Nat.le_of_ble_eq_true rfl) (mV_of m10 11 cq_d19 (by decide) rfl (by decide) rfl _) rfl (mj_Ok.up (by omega) (mD_enlarge (D := 0) m10 k9 ⟨by decide, by decide⟩ (f := y.tdiv q) (by omega) (by rw [l0, f9]; exact d3) (by rw [f9]; omega) (by rw [f9]; omega))) (fun v g14 hq => ?_) (fun i g14 hq => by obtain ⟨_, _, _, _, _, hq⟩ := hq; cases hq)
        obtain ⟨V15, _, m16, w15, q15, hq⟩ := hq
        cases hq
        have f15 : V15 477 = (V 477).tdiv q := (q15 477 (by decide) (by decide) (by decide)).trans (w9.trans (by rw [f4]))
        refine mj_T.eq (pc2 := 79) (st2 := []) ?_ rfl rfl rfl rfl
        refine mj_T.iinc rfl rfl ?_
        rw [show ((i : Nat) : Int) + 1 = ((i + 1 : Nat) : Int) by omega]
        refine mj_T.eq (loc2 := [some (.ref 1), some (.ref 164), some (.long (jl y)), none, some (.int (jn t)), some (.int (jn ((i + 1 : Nat) : Int))), some (.long (jl q)), none]) ?_ rfl rfl rfl rfl
        refine mj_T.pl rfl rfl rfl rfl ?_
        refine mX_tq_loop hy ht k (i + 1) (by omega) (by omega) _ _ _ m16 (by rw [f15, jsg_tdivd (by omega) p3]; exact e1) ?_ (by rw [w15, f9]; exact d2)
        rw [f15]
        refine jnl_le_lt.mpr (Nat.lt_of_le_of_lt ?_ (jnl_le_lt.mp e2))
        rw [Int.natAbs_tdiv]
        exact Nat.div_le_self _ _
      · exfalso
        simp only [jc, Bool.not_eq_true', Bool.not_eq_false', decide_eq_true_eq, decide_eq_false_iff_not] at c12
        omega
theorem mX_tellQ (m : jM g n V X h) {w y : Int} (hw : V 164 = w) (hb : jnl w.natAbs ≤ 9) (hy : 1 ≤ y ∧ y ≤ 1000) {t : Int} (ht : -1 ≤ t ∧ t ≤ 12) : mj_Ok (D + 4) 159 [.ref 1, .ref 164, .long (jl y), .int (jn t)] h (fun z => z.1 = .inl (some (.int (jn (jsg w))))) := by
  obtain ⟨k7, k9, l8, l0⟩ := ck_47
  refine mj_Ok.of (M := mj_m159) rfl rfl rfl ?_
  refine mj_T.pl rfl rfl rfl rfl ?_
  refine mT_get m 19 cq_d1 (by decide) rfl rfl ?_
  refine mj_T.pl rfl rfl rfl rfl ?_
  refine mj_T.call rfl rfl (Nat.le_of_ble_eq_true rfl) (Nat.le_of_ble_eq_true rfl) (mV_of m 18 k7 (by decide) rfl (by decide) rfl _) rfl (mj_Ok.up (by omega) (mW_set (D := 0) m k7 cq_d164 (by decide) (by rw [l8, hw]; omega))) (fun v g1 hq => ?_) (fun i g1 hq => by obtain ⟨_, _, hq⟩ := hq; cases hq)
  obtain ⟨_, m3, hq⟩ := hq
  cases hq
  refine mj_T.eq (pc2 := 8) (st2 := []) ?_ rfl rfl rfl rfl
  refine mj_T.pl rfl rfl rfl rfl ?_
  refine mT_get m3 19 cq_d1 (by decide) rfl rfl ?_
  refine mj_T.pl rfl rfl rfl rfl ?_
  refine mj_T.eq (st2 := [.long (jl 1), .ref 479]) ?_ rfl rfl rfl rfl
  refine mj_T.call rfl rfl (Nat.le_of_ble_eq_true rfl) (Nat.le_of_ble_eq_true rfl) (mV_of m3 18 k9 (by decide) rfl (by decide) rfl _) rfl (mj_Ok.up (by omega) (mW_setLong (D := 0) (v := 1) m3 k9 ⟨by decide, by decide⟩ (by rw [l0]; exact jR_l10 ⟨by decide, by decide⟩))) (fun v g5 hq => ?_) (fun i g5 hq => by obtain ⟨_, _, hq⟩ := hq; cases hq)
  obtain ⟨_, m7, hq⟩ := hq
  cases hq
  have e1 : jvu (jvu V 477 (V 164)) 479 1 477 = w := (jvu_ne _ _ _ (by decide)).trans ((jvu_at _ _ _).trans hw)
  have e2 : jvu (jvu V 477 (V 164)) 479 1 479 = 1 := jvu_at _ _ _
  refine mj_T.eq (pc2 := 16) (st2 := []) ?_ rfl rfl rfl rfl
  refine mj_T.pl rfl rfl rfl rfl ?_
  refine mj_T.pl (loc' := [some (.ref 1), some (.ref 164), some (.long (jl y)), none, some (.int (jn t)), some (.int (jn ((0 : Nat) : Int))), none, none]) rfl rfl rfl rfl ?_
  exact mX_tq_loop hy ht 13 0 (by omega) (by decide) none _ _ m7 (by rw [e1]) (by rw [e1]; exact hb) (by rw [e2]; decide)
theorem cv_124 (A : AS N u H) (s : cC N u H h) {a : Int} (ra : -2147483648 ≤ a ∧ a ≤ 2147483647) {f1 : Int} (rf1 : -2147483648 ≤ f1 ∧ f1 ≤ 2147483647) {f2 : Int} (rf2 : -2147483648 ≤ f2 ∧ f2 ≤ 2147483647) : mj_Ok 59 124 [.ref 1, .int (jn a), .int (jn f1), .int (jn f2)] h (cA (fun k => if k = 0 then 1 else 2) (A_value N a f1 f2)) := by
  obtain ⟨V, X, m, b, d, c, jx⟩ := cS.nr A s
  have jx : rjR X := jx
  refine mj_Ok.of (M := mj_m124) rfl rfl rfl ?_
  iterate 2 refine mj_T.pl rfl rfl rfl rfl ?_
  refine mj_T.call rfl rfl (Nat.le_of_ble_eq_true rfl) (Nat.le_of_ble_eq_true rfl) (mV_of m 19 cq_d1 (by decide) rfl (by decide) rfl _) rfl (mj_Ok.up (by omega) (mC_rowOf (D := 0) m (i := a) (by omega))) (fun v g1 hq => ?_) (fun i g1 hq => ?_)
  rotate_left
  · rcases hq with ⟨_, hq⟩ | ⟨hn, hq⟩
    · cases hq
    · cases hq
      exact Or.inl ⟨rfl, fun z => an.n hn⟩
  rcases hq with ⟨ka, hq⟩ | ⟨_, hq⟩
  rotate_left
  · cases hq
  cases hq
  refine mj_T.eq (pc2 := 5) (st2 := [.ref (4 + a.toNat)]) ?_ rfl rfl rfl rfl
  refine mj_T.pl (loc' := [some (.ref 1), some (.int (jn a)), some (.int (jn f1)), some (.int (jn f2)), some (.ref (4 + a.toNat))]) rfl rfl rfl rfl ?_
  iterate 2 refine mj_T.pl rfl rfl rfl rfl ?_
  refine mj_T.call rfl rfl (Nat.le_of_ble_eq_true rfl) (Nat.le_of_ble_eq_true rfl) rfl rfl (mj_Ok.up (by omega) (mC_fraction (D := 0) (i := f1) (j := f2) (by omega) (by omega))) (fun v g2 hq => ?_) (fun i g2 hq => ?_)
  rotate_left
  · rcases hq with ⟨_, hq⟩ | ⟨hn, hq⟩
    · cases hq
    · cases hq
      exact Or.inl ⟨rfl, fun z => an.y ka (an.n hn)⟩
  rcases hq with ⟨kf, hq⟩ | ⟨_, hq⟩
  rotate_left
  · cases hq
  cases hq
  refine mj_T.eq (pc2 := 12) (st2 := []) ?_ rfl rfl rfl rfl
  refine mj_T.pl rfl rfl rfl rfl ?_
  refine mT_get m 19 cq_d1 (by decide) rfl rfl ?_
  iterate 3 refine mj_T.pl rfl rfl rfl rfl ?_
  refine mj_T.call rfl rfl (Nat.le_of_ble_eq_true rfl) (Nat.le_of_ble_eq_true rfl) (mV_of m 11 cq_d19 (by decide) rfl (by decide) rfl _) rfl (mj_Ok.up (by omega) (mD_value (D := 0) m (mK_rt a.toNat (by omega)) (fun i hi => by have := c.sm A.1 ka i hi; omega) (x := f1) (y := f2) (by omega) kf.2)) (fun v g3 hq => ?_) (fun i g3 hq => ?_)
  rotate_left
  · obtain ⟨_, _, _, _, hq⟩ := hq; cases hq
  obtain ⟨V4, _, m5, w4, hq⟩ := hq
  cases hq
  have hj4 := jsg_range (vlz (X (4 + a.toNat)) f1 f2)
  refine mj_T.eq (pc2 := 23) (st2 := [.int (jn (jsg (vlz (X (4 + a.toNat)) f1 f2)))]) ?_ rfl rfl rfl rfl
  iterate 3 refine mj_T.pl rfl rfl rfl rfl ?_
  refine mT_get m5 19 cq_d1 (by decide) rfl rfl ?_
  refine mT_get m5 11 cq_d19 (by decide) rfl rfl ?_
  refine mj_T.pl rfl rfl rfl rfl ?_
  refine mj_T.i2l rfl ⟨by omega, by omega⟩ ?_
  refine mj_T.pl rfl rfl rfl rfl ?_
  refine mj_T.call rfl rfl (Nat.le_of_ble_eq_true rfl) (Nat.le_of_ble_eq_true rfl) rfl rfl (mj_Ok.up (by omega) (mS_deg (D := 0) m5 (mK_rt a.toNat (by omega)) ((c.sb ((sBn.rf X).tr (sBn.deg cq_d80))).sm A.1 ka))) (fun v g6 hq => ?_) (fun i g6 hq => ?_)
  rotate_left
  · cases hq
  cases hq
  have ga := fdg_le ((xup X 80 2 ((fdg (X (4 + a.toNat)) 13 : Int) - 1)) (4 + a.toNat)) 13
  refine mj_T.eq (pc2 := 39) (st2 := [.int (jn (((fdg ((xup X 80 2 ((fdg (X (4 + a.toNat)) 13 : Int) - 1)) (4 + a.toNat)) 13) : Int) - 1)), .long (jl f2), .ref 164, .ref 1]) ?_ rfl rfl rfl rfl
  refine mj_T.call rfl rfl (Nat.le_of_ble_eq_true rfl) (Nat.le_of_ble_eq_true rfl) (mV_of m5 19 cq_d1 (by decide) rfl (by decide) rfl _) rfl (mj_Ok.up (by omega) (mX_tellQ (D := 0) m5 w4 (vlz_9 (fun e he => by have := c.sm A.1 ka e he; omega) (by omega) (by omega)) kf.2 (t := (((fdg ((xup X 80 2 ((fdg (X (4 + a.toNat)) 13 : Int) - 1)) (4 + a.toNat)) 13) : Int) - 1)) ⟨by omega, by omega⟩)) (fun v g7 hq => ?_) (fun i g7 hq => ?_)
  rotate_left
  · cases hq
  have hq : (Sum.inl v : Option Value ⊕ Nat) = .inl (some (.int (jn (jsg (vlz (X (4 + a.toNat)) f1 f2))))) := hq
  cases hq
  refine mj_T.eq (pc2 := 42) (st2 := [.int (jn (jsg (vlz (X (4 + a.toNat)) f1 f2)))]) ?_ rfl rfl rfl rfl
  exact mj_T.ret rfl rfl rfl ⟨_, ⟨by omega, by omega⟩, rfl, an.y ka (an.y kf (an.e (congrArg jsg (vlz_cg (c.rw ka)))))⟩
end MVW
section RVW
variable {D : Nat} {hp h : mj_H} {q0 q1 q2 q3 : Nat} {fs : List Value} {V : Nat → Int} {p : Nat}
theorem jx_va (G : jG hp q0 q1 q2 q3 fs) (hpp : p ≤ 49) {C x d : Nat} {c : Int} (hd : d ≤ 12) (hC : ∀ e, e < 13 → (V (p * 13 + e)).natAbs ≤ C) (hK : (V 656).natAbs ≤ x) (hN : (V 657).natAbs ≤ x) (hx : 1 ≤ x) (hfit : 13 * (C * x ^ 12) < jB ^ 698) (hfit2 : x ^ 12 < jB ^ 698) {Q : mj_R → Prop}
    (hend : ∀ (W : Nat → Int) (h : mj_H), jS hp q1 q2 q3 W h → (∀ s, s ≠ 652 → s ≠ 659 → s ≠ 660 → W s = V s) → (W 659).natAbs ≤ 13 * (C * x ^ 12) → (W 660).natAbs ≤ x ^ 12 → (V 657 ≠ 0 → W 660 ≠ 0) → W 659 = c → Q (.inl (some (.int (jn (jsg (W 659))))), h)) :
    ∀ (m n : Nat) (W : Nat → Int) (h : mj_H), n + m = d → jS hp q1 q2 q3 W h → (∀ s, s ≠ 652 → s ≠ 659 → s ≠ 660 → W s = V s) → (W 659).natAbs ≤ (n + 1) * (C * x ^ n) → (W 660).natAbs ≤ x ^ n → (V 657 ≠ 0 → W 660 ≠ 0) → hvz (fun e => V (p * 13 + e)) (V 656) (V 657) m (W 659) (W 660) = c → mj_T (D + 4) mj_m215 44 [some (.ref q0), some (.int (jn (p : Nat))), some (.int (jn (d : Nat))), some (.int (jn ((m : Nat) - 1 : Int)))] [] h Q := by
  have mono : ∀ n, n ≤ 12 → x ^ n ≤ x ^ 12 := fun n hn => Nat.pow_le_pow_right hx hn
  have monoC : ∀ k n, k ≤ 13 → n ≤ 12 → k * (C * x ^ n) ≤ 13 * (C * x ^ 12) := fun k n hk hn => Nat.mul_le_mul hk (Nat.mul_le_mul_left _ (mono n hn))
  intro m
  induction m with
  | zero =>
    intro n W h hn hs hf h1 h2 h3 hz9
    refine mj_T.pl rfl rfl rfl rfl ?_
    refine mj_T.if0 (a := ((0 : Nat) : Int) - 1) rfl ⟨by decide, by decide⟩ (fun hc => ?_) (fun hc => ?_)
    · iterate 2 refine mj_T.pl rfl rfl rfl rfl ?_
      refine mj_T.call (ins := .invokevirtual 68) rfl rfl (Nat.le_of_ble_eq_true rfl) (Nat.le_of_ble_eq_true rfl) (by simp [mj_recv, jS_a G hs]) rfl (jS_sign (D := D + 3) G (s := 659) (by decide) hs) (fun v' h' hq' => ?_) (fun i h' hq' => by cases hq')
      cases hq'
      exact mj_T.ret rfl rfl rfl (hend W h hs hf (Nat.le_trans h1 (monoC _ _ (by omega) (by omega))) (Nat.le_trans h2 (mono _ (by omega))) h3 hz9)
    · simp [jc] at hc
  | succ m ih =>
    intro n W h hn hs hf h1 h2 h3 hz9
    have q2 : (W 660 * W 657).natAbs ≤ x ^ (n + 1) := by
      rw [Int.natAbs_mul, Nat.pow_succ, hf 657 (by decide) (by decide) (by decide)]
      exact Nat.mul_le_mul h2 hN
    have q3 : V 657 ≠ 0 → W 660 * W 657 ≠ 0 := fun hz e => by
      rcases Int.mul_eq_zero.mp e with e | e
      · exact h3 hz e
      · rw [hf 657 (by decide) (by decide) (by decide)] at e
        exact hz e
    obtain ⟨s1, s2, s3⟩ := jva_step h1 hK (hC m (by omega)) _ q2
    refine mj_T.pl rfl rfl rfl rfl ?_
    refine mj_T.if0 (a := ((m + 1 : Nat) : Int) - 1) rfl ⟨by omega, by omega⟩ (fun hc => ?_) (fun hc => ?_)
    · simp only [jc, decide_eq_true_eq] at hc
      omega
    rw [show ((m + 1 : Nat) : Int) - 1 = (m : Int) by omega]
    iterate 4 refine mj_T.pl rfl rfl rfl rfl ?_
    refine mj_T.call (ins := .invokevirtual 117) rfl rfl (Nat.le_of_ble_eq_true rfl) (Nat.le_of_ble_eq_true rfl) (by simp [mj_recv, jS_a G hs]) rfl (jS_mul (D := D + 2) (V := W) G (to := 660) (a := 660) (b := 657) (by decide) (by decide) (by decide) (jnl_of_lt (Nat.le_trans q2 (mono _ (by omega))) hfit2) hs) (fun v' h1 hq' => ?_) (fun i h' hq' => by obtain ⟨_, _, h⟩ := hq'; cases h)
    obtain ⟨_, hs1, hq'⟩ := hq'
    cases hq'
    have a1 : jvu W 660 (W 660 * W 657) 660 = W 660 * W 657 := jvu_at _ _ _
    have a2 : ∀ s, s ≠ 660 → jvu W 660 (W 660 * W 657) s = W s := fun s hne => jvu_ne _ _ _ hne
    generalize jvu W 660 (W 660 * W 657) = W1 at hs1 a1 a2
    iterate 4 refine mj_T.pl rfl rfl rfl rfl ?_
    refine mj_T.call (ins := .invokevirtual 117) rfl rfl (Nat.le_of_ble_eq_true rfl) (Nat.le_of_ble_eq_true rfl) (by simp [mj_recv, jS_a G hs1]) rfl (jS_mul (D := D + 2) (V := W1) G (to := 659) (a := 659) (b := 656) (by decide) (by decide) (by decide) (jnl_of_lt (M := 13 * (C * x ^ 12)) (by rw [a2 659 (by decide), a2 656 (by decide), hf 656 (by decide) (by decide) (by decide)]; exact Nat.le_trans s1 (monoC _ _ (by omega) (by omega))) hfit) hs1) (fun v' h2 hq' => ?_) (fun i h' hq' => by obtain ⟨_, _, h⟩ := hq'; cases h)
    obtain ⟨_, hs2, hq'⟩ := hq'
    cases hq'
    have b1 : jvu W1 659 (W1 659 * W1 656) 659 = W1 659 * W1 656 := jvu_at _ _ _
    have b2 : ∀ s, s ≠ 659 → jvu W1 659 (W1 659 * W1 656) s = W1 s := fun s hne => jvu_ne _ _ _ hne
    generalize jvu W1 659 (W1 659 * W1 656) = W2 at hs2 b1 b2
    iterate 4 refine mj_T.pl rfl rfl rfl rfl ?_
    refine mj_T.call (ins := .invokestatic 104) rfl rfl (Nat.le_of_ble_eq_true rfl) (Nat.le_of_ble_eq_true rfl) rfl rfl (jq_slot (D := D + 3) (p := p) (i := m)) (fun v' h' hq' => ?_) (fun i h' hq' => by cases hq')
    cases hq'
    refine mj_T.pl rfl rfl rfl rfl ?_
    have vm : W2 (p * 13 + m) = V (p * 13 + m) := by rw [b2 _ (by omega), a2 _ (by omega), hf _ (by omega) (by omega) (by omega)]
    have v6 : W2 660 = W 660 * W 657 := by rw [b2 _ (by decide), a1]
    refine mj_T.call (ins := .invokevirtual 117) rfl rfl (Nat.le_of_ble_eq_true rfl) (Nat.le_of_ble_eq_true rfl) (by simp [mj_recv, jS_a G hs2]) rfl (jS_mul (D := D + 2) (V := W2) G (to := 652) (a := p * 13 + m) (b := 660) (by decide) (by omega) (by decide) (jnl_of_lt (M := 13 * (C * x ^ 12)) (by rw [vm, v6]; exact Nat.le_trans (by rw [Nat.one_mul]; exact s2) (monoC 1 (n + 1) (by omega) (by omega))) hfit) hs2) (fun v' h3 hq' => ?_) (fun i h' hq' => by obtain ⟨_, _, h⟩ := hq'; cases h)
    obtain ⟨_, hs3, hq'⟩ := hq'
    cases hq'
    have c1 : jvu W2 652 (W2 (p * 13 + m) * W2 660) 652 = W2 (p * 13 + m) * W2 660 := jvu_at _ _ _
    have c2 : ∀ s, s ≠ 652 → jvu W2 652 (W2 (p * 13 + m) * W2 660) s = W2 s := fun s hne => jvu_ne _ _ _ hne
    generalize jvu W2 652 (W2 (p * 13 + m) * W2 660) = W3 at hs3 c1 c2
    have v7 : W3 659 + 1 * W3 652 = W 659 * V 656 + V (p * 13 + m) * (W 660 * W 657) := by
      rw [c1, c2 _ (by decide), b1, vm, v6, a2 _ (by decide), a2 _ (by decide), hf 656 (by decide) (by decide) (by decide), Int.one_mul]
    iterate 5 refine mj_T.pl rfl rfl rfl rfl ?_
    refine mj_T.call (ins := .invokevirtual 107) rfl rfl (Nat.le_of_ble_eq_true rfl) (Nat.le_of_ble_eq_true rfl) (by simp [mj_recv, jS_a G hs3]) rfl (jS_adds (D := D) (V := W3) G (to := 659) (a := 659) (b := 652) (f := 1) (by decide) (by decide) (by decide) (Or.inl rfl) (jnl_of_lt (M := 13 * (C * x ^ 12)) (by rw [v7]; exact Nat.le_trans s3 (monoC _ _ (by omega) (by omega))) hfit) hs3) (fun v' h4 hq' => ?_) (fun i h' hq' => by obtain ⟨_, _, h⟩ := hq'; cases h)
    obtain ⟨_, hs4, hq'⟩ := hq'
    cases hq'
    have d1 : jvu W3 659 (W3 659 + 1 * W3 652) 659 = W3 659 + 1 * W3 652 := jvu_at _ _ _
    have d2 : ∀ s, s ≠ 659 → jvu W3 659 (W3 659 + 1 * W3 652) s = W3 s := fun s hne => jvu_ne _ _ _ hne
    generalize jvu W3 659 (W3 659 + 1 * W3 652) = W4 at hs4 d1 d2
    refine mj_T.iinc (a := (m : Int)) rfl rfl ?_
    refine mj_T.pl rfl rfl rfl rfl ?_
    have v8 : W4 660 = W 660 * W 657 := by rw [d2 _ (by decide), c2 _ (by decide), v6]
    exact ih (n + 1) W4 h4 (by omega) hs4 (fun s x1 x2 x3 => by rw [d2 s x2, c2 s x1, b2 s x2, a2 s x3, hf s x1 x2 x3]) (by rw [d1, v7]; exact s3) (by rw [v8]; exact q2) (fun hz => by rw [v8]; exact q3 hz) (by rw [d1, v7, v8, hf 657 (by decide) (by decide) (by decide)]; exact hz9)
theorem jx_valueAt (G : jG hp q0 q1 q2 q3 fs) (hpp : p ≤ 49) {C x : Nat} (hC : ∀ e, e < 13 → (V (p * 13 + e)).natAbs ≤ C) (hK : (V 656).natAbs ≤ x) (hN : (V 657).natAbs ≤ x) (hx : 1 ≤ x) (hfit : 13 * (C * x ^ 12) < jB ^ 698) (hfit2 : x ^ 12 < jB ^ 698) (hs : jS hp q1 q2 q3 V h) :
    mj_Ok (D + 5) 215 [.ref q0, .int (jn (p : Nat))] h (fun r => ∃ (W : Nat → Int) (h' : mj_H), jS hp q1 q2 q3 W h' ∧ (∀ s, s ≠ 652 → s ≠ 659 → s ≠ 660 → W s = V s) ∧ (W 659).natAbs ≤ 13 * (C * x ^ 12) ∧ (W 660).natAbs ≤ x ^ 12 ∧ (V 657 ≠ 0 → W 660 ≠ 0) ∧ W 659 = vlz (fun e => V (p * 13 + e)) (V 656) (V 657) ∧ r = (.inl (some (.int (jn (jsg (W 659))))), h')) := by
  have hdl := jdg_le V p 13
  refine mj_Ok.of (M := mj_m215) rfl rfl rfl ?_
  iterate 2 refine mj_T.pl rfl rfl rfl rfl ?_
  refine mj_T.call (ins := .invokevirtual 114) rfl rfl (Nat.le_of_ble_eq_true rfl) (Nat.le_of_ble_eq_true rfl) (by simp [mj_recv, jS_a G hs]) rfl (jp_degreeOf (D := D + 2) G (p := p) (by omega) hs) (fun v' h' hq' => ?_) (fun i h' hq' => by cases hq')
  cases hq'
  iterate 4 refine mj_T.pl rfl rfl rfl rfl ?_
  refine mj_T.call (ins := .invokevirtual 45) rfl rfl (Nat.le_of_ble_eq_true rfl) (Nat.le_of_ble_eq_true rfl) (by simp [mj_recv, jS_a G hs]) rfl (jS_sets (D := D + 3) G (s := 659) (v := 0) (by decide) ⟨by decide, by decide⟩ hs) (fun v' h1 hq' => ?_) (fun i h' hq' => by obtain ⟨_, _, h⟩ := hq'; cases h)
  obtain ⟨_, hs1, hq'⟩ := hq'
  cases hq'
  have a1 : jvu V 659 (0) 659 = 0 := jvu_at _ _ _
  have a2 : ∀ s, s ≠ 659 → jvu V 659 (0) s = V s := fun s hne => jvu_ne _ _ _ hne
  generalize jvu V 659 (0) = W1 at hs1 a1 a2
  iterate 3 refine mj_T.pl rfl rfl rfl rfl ?_
  refine mj_T.call (ins := .invokevirtual 45) rfl rfl (Nat.le_of_ble_eq_true rfl) (Nat.le_of_ble_eq_true rfl) (by simp [mj_recv, jS_a G hs1]) rfl (jS_sets (D := D + 3) G (s := 660) (v := 1) (by decide) ⟨by decide, by decide⟩ hs1) (fun v' h2 hq' => ?_) (fun i h' hq' => by obtain ⟨_, _, h⟩ := hq'; cases h)
  obtain ⟨_, hs2, hq'⟩ := hq'
  cases hq'
  have b1 : jvu W1 660 (1) 660 = 1 := jvu_at _ _ _
  have b2 : ∀ s, s ≠ 660 → jvu W1 660 (1) s = W1 s := fun s hne => jvu_ne _ _ _ hne
  generalize jvu W1 660 (1) = W2 at hs2 b1 b2
  have hx12 : 1 ≤ x ^ 12 := Nat.pow_le_pow_left hx 12
  refine mj_T.pl rfl rfl rfl rfl ?_
  refine mj_T.if0 (a := (jdg V p 13 : Int) - 1) rfl ⟨by omega, by omega⟩ (fun hc => ?_) (fun hc => ?_)
  · simp only [jc, decide_eq_true_eq] at hc
    obtain ⟨d, hd⟩ : ∃ d, jdg V p 13 = d + 1 := ⟨jdg V p 13 - 1, by omega⟩
    rw [hd, show ((d + 1 : Nat) : Int) - 1 = (d : Int) by omega]
    iterate 4 refine mj_T.pl rfl rfl rfl rfl ?_
    refine mj_T.call (ins := .invokestatic 104) rfl rfl (Nat.le_of_ble_eq_true rfl) (Nat.le_of_ble_eq_true rfl) rfl rfl (jq_slot (D := D + 3) (p := p) (i := d)) (fun v' h' hq' => ?_) (fun i h' hq' => by cases hq')
    cases hq'
    refine mj_T.call (ins := .invokevirtual 84) rfl rfl (Nat.le_of_ble_eq_true rfl) (Nat.le_of_ble_eq_true rfl) (by simp [mj_recv, jS_a G hs2]) rfl (jS_copies (D := D + 2) G (to := 659) (s := p * 13 + d) (by decide) (by omega) hs2) (fun v' h3 hq' => ?_) (fun i h' hq' => by obtain ⟨_, _, h⟩ := hq'; cases h)
    obtain ⟨_, hs3, hq'⟩ := hq'
    cases hq'
    have c1 : jvu W2 659 (W2 (p * 13 + d)) 659 = W2 (p * 13 + d) := jvu_at _ _ _
    have c2 : ∀ s, s ≠ 659 → jvu W2 659 (W2 (p * 13 + d)) s = W2 s := fun s hne => jvu_ne _ _ _ hne
    generalize jvu W2 659 (W2 (p * 13 + d)) = W3 at hs3 c1 c2
    iterate 2 refine mj_T.pl rfl rfl rfl rfl ?_
    refine mj_T.isub (b := 1) rfl ?_
    refine mj_T.pl rfl rfl rfl rfl ?_
    have v0 : W2 (p * 13 + d) = V (p * 13 + d) := by rw [b2 _ (by omega), a2 _ (by omega)]
    refine jx_va (D := D) (V := V) (p := p) (c := vlz (fun e => V (p * 13 + e)) (V 656) (V 657)) G hpp (C := C) (x := x) (d := d) (by omega) hC hK hN hx hfit hfit2 (fun W h k1 k2 k3 k4 k5 k6 => ⟨W, h, k1, k2, k3, k4, k5, k6, rfl⟩) d 0 W3 h3 (by omega) hs3 (fun s x1 x2 x3 => by rw [c2 s x2, b2 s x3, a2 s x2]) ?_ ?_ ?_ ?_
    · rw [c1, v0, Nat.pow_zero, Nat.mul_one, Nat.zero_add, Nat.one_mul]
      exact hC d (by omega)
    · rw [c2 _ (by decide), b1]
      exact Nat.le_refl _
    · rw [c2 _ (by decide), b1]
      exact fun _ => by decide
    · rw [c1, v0, c2 660 (by decide), b1]
      exact (vlz_hvz ((fdg_jdg V p 13).trans hd)).symm
  · simp only [jc, decide_eq_false_iff_not] at hc
    refine mj_T.pl rfl rfl rfl rfl ?_
    have v0 : W2 659 = 0 := by rw [b2 _ (by decide), a1]
    refine mj_T.ret rfl rfl rfl ⟨W2, h2, hs2, fun s x1 x2 x3 => by rw [b2 s x3, a2 s x2], by rw [v0]; exact Nat.zero_le _, by rw [b1]; exact hx12, fun _ => by rw [b1]; decide, by rw [v0]; exact (vlz_0 ((fdg_jdg V p 13).trans (by omega))).symm, ?_⟩
    rw [v0]
    rfl
theorem jx_tells (G : jG hp q0 q1 q2 q3 fs) {i j : Nat} (hi : 652 ≤ i ∧ i ≤ 662) (hj : 652 ≤ j ∧ j ≤ 662) (hi2 : i ≠ 653 ∧ i ≠ 655) (hj2 : j ≠ 653 ∧ j ≠ 655) (hV : V j ≠ 0) (hs : jS hp q1 q2 q3 V h) :
    mj_Ok (D + 6) 221 [.ref q0, .int (jn (i : Nat)), .int (jn (j : Nat))] h (fun r => ∃ (W : Nat → Int) (h' : mj_H), jS hp q1 q2 q3 W h' ∧ (∀ s, s ≠ 650 → s ≠ 651 → s ≠ 653 → s ≠ 655 → s ≠ 663 → s ≠ 664 → W s = V s) ∧ (W 650).natAbs ≤ (V i).natAbs ∧ (W 651).natAbs ≤ (V j).natAbs ∧ jsg (W 650) = jsg (V i) ∧ r = (.inl (some (.int (jn (jsg (W 650))))), h')) := by
  refine mj_Ok.of (M := mj_m221) rfl rfl rfl ?_
  iterate 4 refine mj_T.pl rfl rfl rfl rfl ?_
  refine mj_T.call (ins := .invokevirtual 127) rfl rfl (Nat.le_of_ble_eq_true rfl) (Nat.le_of_ble_eq_true rfl) (by simp [mj_recv, jS_a G hs]) rfl (jp_commons (D := D) (V := V) G (to := 653) (i := i) (j := j) (by decide) (by omega) (by omega) (by decide) (by decide) (by decide) (by omega) hs) (fun v' h1 hq' => ?_) (fun i h' hq' => by obtain ⟨_, _, _, _, _, h⟩ := hq'; cases h)
  obtain ⟨W1, _, hs1, k1, k2, hq'⟩ := hq'
  cases hq'
  have g0 : W1 653 ≠ 0 := by
    rw [k1]
    have : 0 < Nat.gcd (V i).natAbs (V j).natAbs := Nat.gcd_pos_of_pos_right _ (by omega)
    omega
  iterate 3 refine mj_T.pl rfl rfl rfl rfl ?_
  refine mj_T.call (ins := .invokevirtual 84) rfl rfl (Nat.le_of_ble_eq_true rfl) (Nat.le_of_ble_eq_true rfl) (by simp [mj_recv, jS_a G hs1]) rfl (jS_copies (D := D + 3) G (to := 650) (s := i) (by decide) (by omega) hs1) (fun v' h2 hq' => ?_) (fun i h' hq' => by obtain ⟨_, _, h⟩ := hq'; cases h)
  obtain ⟨_, hs2, hq'⟩ := hq'
  cases hq'
  have a1 : jvu W1 650 (W1 i) 650 = W1 i := jvu_at _ _ _
  have a2 : ∀ s, s ≠ 650 → jvu W1 650 (W1 i) s = W1 s := fun s hne => jvu_ne _ _ _ hne
  generalize jvu W1 650 (W1 i) = W2 at hs2 a1 a2
  iterate 3 refine mj_T.pl rfl rfl rfl rfl ?_
  refine mj_T.call (ins := .invokevirtual 84) rfl rfl (Nat.le_of_ble_eq_true rfl) (Nat.le_of_ble_eq_true rfl) (by simp [mj_recv, jS_a G hs2]) rfl (jS_copies (D := D + 3) G (to := 651) (s := j) (by decide) (by omega) hs2) (fun v' h3 hq' => ?_) (fun i h' hq' => by obtain ⟨_, _, h⟩ := hq'; cases h)
  obtain ⟨_, hs3, hq'⟩ := hq'
  cases hq'
  have b1 : jvu W2 651 (W2 j) 651 = W2 j := jvu_at _ _ _
  have b2 : ∀ s, s ≠ 651 → jvu W2 651 (W2 j) s = W2 s := fun s hne => jvu_ne _ _ _ hne
  generalize jvu W2 651 (W2 j) = W3 at hs3 b1 b2
  iterate 2 refine mj_T.pl rfl rfl rfl rfl ?_
  refine mj_T.call (ins := .invokevirtual 68) rfl rfl (Nat.le_of_ble_eq_true rfl) (Nat.le_of_ble_eq_true rfl) (by simp [mj_recv, jS_a G hs3]) rfl (jS_sign (D := D + 4) G (s := 650) (by decide) hs3) (fun v' h' hq' => ?_) (fun i h' hq' => by cases hq')
  cases hq'
  have u1 : (W3 650).natAbs ≤ (V i).natAbs := by rw [b2 650 (by decide), a1, k2 i (by omega) (by omega) (by omega) (by omega)]; exact Nat.le_refl _
  have u2 : (W3 651).natAbs ≤ (V j).natAbs := by rw [b1, a2 j (by omega), k2 j (by omega) (by omega) (by omega) (by omega)]; exact Nat.le_refl _
  have u3 : W3 653 = W1 653 := by rw [b2 653 (by decide), a2 653 (by decide)]
  have u4 : ∀ s, s ≠ 650 → s ≠ 651 → s ≠ 653 → s ≠ 655 → s ≠ 663 → s ≠ 664 → W3 s = V s := fun s x1 x2 x3 x4 x5 x6 => by rw [b2 s x2, a2 s x1, k2 s x3 x4 x5 x6]
  have u0 : W3 650 = V i := by rw [b2 650 (by decide), a1, k2 i (by omega) (by omega) (by omega) (by omega)]
  have g1 : 0 < W1 653 := by
    rw [k1]
    have : 0 < Nat.gcd (V i).natAbs (V j).natAbs := Nat.gcd_pos_of_pos_right _ (by omega)
    omega
  have g2 : W1 653 ∣ V i := by
    rw [k1]
    exact Int.ofNat_dvd_left.mpr (Nat.gcd_dvd_left _ _)
  have t45 : ∀ (W4 : Nat → Int) (h4 : mj_H), jS hp q1 q2 q3 W4 h4 → (∀ s, s ≠ 650 → s ≠ 663 → s ≠ 664 → W4 s = W3 s) → (W4 650).natAbs ≤ (V i).natAbs → jsg (W4 650) = jsg (V i) → mj_T (D + 5) mj_m221 45 [some (.ref q0), some (.int (jn (i : Nat))), some (.int (jn (j : Nat)))] [] h4 (fun r => ∃ (W : Nat → Int) (h' : mj_H), jS hp q1 q2 q3 W h' ∧ (∀ s, s ≠ 650 → s ≠ 651 → s ≠ 653 → s ≠ 655 → s ≠ 663 → s ≠ 664 → W s = V s) ∧ (W 650).natAbs ≤ (V i).natAbs ∧ (W 651).natAbs ≤ (V j).natAbs ∧ jsg (W 650) = jsg (V i) ∧ r = (.inl (some (.int (jn (jsg (W 650))))), h')) := by
    intro W4 h4 hs4 y1 y2 y3
    iterate 3 refine mj_T.pl rfl rfl rfl rfl ?_
    refine mj_T.call (ins := .invokevirtual 133) rfl rfl (Nat.le_of_ble_eq_true rfl) (Nat.le_of_ble_eq_true rfl) (by simp [mj_recv, jS_a G hs4]) rfl (jp_exact (D := D) (V := W4) G (i := 651) (j := 653) (by decide) (by decide) (by decide) (by decide) (by decide) (by decide) (by rw [y1 653 (by decide) (by decide) (by decide), u3]; exact g0) hs4) (fun v' h5 hq' => ?_) (fun i h' hq' => by obtain ⟨_, _, _, _, _, h⟩ := hq'; cases h)
    obtain ⟨W5, _, hs5, z1, z2, hq'⟩ := hq'
    cases hq'
    iterate 2 refine mj_T.pl rfl rfl rfl rfl ?_
    refine mj_T.call (ins := .invokevirtual 68) rfl rfl (Nat.le_of_ble_eq_true rfl) (Nat.le_of_ble_eq_true rfl) (by simp [mj_recv, jS_a G hs5]) rfl (jS_sign (D := D + 4) G (s := 650) (by decide) hs5) (fun v' h' hq' => ?_) (fun i h' hq' => by cases hq')
    cases hq'
    refine mj_T.ret rfl rfl rfl ⟨W5, h5, hs5, fun s x1 x2 x3 x4 x5 x6 => by rw [z2 s x2 x5 x6, y1 s x1 x5 x6, u4 s x1 x2 x3 x4 x5 x6], by rw [z2 650 (by decide) (by decide) (by decide)]; exact y2, ?_, by rw [z2 650 (by decide) (by decide) (by decide)]; exact y3, rfl⟩
    rw [z1, Int.natAbs_tdiv, y1 651 (by decide) (by decide) (by decide)]
    exact Nat.le_trans (Nat.div_le_self _ _) u2
  have hsr := jsg_range (W3 650)
  refine mj_T.if0 (a := jsg (W3 650)) rfl ⟨by omega, by omega⟩ (fun hc => ?_) (fun hc => ?_)
  · exact t45 W3 h3 hs3 (fun s _ _ _ => rfl) u1 (by rw [u0])
  iterate 3 refine mj_T.pl rfl rfl rfl rfl ?_
  refine mj_T.call (ins := .invokevirtual 133) rfl rfl (Nat.le_of_ble_eq_true rfl) (Nat.le_of_ble_eq_true rfl) (by simp [mj_recv, jS_a G hs3]) rfl (jp_exact (D := D) (V := W3) G (i := 650) (j := 653) (by decide) (by decide) (by decide) (by decide) (by decide) (by decide) (by rw [u3]; exact g0) hs3) (fun v' h4 hq' => ?_) (fun i h' hq' => by obtain ⟨_, _, _, _, _, h⟩ := hq'; cases h)
  obtain ⟨W4, _, hs4, z1, z2, hq'⟩ := hq'
  cases hq'
  exact t45 W4 h4 hs4 z2 (by rw [z1, Int.natAbs_tdiv]; exact Nat.le_trans (Nat.div_le_self _ _) u1) (by rw [z1, u3, u0]; exact jsg_tdivd g1 g2)
end RVW
section RVX
variable {h : mj_H} {tm er : Int} {T : Nat → Int} {N0 : Nat → Int} {u0 : Nat} {H : Nat → Nat → Int}
theorem ra_isFraction {x y : Int} (hx : jr x) (hy : jr y) : mj_Ok 39 259 [.int (jn x), .int (jn y)] h (fun r => ((-1000 ≤ x ∧ x ≤ 1000) ∧ (1 ≤ y ∧ y ≤ 1000) ∧ r = (.inl (some (.int (jn 1))), h)) ∨ (¬ ((-1000 ≤ x ∧ x ≤ 1000) ∧ (1 ≤ y ∧ y ≤ 1000)) ∧ r = (.inl (some (.int (jn 0))), h))) := by
  refine mj_Ok.of (M := mj_m259) rfl rfl rfl ?_
  have t30 : ¬ ((-1000 ≤ x ∧ x ≤ 1000) ∧ (1 ≤ y ∧ y ≤ 1000)) → mj_T 38 mj_m259 30 [some (.int (jn x)), some (.int (jn y))] [] h (fun r => ((-1000 ≤ x ∧ x ≤ 1000) ∧ (1 ≤ y ∧ y ≤ 1000) ∧ r = (.inl (some (.int (jn 1))), h)) ∨ (¬ ((-1000 ≤ x ∧ x ≤ 1000) ∧ (1 ≤ y ∧ y ≤ 1000)) ∧ r = (.inl (some (.int (jn 0))), h))) := by
    intro hno
    refine mj_T.pl rfl rfl rfl rfl ?_
    exact mj_T.ret rfl rfl rfl (Or.inr ⟨hno, rfl⟩)
  refine mj_T.pl rfl rfl rfl rfl ?_
  refine mj_T.i2l rfl hx ?_
  iterate 2 refine mj_T.pl rfl rfl rfl rfl ?_
  refine mj_T.call (ins := .invokestatic 177) rfl rfl (Nat.le_of_ble_eq_true rfl) (Nat.le_of_ble_eq_true rfl) rfl rfl (mj_Ok.up (by decide) (rp_in (D := 0) (v := x) (lo := -1000) (hi := 1000) ⟨by have := hx.1; omega, by have := hx.2; omega⟩ ⟨by decide, by decide⟩ ⟨by decide, by decide⟩)) (fun v' h' hq' => ?_) (fun i h' hq' => by rcases hq' with ⟨_, _, h⟩ | ⟨_, h⟩ <;> cases h)
  rcases hq' with ⟨x1, x2, hq'⟩ | ⟨cn, hq'⟩
  case' inr =>
    cases hq'
    refine mj_T.if0 (a := 0) rfl ⟨by decide, by decide⟩ (fun hc => ?_) (fun hc => ?_)
    · exact t30 (by omega)
    · simp [jc] at hc
  cases hq'
  refine mj_T.if0 (a := 1) rfl ⟨by decide, by decide⟩ (fun hc => ?_) (fun hc => ?_)
  · simp [jc] at hc
  refine mj_T.pl rfl rfl rfl rfl ?_
  refine mj_T.i2l rfl hy ?_
  iterate 2 refine mj_T.pl rfl rfl rfl rfl ?_
  refine mj_T.call (ins := .invokestatic 177) rfl rfl (Nat.le_of_ble_eq_true rfl) (Nat.le_of_ble_eq_true rfl) rfl rfl (mj_Ok.up (by decide) (rp_in (D := 0) (v := y) (lo := 1) (hi := 1000) ⟨by have := hy.1; omega, by have := hy.2; omega⟩ ⟨by decide, by decide⟩ ⟨by decide, by decide⟩)) (fun v' h' hq' => ?_) (fun i h' hq' => by rcases hq' with ⟨_, _, h⟩ | ⟨_, h⟩ <;> cases h)
  rcases hq' with ⟨y1, y2, hq'⟩ | ⟨cn, hq'⟩
  case' inr =>
    cases hq'
    refine mj_T.if0 (a := 0) rfl ⟨by decide, by decide⟩ (fun hc => ?_) (fun hc => ?_)
    · exact t30 (by omega)
    · simp [jc] at hc
  cases hq'
  refine mj_T.if0 (a := 1) rfl ⟨by decide, by decide⟩ (fun hc => ?_) (fun hc => ?_)
  · simp [jc] at hc
  iterate 2 refine mj_T.pl rfl rfl rfl rfl ?_
  exact mj_T.ret rfl rfl rfl (Or.inl ⟨⟨x1, x2⟩, ⟨y1, y2⟩, rfl⟩)
theorem ra_value {x y z : Int} (hx : jr x) (hy : jr y) (hz : jr z) (hI : jIx N0 u0 H tm er T h) : mj_Ok 40 261 [.ref 0, .int (jn x), .int (jn y), .int (jn z)] h (rIa (A_value N0 x y z) N0 u0 H tm er T) := by
  refine mj_Ok.of (M := mj_m261) rfl rfl rfl ?_
  obtain ⟨S, N, B, X, V, hs, K⟩ := hI
  iterate 2 refine mj_T.pl rfl rfl rfl rfl ?_
  refine rT_put (v := 0) hs rfl rfl (by decide) rfl (fun g23 hs23 => ?_)
  have K23 := K.put (k := 3) (v := 0) ⟨by decide, by decide⟩ (by decide) (by decide) (by decide) (by decide) (by decide)
  have e23 : jvu S 3 0 3 = 0 := jvu_at S 3 0
  generalize jvu S 3 0 = S23 at hs23 K23 e23
  refine mj_T.pl rfl rfl rfl rfl ?_
  refine mj_T.call (ins := .invokestatic 181) rfl rfl (Nat.le_of_ble_eq_true rfl) (Nat.le_of_ble_eq_true rfl) rfl rfl (mj_Ok.up (by decide) (rp_isRegister (D := 0) hx)) (fun v' h' hq' => ?_) (fun i h' hq' => by rcases hq' with ⟨_, _, h⟩ | ⟨_, h⟩ <;> cases h)
  rcases hq' with ⟨x1, x2, hq'⟩ | ⟨cn, hq'⟩
  case' inr =>
    cases hq'
    refine mj_T.if0 (a := 0) rfl ⟨by decide, by decide⟩ (fun hc => ?_) (fun hc => ?_)
    · simp [jc] at hc
    iterate 2 refine mj_T.pl rfl rfl rfl rfl ?_
    refine mj_T.call (ins := .invokevirtual 198) rfl rfl (Nat.le_of_ble_eq_true rfl) (Nat.le_of_ble_eq_true rfl) (by simp [mj_recv, rS_f hs23]) rfl (mj_Ok.up (by decide) (rp_fails (D := 0) (c := 1) hs23)) (fun v' g24 hq' => ?_) (fun i h' hq' => by obtain ⟨_, _, h⟩ := hq'; cases h)
    obtain ⟨_, hs24, hq'⟩ := hq'
    cases hq'
    exact mj_T.ret rfl rfl rfl ⟨1, 0, g24, an.n (by omega), ⟨by decide, by decide⟩, rfl, ⟨_, N, B, X, V, hs24, K23.put ⟨by decide, by decide⟩ (by decide) (by decide) (by decide) (by decide) (by decide), jvu_at _ _ _⟩⟩
  cases hq'
  refine mj_T.if0 (a := 1) rfl ⟨by decide, by decide⟩ (fun hc => ?_) (fun hc => ?_)
  rotate_left
  · simp [jc] at hc
  obtain ⟨x, rfl⟩ := Int.eq_ofNat_of_zero_le x1
  iterate 2 refine mj_T.pl rfl rfl rfl rfl ?_
  refine mj_T.call (ins := .invokestatic 302) rfl rfl (Nat.le_of_ble_eq_true rfl) (Nat.le_of_ble_eq_true rfl) rfl rfl (mj_Ok.up (by decide) (ra_isFraction hy hz)) (fun v' h' hq' => ?_) (fun i h' hq' => by rcases hq' with ⟨_, _, h⟩ | ⟨_, h⟩ <;> cases h)
  rcases hq' with ⟨⟨y1, y2⟩, ⟨z1, z2⟩, hq'⟩ | ⟨cn, hq'⟩
  case' inr =>
    cases hq'
    refine mj_T.if0 (a := 0) rfl ⟨by decide, by decide⟩ (fun hc => ?_) (fun hc => ?_)
    · simp [jc] at hc
    iterate 2 refine mj_T.pl rfl rfl rfl rfl ?_
    refine mj_T.call (ins := .invokevirtual 198) rfl rfl (Nat.le_of_ble_eq_true rfl) (Nat.le_of_ble_eq_true rfl) (by simp [mj_recv, rS_f hs23]) rfl (mj_Ok.up (by decide) (rp_fails (D := 0) (c := 2) hs23)) (fun v' g25 hq' => ?_) (fun i h' hq' => by obtain ⟨_, _, h⟩ := hq'; cases h)
    obtain ⟨_, hs25, hq'⟩ := hq'
    cases hq'
    exact mj_T.ret rfl rfl rfl ⟨2, 0, g25, an.y ⟨by omega, by omega⟩ (an.n cn), ⟨by decide, by decide⟩, rfl, ⟨_, N, B, X, V, hs25, K23.put ⟨by decide, by decide⟩ (by decide) (by decide) (by decide) (by decide) (by decide), jvu_at _ _ _⟩⟩
  cases hq'
  refine mj_T.if0 (a := 1) rfl ⟨by decide, by decide⟩ (fun hc => ?_) (fun hc => ?_)
  rotate_left
  · simp [jc] at hc
  iterate 3 refine mj_T.pl rfl rfl rfl rfl ?_
  refine mj_T.call (ins := .invokevirtual 213) rfl rfl (Nat.le_of_ble_eq_true rfl) (Nat.le_of_ble_eq_true rfl) (by simp [mj_recv, rS_f hs23]) rfl (mj_Ok.up (by decide) (rp_loads (D := 0) (p := 0) (r := x) (by decide) (by omega) K23.nR hs23)) (fun v' g26 hq' => ?_) (fun i h' hq' => by obtain ⟨_, _, h⟩ := hq'; cases h)
  obtain ⟨_, hs26, hq'⟩ := hq'
  cases hq'
  have a26 : ∀ e, e < 13 → jfl V 0 (fun e => N (x * 13 + e)) 13 (0 * 13 + e) = N (x * 13 + e) := fun e he => jfl_at _ _ _ he
  have b26 : ∀ s, (s < 0 * 13 ∨ 0 * 13 + 13 ≤ s) → jfl V 0 (fun e => N (x * 13 + e)) 13 s = V s := fun s hc => jfl_off _ _ _ hc
  generalize jfl V 0 (fun e => N (x * 13 + e)) 13 = W26 at hs26 a26 b26
  have c1 : ∀ e, e < 13 → (W26 (0 * 13 + e)).natAbs ≤ 10 ^ 18 := fun e he => by
    rw [a26 e he]
    exact K23.sh (r := x) (by omega) he
  iterate 3 refine mj_T.pl rfl rfl rfl rfl ?_
  refine mj_T.call (ins := .invokevirtual 305) rfl rfl (Nat.le_of_ble_eq_true rfl) (Nat.le_of_ble_eq_true rfl) (by simp [mj_recv, rS_f hs26]) rfl (mj_Ok.up (by decide) (rp_setsFraction (D := 0) (x := y) (y := z) hy hz hs26)) (fun v' g27 hq' => ?_) (fun i h' hq' => by obtain ⟨_, _, _, _, _, _, h⟩ := hq'; cases h)
  obtain ⟨W27, _, hs27, x27a, x27b, x27c, hq'⟩ := hq'
  cases hq'
  iterate 2 refine mj_T.pl rfl rfl rfl rfl ?_
  refine mj_T.call (ins := .invokevirtual 162) rfl rfl (Nat.le_of_ble_eq_true rfl) (Nat.le_of_ble_eq_true rfl) (by simp [mj_recv, rS_f hs27]) rfl (mj_Ok.up (by decide) (jx_valueAt (D := 0) (V := W27) (p := 0) (rG S23 N B T X) (by decide) (C := 10 ^ 18) (x := 1000) (fun e he => by rw [x27c _ (by omega) (by omega)]; exact c1 e he) (by rw [x27a]; omega) (by rw [x27b]; omega) (by decide) rp_fitv rp_fitv2 hs27)) (fun v' g28 hq' => ?_) (fun i h' hq' => by obtain ⟨_, _, _, _, _, _, _, _, h⟩ := hq'; cases h)
  obtain ⟨W28, _, hs28, _, _, _, f0, v9, hq'⟩ := hq'
  cases hq'
  iterate 4 refine mj_T.pl rfl rfl rfl rfl ?_
  refine mj_T.call (ins := .invokevirtual 308) rfl rfl (Nat.le_of_ble_eq_true rfl) (Nat.le_of_ble_eq_true rfl) (by simp [mj_recv, rS_f hs28]) rfl (mj_Ok.up (by decide) (jx_tells (D := 0) (rG S23 N B T X) (i := 659) (j := 660) (by decide) (by decide) (by decide) (by decide) (f0 (by rw [x27b]; omega)) hs28)) (fun v' g29 hq' => ?_) (fun i h' hq' => by obtain ⟨_, _, _, _, _, _, _, h⟩ := hq'; cases h)
  obtain ⟨W29, _, hs29, _, _, _, w9, hq'⟩ := hq'
  cases hq'
  rw [w9, v9, x27a, x27b, vlz_cg (f := rwN N0 (x : Int)) (fun e he => (x27c _ (by omega) (by omega)).trans ((a26 e he).trans (rwN_at K23.2.1 (by omega) he)))]
  have hsr := jsg_range (vlz (rwN N0 (x : Int)) y z)
  exact mj_T.ret rfl rfl rfl ⟨0, _, g29, an.y ⟨by omega, by omega⟩ (an.y ⟨⟨y1, y2⟩, z1, z2⟩ (an.e rfl)), ⟨by omega, by omega⟩, rfl, ⟨S23, N, B, X, W29, hs29, K23, e23⟩⟩
end RVX
section RVY
variable {h : mj_H} {u : Nat} {N : Nat → Int} {H : Nat → Nat → Int} {tm er : Int} {T : Nat → Int}
theorem ga_value {x : Int} (jx : jr x) {y : Int} (jy : jr y) {z : Int} (jz : jr z) (I : jIx N u H tm er T h) : mj_Ok 60 261 [.ref 0, .int (jn x), .int (jn y), .int (jn z)] h (rZa (sameQ N u H) (A_value N x y z) tm er T) := (mj_Ok.up (by decide) (ra_value jx jy jz I)).to (fun r k => k.za)
end RVY
/-! agreements: answers on both sides. -/
theorem hpv_sub {f f' : Nat → Int} {x : Int} : ∀ m v v', hpv (fun e => f e + -1 * f' e) x m (v + -1 * v') = hpv f x m v + -1 * hpv f' x m v'
  | 0, _, _ => rfl
  | m + 1, v, v' => by
    have e : (v + -1 * v') * x + (f m + -1 * f' m) = v * x + f m + -1 * (v' * x + f' m) := by
      rw [Int.add_mul, Int.mul_assoc, Int.mul_add]
      omega
    show hpv (fun e => f e + -1 * f' e) x m ((v + -1 * v') * x + (f m + -1 * f' m)) = hpv f x m (v * x + f m) + -1 * hpv f' x m (v' * x + f' m)
    rw [← hpv_sub m (v * x + f m) (v' * x + f' m), e]
theorem hpv_z {f : Nat → Int} {x : Int} {k : Nat} : ∀ m, (∀ j, k ≤ j → j < k + m → f j = 0) → hpv f x (k + m) 0 = hpv f x k 0
  | 0, _ => rfl
  | m + 1, hz => by
    show hpv f x (k + m) (0 * x + f (k + m)) = _
    rw [hz (k + m) (by omega) (by omega), Int.zero_mul, Int.add_zero]
    exact hpv_z m (fun j a b => hz j a (by omega))
theorem vlz_one {f : Nat → Int} {x : Int} : vlz f x 1 = hpv f x 13 0 := by
  have hl := fdg_le f 13
  have e := hpv_z (f := f) (x := x) (k := fdg f 13) (13 - fdg f 13) (fun j a b => fdg_zero f 13 j a (by omega))
  rw [show fdg f 13 + (13 - fdg f 13) = 13 by omega] at e
  rw [e]
  exact hpv_cg _ _ (fun j hj => by rw [Int.one_pow, Int.mul_one])
def vc (w : Nat → Int) : Nat → Nat
  | 0 => 0
  | k + 1 => if hpv w (k : Int) 13 0 = 0 then vc w k + 1 else vc w k
theorem vc_y {w : Nat → Int} {k : Nat} (h : hpv w (k : Int) 13 0 = 0) : vc w (k + 1) = vc w k + 1 := if_pos h
theorem vc_n {w : Nat → Int} {k : Nat} (h : hpv w (k : Int) 13 0 ≠ 0) : vc w (k + 1) = vc w k := if_neg h
theorem vc_le (w : Nat → Int) : ∀ k, vc w k ≤ k
  | 0 => Nat.le_refl 0
  | k + 1 => by
    have h1 := vc_le w k
    by_cases q : hpv w (k : Int) 13 0 = 0
    · rw [vc_y q]
      omega
    · rw [vc_n q]
      omega
def agc (f f' : Nat → Int) : Nat → Nat
  | 0 => 0
  | k + 1 => if hpv f (k : Int) 13 0 = hpv f' (k : Int) 13 0 then agc f f' k + 1 else agc f f' k
theorem agc_y {f f' : Nat → Int} {k : Nat} (h : hpv f (k : Int) 13 0 = hpv f' (k : Int) 13 0) : agc f f' (k + 1) = agc f f' k + 1 := if_pos h
theorem agc_n {f f' : Nat → Int} {k : Nat} (h : hpv f (k : Int) 13 0 ≠ hpv f' (k : Int) 13 0) : agc f f' (k + 1) = agc f f' k := if_neg h
theorem vc_agc {f f' : Nat → Int} : ∀ k, vc (fun e => f e + -1 * f' e) k = agc f f' k
  | 0 => rfl
  | k + 1 => by
    have e := hpv_sub (f := f) (f' := f') (x := (k : Int)) 13 0 0
    rw [show (0 : Int) + -1 * 0 = 0 from rfl] at e
    have h := vc_agc (f := f) (f' := f') k
    by_cases q : hpv f (k : Int) 13 0 = hpv f' (k : Int) 13 0
    · rw [agc_y q, vc_y (by rw [e, q]; omega), h]
    · rw [agc_n q, vc_n (by rw [e]; omega), h]
theorem agc_cg {f f' f1 f2 : Nat → Int} (h1 : ∀ j, j < 13 → f j = f1 j) (h2 : ∀ j, j < 13 → f' j = f2 j) : ∀ k, agc f f' k = agc f1 f2 k
  | 0 => rfl
  | k + 1 => by
    unfold agc
    rw [hpv_cg (f := f1) (f' := f) 13 0 h1, hpv_cg (f := f2) (f' := f') 13 0 h2, agc_cg h1 h2 k]
def agd (f f' : Nat → Int) : Nat := max 1 (max (fdg f 13) (fdg f' 13))
abbrev A_agreements (N : Nat → Int) (a b : Int) : Int → Int → Prop := an [(rg2 a b, 1)] (fun z => z = ((agc (rwN N a) (rwN N b) (agd (rwN N a) (rwN N b)) : Nat) : Int))
theorem A_agreements.ag {N : Nat → Int} {a b c1 z1 c2 z2 : Int} (p : A_agreements N a b c1 z1) (q : A_agreements N a b c2 z2) : c1 = c2 ∧ (c1 = 0 → z1 = z2) := an.ag (fun _ _ a b => a.trans b.symm) (by simp) p q
theorem cmp_z {u v : Int} (h : jsg u = jsg v) : jsg u * jcm u.natAbs v.natAbs = 0 ↔ u = v := by
  constructor
  · intro q
    have h1 := jsg_s u
    have h2 := jsg_s v
    rcases Int.mul_eq_zero.mp q with q | q
    · rw [jsg_z0.mp q, jsg_z0.mp (h.symm.trans q)]
    · have e : u.natAbs = v.natAbs := by
        unfold jcm at q
        (repeat' split at q) <;> omega
      by_cases c : jsg u < 0
      · have e1 := h1.1 c
        have e2 := h2.1 (by omega)
        omega
      · have e1 := h1.2 (by omega)
        have e2 := h2.2 (by omega)
        omega
  · intro q
    rw [q, jcm_eq rfl, Int.mul_zero]
section MVG
variable {g h : mj_H} {n D u r : Nat} {V : Nat → Int} {X : Nat → Nat → Int} {N : Nat → Int} {H : Nat → Nat → Int}
theorem mX_agr_loop {w : Nat → Int} {a a2 : Int} {d : Nat} (hd : d ≤ 12) (hw : ∀ j, j < 13 → (w j).natAbs ≤ 2000000000000000000) {Q : mj_R → Prop} (hend : ∀ h, Q (.inl (some (.int (jn ((vc w (d + 1) : Nat) : Int)))), h)) : ∀ (k i : Nat), i + k = d + 1 → ∀ (V1 : Nat → Int) (X1 : Nat → Nat → Int) (h : mj_H), jM g n V1 X1 h → (∀ j, j < 13 → X1 482 j = w j) → mj_T (D + 6) mj_m127 49 [some (.ref 1), some (.int (jn a)), some (.int (jn a2)), some (.ref (4 + a.toNat)), some (.ref (4 + a2.toNat)), some (.int (jn (d : Int))), some (.int (jn ((vc w i : Nat) : Int))), some (.int (jn ((i : Nat) : Int)))] [] h Q
  | 0, i, hi, V1, X1, h, m, e => by
    iterate 2 refine mj_T.pl rfl rfl rfl rfl ?_
    refine mj_T.icmp (a := (i : Int)) (b := (d : Int)) rfl ⟨by omega, by omega⟩ ⟨by omega, by omega⟩ (fun c1 => ?_) (fun c1 => ?_)
    · obtain rfl : i = d + 1 := by omega
      refine mj_T.pl rfl rfl rfl rfl ?_
      exact mj_T.ret rfl rfl rfl (hend _)
    · exfalso
      simp only [jc, Bool.not_eq_true', Bool.not_eq_false', decide_eq_true_eq, decide_eq_false_iff_not] at c1
      omega
  | k + 1, i, hi, V1, X1, h, m, e => by
    iterate 2 refine mj_T.pl rfl rfl rfl rfl ?_
    refine mj_T.icmp (a := (i : Int)) (b := (d : Int)) rfl ⟨by omega, by omega⟩ ⟨by omega, by omega⟩ (fun c1 => ?_) (fun c1 => ?_)
    · exfalso
      simp only [jc, Bool.not_eq_true', Bool.not_eq_false', decide_eq_true_eq, decide_eq_false_iff_not] at c1
      omega
    · simp only [jc, Bool.not_eq_true', Bool.not_eq_false', decide_eq_true_eq, decide_eq_false_iff_not] at c1
      refine mj_T.pl rfl rfl rfl rfl ?_
      refine mT_get m 19 cq_d1 (by decide) rfl rfl ?_
      refine mj_T.pl rfl rfl rfl rfl ?_
      refine mT_get m 19 cq_d1 (by decide) rfl rfl ?_
      iterate 2 refine mj_T.pl rfl rfl rfl rfl ?_
      refine mj_T.call rfl rfl (Nat.le_of_ble_eq_true rfl) (Nat.le_of_ble_eq_true rfl) (mV_of m 11 cq_d19 (by decide) rfl (by decide) rfl _) rfl (mj_Ok.up (by omega) (mD_value (D := 0) m cq_d482 (fun j hj => by rw [e j hj]; exact hw j hj) (x := (i : Int)) (y := 1) (by omega) ⟨by decide, by decide⟩)) (fun v g2 hq => ?_) (fun i g2 hq => by obtain ⟨_, _, _, _, hq⟩ := hq; cases hq)
      obtain ⟨V3, _, m4, _, hq⟩ := hq
      rw [vlz_cg (f := w) e, vlz_one] at hq
      cases hq
      have hj := jsg_range (hpv w (i : Int) 13 0)
      have hz := jsg_z0 (v := hpv w (i : Int) 13 0)
      have e4 : ∀ j, j < 13 → (xup X1 80 2 ((fdg (X1 482) 13 : Int) - 1)) 482 j = w j := fun j hj => (congrFun (xup_oth (by decide)) j).trans (e j hj)
      refine mj_T.eq (pc2 := 70) (st2 := [.int (jn (jsg (hpv w (i : Int) 13 0)))]) ?_ rfl rfl rfl rfl
      refine mj_T.if0 (a := jsg (hpv w (i : Int) 13 0)) rfl ⟨by omega, by omega⟩ (fun c8 => ?_) (fun c8 => ?_)
      · simp only [jc, Bool.not_eq_true', Bool.not_eq_false', decide_eq_true_eq, decide_eq_false_iff_not] at c8
        have e2 := vc_n (w := w) (k := i) (fun q => c8 (hz.mpr q))
        refine mj_T.iinc rfl rfl ?_
        rw [show ((i : Nat) : Int) + 1 = ((i + 1 : Nat) : Int) by omega, ← e2]
        refine mj_T.eq (loc2 := [some (.ref 1), some (.int (jn a)), some (.int (jn a2)), some (.ref (4 + a.toNat)), some (.ref (4 + a2.toNat)), some (.int (jn (d : Int))), some (.int (jn ((vc w (i + 1) : Nat) : Int))), some (.int (jn ((i + 1 : Nat) : Int)))]) ?_ rfl rfl rfl rfl
        refine mj_T.pl rfl rfl rfl rfl ?_
        exact mX_agr_loop hd hw hend k (i + 1) (by omega) _ _ _ m4 e4
      · simp only [jc, Bool.not_eq_true', Bool.not_eq_false', decide_eq_true_eq, decide_eq_false_iff_not] at c8
        have e2 := vc_y (w := w) (k := i) (hz.mp (by omega))
        refine mj_T.iinc rfl rfl ?_
        rw [show ((vc w i : Nat) : Int) + 1 = ((vc w (i + 1) : Nat) : Int) by rw [e2]; omega]
        refine mj_T.eq (loc2 := [some (.ref 1), some (.int (jn a)), some (.int (jn a2)), some (.ref (4 + a.toNat)), some (.ref (4 + a2.toNat)), some (.int (jn (d : Int))), some (.int (jn ((vc w (i + 1) : Nat) : Int))), some (.int (jn ((i : Nat) : Int)))]) ?_ rfl rfl rfl rfl
        refine mj_T.iinc rfl rfl ?_
        rw [show ((i : Nat) : Int) + 1 = ((i + 1 : Nat) : Int) by omega]
        refine mj_T.eq (loc2 := [some (.ref 1), some (.int (jn a)), some (.int (jn a2)), some (.ref (4 + a.toNat)), some (.ref (4 + a2.toNat)), some (.int (jn (d : Int))), some (.int (jn ((vc w (i + 1) : Nat) : Int))), some (.int (jn ((i + 1 : Nat) : Int)))]) ?_ rfl rfl rfl rfl
        refine mj_T.pl rfl rfl rfl rfl ?_
        exact mX_agr_loop hd hw hend k (i + 1) (by omega) _ _ _ m4 e4
theorem cv_127 (A : AS N u H) (s : cC N u H h) {a : Int} (ra : -2147483648 ≤ a ∧ a ≤ 2147483647) {a2 : Int} (ra2 : -2147483648 ≤ a2 ∧ a2 ≤ 2147483647) : mj_Ok 59 127 [.ref 1, .int (jn a), .int (jn a2)] h (cA (fun k => 1) (A_agreements N a a2)) := by
  obtain ⟨V, X, m, b, d, c, jx⟩ := cS.nr A s
  have jx : rjR X := jx
  refine mj_Ok.of (M := mj_m127) rfl rfl rfl ?_
  iterate 2 refine mj_T.pl rfl rfl rfl rfl ?_
  refine mj_T.call rfl rfl (Nat.le_of_ble_eq_true rfl) (Nat.le_of_ble_eq_true rfl) (mV_of m 19 cq_d1 (by decide) rfl (by decide) rfl _) rfl (mj_Ok.up (by omega) (mC_rowOf (D := 0) m (i := a) (by omega))) (fun v g1 hq => ?_) (fun i g1 hq => ?_)
  rotate_left
  · rcases hq with ⟨_, hq⟩ | ⟨hn, hq⟩
    · cases hq
    · cases hq
      exact Or.inl ⟨rfl, fun z => an.n (fun q => hn q.1)⟩
  rcases hq with ⟨ka, hq⟩ | ⟨_, hq⟩
  rotate_left
  · cases hq
  cases hq
  refine mj_T.eq (pc2 := 5) (st2 := [.ref (4 + a.toNat)]) ?_ rfl rfl rfl rfl
  refine mj_T.pl (loc' := [some (.ref 1), some (.int (jn a)), some (.int (jn a2)), some (.ref (4 + a.toNat)), none, none, none, none]) rfl rfl rfl rfl ?_
  iterate 2 refine mj_T.pl rfl rfl rfl rfl ?_
  refine mj_T.call rfl rfl (Nat.le_of_ble_eq_true rfl) (Nat.le_of_ble_eq_true rfl) (mV_of m 19 cq_d1 (by decide) rfl (by decide) rfl _) rfl (mj_Ok.up (by omega) (mC_rowOf (D := 0) m (i := a2) (by omega))) (fun v g2 hq => ?_) (fun i g2 hq => ?_)
  rotate_left
  · rcases hq with ⟨_, hq⟩ | ⟨hn, hq⟩
    · cases hq
    · cases hq
      exact Or.inl ⟨rfl, fun z => an.n (fun q => hn q.2)⟩
  rcases hq with ⟨ka2, hq⟩ | ⟨_, hq⟩
  rotate_left
  · cases hq
  cases hq
  refine mj_T.eq (pc2 := 11) (st2 := [.ref (4 + a2.toNat)]) ?_ rfl rfl rfl rfl
  refine mj_T.pl (loc' := [some (.ref 1), some (.int (jn a)), some (.int (jn a2)), some (.ref (4 + a.toNat)), some (.ref (4 + a2.toNat)), none, none, none]) rfl rfl rfl rfl ?_
  iterate 2 refine mj_T.pl rfl rfl rfl rfl ?_
  refine mj_T.call rfl rfl (Nat.le_of_ble_eq_true rfl) (Nat.le_of_ble_eq_true rfl) rfl rfl (mj_Ok.up (by omega) (mS_deg (D := 0) m (mK_rt a.toNat (by omega)) (c.sm A.1 ka))) (fun v g3 hq => ?_) (fun i g3 hq => ?_)
  rotate_left
  · cases hq
  cases hq
  have ga := fdg_le (X (4 + a.toNat)) 13
  refine mj_T.eq (pc2 := 18) (st2 := [.int (jn (((fdg (X (4 + a.toNat)) 13) : Int) - 1)), .int (jn 0)]) ?_ rfl rfl rfl rfl
  refine mj_T.pl rfl rfl rfl rfl ?_
  refine mj_T.call rfl rfl (Nat.le_of_ble_eq_true rfl) (Nat.le_of_ble_eq_true rfl) rfl rfl (mj_Ok.up (by omega) (mS_deg (D := 0) m (mK_rt a2.toNat (by omega)) (c.sm A.1 ka2))) (fun v g4 hq => ?_) (fun i g4 hq => ?_)
  rotate_left
  · cases hq
  cases hq
  have ga2 := fdg_le (X (4 + a2.toNat)) 13
  refine mj_T.eq (pc2 := 23) (st2 := [.int (jn (((fdg (X (4 + a2.toNat)) 13) : Int) - 1)), .int (jn (((fdg (X (4 + a.toNat)) 13) : Int) - 1)), .int (jn 0)]) ?_ rfl rfl rfl rfl
  refine mj_T.imax (a := (((fdg (X (4 + a.toNat)) 13) : Int) - 1)) (b := (((fdg (X (4 + a2.toNat)) 13) : Int) - 1)) rfl rfl (Nat.le_of_ble_eq_true rfl) ⟨by omega, by omega⟩ ⟨by omega, by omega⟩ ?_
  refine mj_T.imax (a := 0) (b := (max (((fdg (X (4 + a.toNat)) 13) : Int) - 1) (((fdg (X (4 + a2.toNat)) 13) : Int) - 1))) rfl rfl (Nat.le_of_ble_eq_true rfl) ⟨by omega, by omega⟩ ⟨by omega, by omega⟩ ?_
  refine mj_T.pl (loc' := [some (.ref 1), some (.int (jn a)), some (.int (jn a2)), some (.ref (4 + a.toNat)), some (.ref (4 + a2.toNat)), some (.int (jn (max 0 (max (((fdg (X (4 + a.toNat)) 13) : Int) - 1) (((fdg (X (4 + a2.toNat)) 13) : Int) - 1))))), none, none]) rfl rfl rfl rfl ?_
  iterate 4 refine mj_T.pl rfl rfl rfl rfl ?_
  refine mT_get m 19 cq_d1 (by decide) rfl rfl ?_
  refine mj_T.call rfl rfl (Nat.le_of_ble_eq_true rfl) (Nat.le_of_ble_eq_true rfl) rfl rfl (mj_Ok.up (by omega) (mS_sum (D := 0) m (mK_rt a.toNat (by omega)) (mK_rt a2.toNat (by omega)) cq_d482 (c.sm A.1 ka) (c.sm A.1 ka2) (f := -1) (Or.inr rfl))) (fun v g5 hq => ?_) (fun i g5 hq => ?_)
  rotate_left
  · obtain ⟨_, _, hq⟩ := hq
    rcases hq with ⟨_, hq⟩ | ⟨_, hq⟩ <;> cases hq
  obtain ⟨h5, m5, hq⟩ := hq
  obtain ⟨y, hq⟩ : ∃ y : Int, ((.inl v, g5) : mj_R) = (.inl (some (.int (jn y))), h5) := by
    rcases hq with ⟨_, hq⟩ | ⟨_, hq⟩
    · exact ⟨1, hq⟩
    · exact ⟨0, hq⟩
  cases hq
  refine mj_T.eq (pc2 := 42) (st2 := [.int (jn y)]) ?_ rfl rfl rfl rfl
  iterate 2 refine mj_T.pl rfl rfl rfl rfl ?_
  refine mj_T.pl (loc' := [some (.ref 1), some (.int (jn a)), some (.int (jn a2)), some (.ref (4 + a.toNat)), some (.ref (4 + a2.toNat)), some (.int (jn (max 0 (max (((fdg (X (4 + a.toNat)) 13) : Int) - 1) (((fdg (X (4 + a2.toNat)) 13) : Int) - 1))))), some (.int (jn 0)), none]) rfl rfl rfl rfl ?_
  refine mj_T.pl rfl rfl rfl rfl ?_
  refine mj_T.pl (loc' := [some (.ref 1), some (.int (jn a)), some (.int (jn a2)), some (.ref (4 + a.toNat)), some (.ref (4 + a2.toNat)), some (.int (jn (max 0 (max (((fdg (X (4 + a.toNat)) 13) : Int) - 1) (((fdg (X (4 + a2.toNat)) 13) : Int) - 1))))), some (.int (jn 0)), some (.int (jn 0))]) rfl rfl rfl rfl ?_
  have p1 := fdg_congr 13 (c.rw ka)
  have p2 := fdg_congr 13 (c.rw ka2)
  obtain ⟨d9, hd9⟩ : ∃ d9 : Nat, (max 0 (max (((fdg (X (4 + a.toNat)) 13) : Int) - 1) (((fdg (X (4 + a2.toNat)) 13) : Int) - 1))) = (d9 : Int) := Int.eq_ofNat_of_zero_le (by omega)
  have hd8 : d9 + 1 = agd (rwN N a) (rwN N a2) := by
    unfold agd
    rw [← p1, ← p2]
    simp only [Nat.max_def]
    (repeat' split) <;> omega
  rw [hd9]
  exact mX_agr_loop (w := (fun e => X (4 + a.toNat) e + -1 * X (4 + a2.toNat) e)) (d := d9) (by omega) (fun j hj => by
    have y1 := c.sm A.1 ka j hj
    have y2 := c.sm A.1 ka2 j hj
    show (X (4 + a.toNat) j + -1 * X (4 + a2.toNat) j).natAbs ≤ 2000000000000000000
    omega) (fun h => ⟨_, ⟨by have := vc_le (fun e => X (4 + a.toNat) e + -1 * X (4 + a2.toNat) e) (d9 + 1); omega, by have := vc_le (fun e => X (4 + a.toNat) e + -1 * X (4 + a2.toNat) e) (d9 + 1); omega⟩, rfl, an.y ⟨ka, ka2⟩ (an.e (by rw [← hd8, vc_agc, agc_cg (c.rw ka) (c.rw ka2)]))⟩) (d9 + 1) 0 (by omega) _ _ _ m5 (fun j hj => xfl_at _ _ _ hj)
end MVG
section RVG
variable {h : mj_H} {tm er : Int} {T : Nat → Int} {N0 : Nat → Int} {u0 : Nat} {H : Nat → Nat → Int}
theorem ra_compares {S N B X V : Nat → Int} {a b : Nat} (ha : a < 665) (hb : b < 665) (hs : rS S N B T X V h) : mj_Ok 39 185 [.ref 0, .int (jn (a : Nat)), .int (jn (b : Nat))] h (fun r => ∃ z : Int, (-1 ≤ z ∧ z ≤ 1) ∧ (z = 0 ↔ V a = V b) ∧ r = (.inl (some (.int (jn z))), h)) := by
  refine mj_Ok.of (M := mj_m185) rfl rfl rfl ?_
  have ra := jsg_range (V a)
  have rb := jsg_range (V b)
  have rc := jcm_range (V a).natAbs (V b).natAbs
  iterate 2 refine mj_T.pl rfl rfl rfl rfl ?_
  refine mj_T.call (ins := .invokevirtual 68) rfl rfl (Nat.le_of_ble_eq_true rfl) (Nat.le_of_ble_eq_true rfl) (by simp [mj_recv, rS_f hs]) rfl (mj_Ok.up (by decide) (jS_sign (D := 0) (rG S N B T X) (s := a) ha hs)) (fun v' h' hq' => ?_) (fun i h' hq' => by cases hq')
  cases hq'
  iterate 2 refine mj_T.pl rfl rfl rfl rfl ?_
  refine mj_T.call (ins := .invokevirtual 68) rfl rfl (Nat.le_of_ble_eq_true rfl) (Nat.le_of_ble_eq_true rfl) (by simp [mj_recv, rS_f hs]) rfl (mj_Ok.up (by decide) (jS_sign (D := 0) (rG S N B T X) (s := b) hb hs)) (fun v' h' hq' => ?_) (fun i h' hq' => by cases hq')
  cases hq'
  refine mj_T.icmp (a := jsg (V a)) (b := jsg (V b)) rfl ⟨by omega, by omega⟩ ⟨by omega, by omega⟩ (fun hc => ?_) (fun hc => ?_)
  · skip
    iterate 2 refine mj_T.pl rfl rfl rfl rfl ?_
    refine mj_T.call (ins := .invokevirtual 68) rfl rfl (Nat.le_of_ble_eq_true rfl) (Nat.le_of_ble_eq_true rfl) (by simp [mj_recv, rS_f hs]) rfl (mj_Ok.up (by decide) (jS_sign (D := 0) (rG S N B T X) (s := a) ha hs)) (fun v' h' hq' => ?_) (fun i h' hq' => by cases hq')
    cases hq'
    iterate 3 refine mj_T.pl rfl rfl rfl rfl ?_
    refine mj_T.call (ins := .invokevirtual 71) rfl rfl (Nat.le_of_ble_eq_true rfl) (Nat.le_of_ble_eq_true rfl) (by simp [mj_recv, rS_f hs]) rfl (mj_Ok.up (by decide) (jS_cmp (D := 0) (rG S N B T X) (s := a) (t := b) ha hb hs)) (fun v' h' hq' => ?_) (fun i h' hq' => by cases hq')
    cases hq'
    refine mj_T.imul rfl ?_
    simp only [jc, Bool.not_eq_true', Bool.not_eq_false', decide_eq_true_eq, decide_eq_false_iff_not] at hc
    refine mj_T.ret rfl rfl rfl ⟨_, ?_, cmp_z (by omega), rfl⟩
    rcases (show jsg (V a) = -1 ∨ jsg (V a) = 0 ∨ jsg (V a) = 1 by omega) with q | q | q <;> rw [q] <;> omega
  · skip
    have hne : V a ≠ V b := fun q => by
      simp only [jc, Bool.not_eq_true', Bool.not_eq_false', decide_eq_true_eq, decide_eq_false_iff_not] at hc
      rw [q] at hc
      omega
    iterate 2 refine mj_T.pl rfl rfl rfl rfl ?_
    refine mj_T.call (ins := .invokevirtual 68) rfl rfl (Nat.le_of_ble_eq_true rfl) (Nat.le_of_ble_eq_true rfl) (by simp [mj_recv, rS_f hs]) rfl (mj_Ok.up (by decide) (jS_sign (D := 0) (rG S N B T X) (s := a) ha hs)) (fun v' h' hq' => ?_) (fun i h' hq' => by cases hq')
    cases hq'
    iterate 2 refine mj_T.pl rfl rfl rfl rfl ?_
    refine mj_T.call (ins := .invokevirtual 68) rfl rfl (Nat.le_of_ble_eq_true rfl) (Nat.le_of_ble_eq_true rfl) (by simp [mj_recv, rS_f hs]) rfl (mj_Ok.up (by decide) (jS_sign (D := 0) (rG S N B T X) (s := b) hb hs)) (fun v' h' hq' => ?_) (fun i h' hq' => by cases hq')
    cases hq'
    refine mj_T.icmp (a := jsg (V a)) (b := jsg (V b)) rfl ⟨by omega, by omega⟩ ⟨by omega, by omega⟩ (fun hc2 => ?_) (fun hc2 => ?_)
    · refine mj_T.pl rfl rfl rfl rfl ?_
      exact mj_T.ret rfl rfl rfl ⟨1, by decide, ⟨fun q => absurd q (by decide), fun q => absurd q hne⟩, rfl⟩
    · iterate 2 refine mj_T.pl rfl rfl rfl rfl ?_
      exact mj_T.ret rfl rfl rfl ⟨-1, by decide, ⟨fun q => absurd q (by decide), fun q => absurd q hne⟩, rfl⟩
theorem ra_ag_loop {S N B X : Nat → Int} {x y : Int} {d : Nat} (hd : d ≤ 12) (K : jKx N0 u0 H tm er S N B T) {f f' : Nat → Int} (hA : A_agreements N0 x y 0 ((agc f f' (d + 1) : Nat) : Int)) (e5 : S 3 = 0) :
    ∀ (m k c : Nat) (V : Nat → Int) (h : mj_H) (e6 : Option Value), k + m = d + 1 → c ≤ k → c = agc f f' k → (∀ e, e < 13 → V (0 * 13 + e) = f e) → (∀ e, e < 13 → V (1 * 13 + e) = f' e) → rS S N B T X V h → (∀ e, e < 13 → (V (0 * 13 + e)).natAbs ≤ 10 ^ 18) → (∀ e, e < 13 → (V (1 * 13 + e)).natAbs ≤ 10 ^ 18) → mj_T 39 mj_m265 61 [some (.ref 0), some (.int (jn x)), some (.int (jn y)), some (.int (jn (d : Int))), some (.int (jn (c : Int))), some (.int (jn (k : Int))), e6] [] h (rIa (A_agreements N0 x y) N0 u0 H tm er T) := by
  intro m
  induction m with
  | zero =>
    intro k c V h e6 hk hc hg q0 q1 hs c1 c2
    iterate 2 refine mj_T.pl rfl rfl rfl rfl ?_
    refine mj_T.icmp (a := (k : Int)) (b := (d : Int)) rfl ⟨by omega, by omega⟩ ⟨by omega, by omega⟩ (fun hc => ?_) (fun hc => ?_)
    · refine mj_T.pl rfl rfl rfl rfl ?_
      exact mj_T.ret rfl rfl rfl ⟨0, (c : Int), h, by rw [hg, show k = d + 1 by omega]; exact hA, ⟨by omega, by omega⟩, rfl, ⟨_, _, _, _, _, hs, K, e5⟩⟩
    · simp only [jc, decide_eq_false_iff_not] at hc
      omega
  | succ m ih =>
    intro k c V h e6 hk hc hg q0 q1 hs c1 c2
    iterate 2 refine mj_T.pl rfl rfl rfl rfl ?_
    refine mj_T.icmp (a := (k : Int)) (b := (d : Int)) rfl ⟨by omega, by omega⟩ ⟨by omega, by omega⟩ (fun hc => ?_) (fun hc => ?_)
    · simp only [jc, decide_eq_true_eq] at hc
      omega
    iterate 3 refine mj_T.pl rfl rfl rfl rfl ?_
    refine mj_T.call (ins := .invokevirtual 305) rfl rfl (Nat.le_of_ble_eq_true rfl) (Nat.le_of_ble_eq_true rfl) (by simp [mj_recv, rS_f hs]) rfl (mj_Ok.up (by decide) (rp_setsFraction (D := 0) (x := (k : Int)) (y := 1) ⟨by omega, by omega⟩ ⟨by decide, by decide⟩ hs)) (fun v' g1 hq' => ?_) (fun i h' hq' => by obtain ⟨_, _, _, _, _, _, h⟩ := hq'; cases h)
    obtain ⟨W1, _, hs1, x1a, x1b, x1c, hq'⟩ := hq'
    cases hq'
    iterate 2 refine mj_T.pl rfl rfl rfl rfl ?_
    refine mj_T.call (ins := .invokevirtual 162) rfl rfl (Nat.le_of_ble_eq_true rfl) (Nat.le_of_ble_eq_true rfl) (by simp [mj_recv, rS_f hs1]) rfl (mj_Ok.up (by decide) (jx_valueAt (D := 0) (V := W1) (p := 0) (rG S N B T X) (by decide) (C := 10 ^ 18) (x := 1000) (fun e he => by rw [x1c _ (by omega) (by omega)]; exact c1 e he) (by rw [x1a]; omega) (by rw [x1b]; decide) (by decide) rp_fitv rp_fitv2 hs1)) (fun v' g2 hq' => ?_) (fun i h' hq' => by obtain ⟨_, _, _, _, _, _, _, _, h⟩ := hq'; cases h)
    obtain ⟨W2, _, hs2, f1, _, _, _, w2, hq'⟩ := hq'
    cases hq'
    iterate 4 refine mj_T.pl rfl rfl rfl rfl ?_
    refine mj_T.call (ins := .invokevirtual 84) rfl rfl (Nat.le_of_ble_eq_true rfl) (Nat.le_of_ble_eq_true rfl) (by simp [mj_recv, rS_f hs2]) rfl (mj_Ok.up (by decide) (jS_copies (D := 0) (rG S N B T X) (to := 661) (s := 659) (by decide) (by decide) hs2)) (fun v' g3 hq' => ?_) (fun i h' hq' => by obtain ⟨_, _, h⟩ := hq'; cases h)
    obtain ⟨_, hs3, hq'⟩ := hq'
    cases hq'
    have f2 : ∀ s, s ≠ 661 → jvu W2 661 (W2 659) s = W2 s := fun s hne => jvu_ne _ _ _ hne
    have f2a : jvu W2 661 (W2 659) 661 = W2 659 := jvu_at _ _ _
    generalize jvu W2 661 (W2 659) = W3 at hs3 f2 f2a
    iterate 2 refine mj_T.pl rfl rfl rfl rfl ?_
    refine mj_T.call (ins := .invokevirtual 162) rfl rfl (Nat.le_of_ble_eq_true rfl) (Nat.le_of_ble_eq_true rfl) (by simp [mj_recv, rS_f hs3]) rfl (mj_Ok.up (by decide) (jx_valueAt (D := 0) (V := W3) (p := 1) (rG S N B T X) (by decide) (C := 10 ^ 18) (x := 1000) (fun e he => by rw [f2 _ (by omega), f1 _ (by omega) (by omega) (by omega), x1c _ (by omega) (by omega)]; exact c2 e he) (by rw [f2 _ (by decide), f1 _ (by decide) (by decide) (by decide), x1a]; omega) (by rw [f2 _ (by decide), f1 _ (by decide) (by decide) (by decide), x1b]; decide) (by decide) rp_fitv rp_fitv2 hs3)) (fun v' g4 hq' => ?_) (fun i h' hq' => by obtain ⟨_, _, _, _, _, _, _, _, h⟩ := hq'; cases h)
    obtain ⟨W4, _, hs4, f3, _, _, _, w4, hq'⟩ := hq'
    cases hq'
    iterate 5 refine mj_T.pl rfl rfl rfl rfl ?_
    refine mj_T.call (ins := .invokevirtual 314) rfl rfl (Nat.le_of_ble_eq_true rfl) (Nat.le_of_ble_eq_true rfl) (by simp [mj_recv, rS_f hs4]) rfl (mj_Ok.up (by decide) (ra_compares (a := 661) (b := 659) (by decide) (by decide) hs4)) (fun v' h' hq' => ?_) (fun i h' hq' => by obtain ⟨_, _, _, h⟩ := hq'; cases h)
    obtain ⟨z, hz, hzz, hq'⟩ := hq'
    cases hq'
    have u1 : W4 661 = hpv f (k : Int) 13 0 := by rw [f3 661 (by decide) (by decide) (by decide), f2a, w2, x1a, x1b, vlz_cg (f := f) (fun e he => (x1c _ (by omega) (by omega)).trans (q0 e he)), vlz_one]
    have u2 : W4 659 = hpv f' (k : Int) 13 0 := by rw [w4, f2 656 (by decide), f1 656 (by decide) (by decide) (by decide), x1a, f2 657 (by decide), f1 657 (by decide) (by decide) (by decide), x1b, vlz_cg (f := f') (fun e he => (f2 _ (by omega)).trans ((f1 _ (by omega) (by omega) (by omega)).trans ((x1c _ (by omega) (by omega)).trans (q1 e he)))), vlz_one]
    refine mj_T.if0 (a := z) rfl ⟨by omega, by omega⟩ (fun hc2 => ?_) (fun hc2 => ?_)
    · skip
      refine mj_T.pl rfl rfl rfl rfl ?_
      refine mj_T.iadd (a := (c : Int)) (b := 0) rfl ?_
      rw [show (c : Int) + 0 = ((c + 0 : Nat) : Int) by omega]
      refine mj_T.pl rfl rfl rfl rfl ?_
      refine mj_T.iinc (a := (k : Int)) rfl rfl ?_
      refine mj_T.pl rfl rfl rfl rfl ?_
      exact ih (k + 1) (c + 0) _ _ _ (by omega) (by omega) (by simp only [jc, Bool.not_eq_true', Bool.not_eq_false', decide_eq_true_eq, decide_eq_false_iff_not] at hc2; rw [Nat.add_zero, hg, agc_n (fun q => (show ¬ z = 0 by omega) (hzz.mpr (u1.trans (q.trans u2.symm))))]) (fun e he => by rw [f3 _ (by omega) (by omega) (by omega), f2 _ (by omega), f1 _ (by omega) (by omega) (by omega), x1c _ (by omega) (by omega)]; exact q0 e he) (fun e he => by rw [f3 _ (by omega) (by omega) (by omega), f2 _ (by omega), f1 _ (by omega) (by omega) (by omega), x1c _ (by omega) (by omega)]; exact q1 e he) hs4 (fun e he => by rw [f3 _ (by omega) (by omega) (by omega), f2 _ (by omega), f1 _ (by omega) (by omega) (by omega), x1c _ (by omega) (by omega)]; exact c1 e he) (fun e he => by rw [f3 _ (by omega) (by omega) (by omega), f2 _ (by omega), f1 _ (by omega) (by omega) (by omega), x1c _ (by omega) (by omega)]; exact c2 e he)
    · skip
      iterate 2 refine mj_T.pl rfl rfl rfl rfl ?_
      refine mj_T.iadd (a := (c : Int)) (b := 1) rfl ?_
      rw [show (c : Int) + 1 = ((c + 1 : Nat) : Int) by omega]
      refine mj_T.pl rfl rfl rfl rfl ?_
      refine mj_T.iinc (a := (k : Int)) rfl rfl ?_
      refine mj_T.pl rfl rfl rfl rfl ?_
      exact ih (k + 1) (c + 1) _ _ _ (by omega) (by omega) (by simp only [jc, Bool.not_eq_true', Bool.not_eq_false', decide_eq_true_eq, decide_eq_false_iff_not] at hc2; rw [hg, agc_y (u1.symm.trans ((hzz.mp (by omega)).trans u2))]) (fun e he => by rw [f3 _ (by omega) (by omega) (by omega), f2 _ (by omega), f1 _ (by omega) (by omega) (by omega), x1c _ (by omega) (by omega)]; exact q0 e he) (fun e he => by rw [f3 _ (by omega) (by omega) (by omega), f2 _ (by omega), f1 _ (by omega) (by omega) (by omega), x1c _ (by omega) (by omega)]; exact q1 e he) hs4 (fun e he => by rw [f3 _ (by omega) (by omega) (by omega), f2 _ (by omega), f1 _ (by omega) (by omega) (by omega), x1c _ (by omega) (by omega)]; exact c1 e he) (fun e he => by rw [f3 _ (by omega) (by omega) (by omega), f2 _ (by omega), f1 _ (by omega) (by omega) (by omega), x1c _ (by omega) (by omega)]; exact c2 e he)
theorem ra_agreements {x y : Int} (hx : jr x) (hy : jr y) (hI : jIx N0 u0 H tm er T h) : mj_Ok 40 265 [.ref 0, .int (jn x), .int (jn y)] h (rIa (A_agreements N0 x y) N0 u0 H tm er T) := by
  refine mj_Ok.of (M := mj_m265) rfl rfl rfl ?_
  obtain ⟨S, N, B, X, V, hs, K⟩ := hI
  iterate 2 refine mj_T.pl rfl rfl rfl rfl ?_
  refine rT_put (v := 0) hs rfl rfl (by decide) rfl (fun g5 hs5 => ?_)
  have K5 := K.put (k := 3) (v := 0) ⟨by decide, by decide⟩ (by decide) (by decide) (by decide) (by decide) (by decide)
  have e5 : jvu S 3 0 3 = 0 := jvu_at S 3 0
  generalize jvu S 3 0 = S5 at hs5 K5 e5
  have t19 : ¬ rg2 x y → mj_T 39 mj_m265 19 [some (.ref 0), some (.int (jn x)), some (.int (jn y)), none, none, none, none] [] g5 (rIa (A_agreements N0 x y) N0 u0 H tm er T) := by
    intro hno
    iterate 2 refine mj_T.pl rfl rfl rfl rfl ?_
    refine mj_T.call (ins := .invokevirtual 198) rfl rfl (Nat.le_of_ble_eq_true rfl) (Nat.le_of_ble_eq_true rfl) (by simp [mj_recv, rS_f hs5]) rfl (mj_Ok.up (by decide) (rp_fails (D := 0) (c := 1) hs5)) (fun v' g6 hq' => ?_) (fun i h' hq' => by obtain ⟨_, _, h⟩ := hq'; cases h)
    obtain ⟨_, hs6, hq'⟩ := hq'
    cases hq'
    exact mj_T.ret rfl rfl rfl ⟨1, 0, g6, an.n hno, ⟨by decide, by decide⟩, rfl, ⟨_, N, B, X, V, hs6, K5.put ⟨by decide, by decide⟩ (by decide) (by decide) (by decide) (by decide) (by decide), jvu_at _ _ _⟩⟩
  refine mj_T.pl rfl rfl rfl rfl ?_
  refine mj_T.call (ins := .invokestatic 181) rfl rfl (Nat.le_of_ble_eq_true rfl) (Nat.le_of_ble_eq_true rfl) rfl rfl (mj_Ok.up (by decide) (rp_isRegister (D := 0) hx)) (fun v' h' hq' => ?_) (fun i h' hq' => by rcases hq' with ⟨_, _, h⟩ | ⟨_, h⟩ <;> cases h)
  rcases hq' with ⟨x1, x2, hq'⟩ | ⟨cn, hq'⟩
  case' inr =>
    cases hq'
    refine mj_T.if0 (a := 0) rfl ⟨by decide, by decide⟩ (fun hc => ?_) (fun hc => ?_)
    · exact t19 (fun q => by have q1 := q.1; have q2 := q.2; omega)
    · simp [jc] at hc
  cases hq'
  refine mj_T.if0 (a := 1) rfl ⟨by decide, by decide⟩ (fun hc => ?_) (fun hc => ?_)
  · simp [jc] at hc
  refine mj_T.pl rfl rfl rfl rfl ?_
  refine mj_T.call (ins := .invokestatic 181) rfl rfl (Nat.le_of_ble_eq_true rfl) (Nat.le_of_ble_eq_true rfl) rfl rfl (mj_Ok.up (by decide) (rp_isRegister (D := 0) hy)) (fun v' h' hq' => ?_) (fun i h' hq' => by rcases hq' with ⟨_, _, h⟩ | ⟨_, h⟩ <;> cases h)
  rcases hq' with ⟨y1, y2, hq'⟩ | ⟨cn, hq'⟩
  case' inr =>
    cases hq'
    refine mj_T.if0 (a := 0) rfl ⟨by decide, by decide⟩ (fun hc => ?_) (fun hc => ?_)
    · simp [jc] at hc
    · exact t19 (fun q => by have q1 := q.1; have q2 := q.2; omega)
  cases hq'
  refine mj_T.if0 (a := 1) rfl ⟨by decide, by decide⟩ (fun hc => ?_) (fun hc => ?_)
  rotate_left
  · simp [jc] at hc
  clear t19
  obtain ⟨x, rfl⟩ := Int.eq_ofNat_of_zero_le x1
  obtain ⟨y, rfl⟩ := Int.eq_ofNat_of_zero_le y1
  iterate 3 refine mj_T.pl rfl rfl rfl rfl ?_
  refine mj_T.call (ins := .invokevirtual 213) rfl rfl (Nat.le_of_ble_eq_true rfl) (Nat.le_of_ble_eq_true rfl) (by simp [mj_recv, rS_f hs5]) rfl (mj_Ok.up (by decide) (rp_loads (D := 0) (p := 0) (r := x) (by decide) (by omega) K5.nR hs5)) (fun v' g7 hq' => ?_) (fun i h' hq' => by obtain ⟨_, _, h⟩ := hq'; cases h)
  obtain ⟨_, hs7, hq'⟩ := hq'
  cases hq'
  have a7 : ∀ e, e < 13 → jfl V 0 (fun e => N (x * 13 + e)) 13 (0 * 13 + e) = N (x * 13 + e) := fun e he => jfl_at _ _ _ he
  have b7 : ∀ s, (s < 0 * 13 ∨ 0 * 13 + 13 ≤ s) → jfl V 0 (fun e => N (x * 13 + e)) 13 s = V s := fun s hc => jfl_off _ _ _ hc
  generalize jfl V 0 (fun e => N (x * 13 + e)) 13 = W7 at hs7 a7 b7
  iterate 3 refine mj_T.pl rfl rfl rfl rfl ?_
  refine mj_T.call (ins := .invokevirtual 213) rfl rfl (Nat.le_of_ble_eq_true rfl) (Nat.le_of_ble_eq_true rfl) (by simp [mj_recv, rS_f hs7]) rfl (mj_Ok.up (by decide) (rp_loads (D := 0) (p := 1) (r := y) (by decide) (by omega) K5.nR hs7)) (fun v' g8 hq' => ?_) (fun i h' hq' => by obtain ⟨_, _, h⟩ := hq'; cases h)
  obtain ⟨_, hs8, hq'⟩ := hq'
  cases hq'
  have a8 : ∀ e, e < 13 → jfl W7 1 (fun e => N (y * 13 + e)) 13 (1 * 13 + e) = N (y * 13 + e) := fun e he => jfl_at _ _ _ he
  have b8 : ∀ s, (s < 1 * 13 ∨ 1 * 13 + 13 ≤ s) → jfl W7 1 (fun e => N (y * 13 + e)) 13 s = W7 s := fun s hc => jfl_off _ _ _ hc
  generalize jfl W7 1 (fun e => N (y * 13 + e)) 13 = W8 at hs8 a8 b8
  have c1 : ∀ e, e < 13 → (W8 (0 * 13 + e)).natAbs ≤ 10 ^ 18 := fun e he => by
    rw [b8 _ (by omega), a7 e he]
    exact K5.sh (r := x) (by omega) he
  have c2 : ∀ e, e < 13 → (W8 (1 * 13 + e)).natAbs ≤ 10 ^ 18 := fun e he => by
    rw [a8 e he]
    exact K5.sh (r := y) (by omega) he
  have hl0 := jdg_le W8 0 13
  have hl1 := jdg_le W8 1 13
  iterate 3 refine mj_T.pl rfl rfl rfl rfl ?_
  refine mj_T.call (ins := .invokevirtual 114) rfl rfl (Nat.le_of_ble_eq_true rfl) (Nat.le_of_ble_eq_true rfl) (by simp [mj_recv, rS_f hs8]) rfl (mj_Ok.up (by decide) (jp_degreeOf (D := 0) (rG S5 N B T X) (p := 0) (by decide) hs8)) (fun v' h' hq' => ?_) (fun i h' hq' => by cases hq')
  cases hq'
  iterate 2 refine mj_T.pl rfl rfl rfl rfl ?_
  refine mj_T.call (ins := .invokevirtual 114) rfl rfl (Nat.le_of_ble_eq_true rfl) (Nat.le_of_ble_eq_true rfl) (by simp [mj_recv, rS_f hs8]) rfl (mj_Ok.up (by decide) (jp_degreeOf (D := 0) (rG S5 N B T X) (p := 1) (by decide) hs8)) (fun v' h' hq' => ?_) (fun i h' hq' => by cases hq')
  cases hq'
  refine mj_T.imax (a := (jdg W8 0 13 : Int) - 1) (b := (jdg W8 1 13 : Int) - 1) rfl rfl (Nat.le_of_ble_eq_true rfl) ⟨by omega, by omega⟩ ⟨by omega, by omega⟩ ?_
  obtain ⟨mx, hmx⟩ : ∃ mx, mx = max ((jdg W8 0 13 : Int) - 1) ((jdg W8 1 13 : Int) - 1) := ⟨_, rfl⟩
  rw [← hmx]
  have hmx2 : -1 ≤ mx ∧ mx ≤ 12 := by omega
  refine mj_T.imax (a := 0) (b := mx) rfl rfl (Nat.le_of_ble_eq_true rfl) ⟨by decide, by decide⟩ ⟨by omega, by omega⟩ ?_
  obtain ⟨d, hd⟩ : ∃ d : Nat, max 0 mx = (d : Int) := Int.eq_ofNat_of_zero_le (by omega)
  rw [hd]
  iterate 5 refine mj_T.pl rfl rfl rfl rfl ?_
  have q0 : ∀ e, e < 13 → W8 (0 * 13 + e) = rwN N0 (x : Int) e := fun e he => (b8 _ (by omega)).trans ((a7 e he).trans (rwN_at K5.2.1 (by omega) he))
  have q1 : ∀ e, e < 13 → W8 (1 * 13 + e) = rwN N0 (y : Int) e := fun e he => (a8 e he).trans (rwN_at K5.2.1 (by omega) he)
  have p0 := (fdg_congr 13 q0).symm.trans (fdg_jdg W8 0 13)
  have p1 := (fdg_congr 13 q1).symm.trans (fdg_jdg W8 1 13)
  have hd9 : agd (rwN N0 (x : Int)) (rwN N0 (y : Int)) = d + 1 := by
    unfold agd
    rw [p0, p1]
    simp only [Nat.max_def]
    (repeat' split) <;> omega
  exact ra_ag_loop (d := d) (by omega) K5 (f := rwN N0 (x : Int)) (f' := rwN N0 (y : Int)) (an.y ⟨⟨by omega, by omega⟩, ⟨by omega, by omega⟩⟩ (an.e (by rw [hd9]))) e5 (d + 1) 0 0 _ _ none (by omega) (by decide) rfl q0 q1 hs8 c1 c2
end RVG
section RVH
variable {h : mj_H} {u : Nat} {N : Nat → Int} {H : Nat → Nat → Int} {tm er : Int} {T : Nat → Int}
theorem ga_agreements {x : Int} (jx : jr x) {y : Int} (jy : jr y) (I : jIx N u H tm er T h) : mj_Ok 60 265 [.ref 0, .int (jn x), .int (jn y)] h (rZa (sameQ N u H) (A_agreements N x y) tm er T) := (mj_Ok.up (by decide) (ra_agreements jx jy I)).to (fun r k => k.za)
end RVH
/-! divides: answers on both sides. -/
abbrev dvZ (f f' : Nat → Int) : Prop := ∃ (Q : pz_P) (d : Nat), pz_lt Q d ∧ rw13 f' = pz_mul Q (rw13 f)
abbrev dvF (f f' : Nat → Int) (z : Int) : Prop := (z = 1 ∧ dvZ f f') ∨ (z = 0 ∧ ¬ dvZ f f')
theorem dvF.one {f f' : Nat → Int} (z1 z2 : Int) (a : dvF f f' z1) (b : dvF f f' z2) : z1 = z2 := by
  rcases a with ⟨a1, a2⟩ | ⟨a1, a2⟩
  · rcases b with ⟨b1, b2⟩ | ⟨b1, b2⟩
    · omega
    · exact absurd a2 b2
  · rcases b with ⟨b1, b2⟩ | ⟨b1, b2⟩
    · exact absurd b2 a2
    · omega
theorem dvF.cg {f f' f1 f2 : Nat → Int} (h : ∀ j, j < 13 → f j = f1 j) (h2 : ∀ j, j < 13 → f' j = f2 j) {z : Int} (p : dvF f f' z) : dvF f1 f2 z := by
  have e1 := rw13_cg h
  have e2 := rw13_cg h2
  unfold dvF dvZ at p ⊢
  rw [← e1, ← e2]
  exact p
abbrev A_divides (N : Nat → Int) (a b : Int) : Int → Int → Prop := an [(rg2 a b, 1)] (dvF (rwN N a) (rwN N b))
theorem A_divides.ag {N : Nat → Int} {a b c1 z1 c2 z2 : Int} (p : A_divides N a b c1 z1) (q : A_divides N a b c2 z2) : c1 = c2 ∧ (c1 = 0 → z1 = z2) := an.ag dvF.one (by simp) p q
theorem A_divides.b {N : Nat → Int} {a b z : Int} (p : A_divides N a b 0 z) : z = 0 ∨ z = 1 := by
  rcases p with ⟨_, e⟩ | ⟨_, _, ⟨e, _⟩ | ⟨e, _⟩⟩
  · exact absurd (show (0 : Int) = 1 from e) (by decide)
  · exact Or.inr e
  · exact Or.inl e
theorem dvZ_0 {f f' : Nat → Int} (h : ∀ j, j < 13 → f' j = 0) : dvZ f f' := ⟨pz_0, 0, fun _ _ => rfl, by
  rw [pz_mul_0L]
  funext j
  unfold rw13
  split
  · rename_i c
    exact h j c
  · rfl⟩
theorem dvZ_no {f f' : Nat → Int} (h : 1 ≤ fdg f' 13) (hd : fdg f' 13 < fdg f 13 ∨ fdg f 13 = 0) : ¬ dvZ f f' := fun ⟨Q, d, hQ, e⟩ => by
  have hl := fdg_le f 13
  have hl2 := fdg_le f' 13
  have hne : rw13 f' (fdg f' 13 - 1) ≠ 0 := by
    rw [rw13_in (by omega)]
    exact fdg_ne f' 13 h
  apply hne
  rcases hd with q | q
  · have hB : pz_lt (rw13 f) ((fdg f 13 - 1) + 1) := fun i hi => rw13_top i (by omega)
    have hb : rw13 f (fdg f 13 - 1) ≠ 0 := by
      rw [rw13_in (by omega)]
      exact fdg_ne f 13 (by omega)
    obtain ⟨u, hu, eu⟩ := jdx_not (A := rw13 f') (Qp := pz_0) (R := rw13 f') (m := 0) hB hb (by
      rw [pz_mul_0L]
      funext i
      show rw13 f' i = 0 + rw13 f' i
      omega) hQ (fun _ _ => rfl) e (fun i hi => rw13_top i (by omega))
    rw [eu, pz_lt.zero u hu, pz_mul_0L]
    rfl
  · have e0 : rw13 f = pz_0 := funext fun j => by
      unfold rw13
      split
      · rename_i c
        exact fdg_zero f 13 j (by omega) c
      · rfl
    rw [e, e0]
    exact pz_c_zeroR _ _
def hdB (k : Nat) : Nat := 1000000000000000000 ^ (k + 1)
theorem hdb_s (k : Nat) : hdB k * 1000000000000000000 = hdB (k + 1) := (Nat.pow_succ _ _).symm
theorem hdb_m {k l : Nat} (h : k ≤ l) : hdB k ≤ hdB l := Nat.pow_le_pow_right (by decide) (by omega)
theorem hdb_0 : 999999999999999999 ≤ hdB 0 := by
  unfold hdB
  decide +kernel
theorem hdb_l {v : Int} (k : Nat) (h : k ≤ 13) (hv : v.natAbs ≤ hdB k) : jnl v.natAbs ≤ 29 := jnl_B (Nat.le_trans hv (hdb_m h)) (by
  unfold hdB
  decide +kernel)
theorem jpo_rw {V : Nat → Int} {p : Nat} {f : Nat → Int} (h : ∀ e, e < 13 → V (p * 13 + e) = f e) : jpo V p = rw13 f := funext fun e => by
  unfold jpo rw13
  split
  · rename_i c
    exact h e c
  · rfl
section MDZ
variable {g h : mj_H} {n D : Nat} {V : Nat → Int} {X : Nat → Nat → Int} {u : Nat} {N : Nat → Int} {H : Nat → Nat → Int}
theorem mX_dv_in {dg k w : Nat} {s : Int} {G R : pz_P} {V0 : Nat → Int} (h5 : X 50 2 = (dg : Int)) (hw : w ≤ 12) (hk : dg + k < 13) (hG : ∀ j, (G j).natAbs ≤ 999999999999999999) (hs : s.natAbs ≤ hdB w) (hR : ∀ e, (R e).natAbs ≤ hdB w) (hV0 : ∀ e, e < 13 → V0 (50 + 4 + 2 * e) = G e) {Q : mj_R → Prop} (hend : ∀ (V1 : Nat → Int) (h1 : mj_H), jM g n V1 (xup X 20 2 (-1)) h1 → (∀ e, e < 13 → V1 (80 + 4 + 2 * e) = (R e - if k ≤ e ∧ e < k + (dg + 1) then s * G (e - k) else 0)) → V1 (20 + 4 + 2 * k) = s → (∀ x, x ≠ 166 → (x < 80 + 4 ∨ 80 + 4 + 2 * 13 ≤ x) → V1 x = V0 x) → mj_T (D + 3) mj_m19 136 [some (.ref 19), some (.ref 50), some (.ref 20), some (.int (jn (k : Int))), some (.ref (20 + 4 + 2 * k)), some (.int (jn ((dg + 1 : Nat) : Int)))] [] h1 Q) : ∀ y j, j + y = dg + 1 → ∀ (V1 : Nat → Int) (h1 : mj_H), jM g n V1 (xup X 20 2 (-1)) h1 → (∀ e, e < 13 → V1 (80 + 4 + 2 * e) = (R e - if k ≤ e ∧ e < k + j then s * G (e - k) else 0)) → V1 (20 + 4 + 2 * k) = s → (∀ x, x ≠ 166 → (x < 80 + 4 ∨ 80 + 4 + 2 * 13 ≤ x) → V1 x = V0 x) → mj_T (D + 3) mj_m19 87 [some (.ref 19), some (.ref 50), some (.ref 20), some (.int (jn (k : Int))), some (.ref (20 + 4 + 2 * k)), some (.int (jn (j : Int)))] [] h1 Q
  | 0, j, hj, V1, hh1, m, e1, e2, e3 => by
    have p20 : cL (20 + 3) = 13 := mK_z.1
    have p50 : cL (50 + 3) = 13 := mK_z.2.1
    have p80 : cL (80 + 3) = 13 := mK_z.2.2.1
    have lc1 : cL (164 + 1) = 240 := mK_z.2.2.2.2.2.2.2.1
    have lc2 : cL (166 + 1) = 240 := mK_z.2.2.2.2.2.2.2.2.1
    have lc4 : cL (170 + 1) = 60 := mK_z.2.2.2.2.2.2.2.2.2.2.1
    iterate 2 refine mj_T.pl rfl rfl rfl rfl ?_
    refine mT_get (v := .int (jn ((dg : Nat) : Int))) m 13 cq_d50 (by decide) rfl (congrArg (fun z : Int => some (Value.int (jn z))) ((congrFun (xup_oth (by decide)) 2).trans h5)) ?_
    refine mj_T.icmp (a := ((j : Nat) : Int)) (b := ((dg : Nat) : Int)) rfl ⟨by omega, by omega⟩ ⟨by omega, by omega⟩ (fun c1 => ?_) (fun c1 => ?_)
    · simp only [jc, Bool.not_eq_true', Bool.not_eq_false', decide_eq_true_eq, decide_eq_false_iff_not] at c1
      have hj2 : j = dg + 1 := by omega
      subst hj2
      exact hend V1 _ m e1 e2 e3
    · exfalso
      simp only [jc, Bool.not_eq_true', Bool.not_eq_false', decide_eq_true_eq, decide_eq_false_iff_not] at c1
      omega
  | y + 1, j, hj, V1, hh1, m, e1, e2, e3 => by
    have p20 : cL (20 + 3) = 13 := mK_z.1
    have p50 : cL (50 + 3) = 13 := mK_z.2.1
    have p80 : cL (80 + 3) = 13 := mK_z.2.2.1
    have lc1 : cL (164 + 1) = 240 := mK_z.2.2.2.2.2.2.2.1
    have lc2 : cL (166 + 1) = 240 := mK_z.2.2.2.2.2.2.2.2.1
    have lc4 : cL (170 + 1) = 60 := mK_z.2.2.2.2.2.2.2.2.2.2.1
    have ej : V1 (50 + 4 + 2 * j) = G j := (e3 _ (by omega) (by omega)).trans (hV0 j (by omega))
    have c80 : cL (80 + 4 + 2 * (j + k) + 1) = 236 := (mK_z.2.2.2.2.1 (j + k) (by omega)).2.2
    have hsG : (s * G j).natAbs ≤ hdB w * 999999999999999999 := by
      rw [Int.natAbs_mul]
      exact Nat.mul_le_mul hs (hG j)
    have hd1 := hdb_s w
    have hpr : jnl (s * G j).natAbs ≤ 29 := hdb_l (w + 1) (by omega) (by omega)
    have hres : jnl ((R (j + k) - if k ≤ j + k ∧ j + k < k + j then s * G (j + k - k) else 0) + -1 * (s * G j)).natAbs ≤ 29 := by
      have a1 := hR (j + k)
      rw [if_neg (by omega)]
      exact hdb_l (w + 1) (by omega) (by omega)
    iterate 2 refine mj_T.pl rfl rfl rfl rfl ?_
    refine mT_get (v := .int (jn ((dg : Nat) : Int))) m 13 cq_d50 (by decide) rfl (congrArg (fun z : Int => some (Value.int (jn z))) ((congrFun (xup_oth (by decide)) 2).trans h5)) ?_
    refine mj_T.icmp (a := ((j : Nat) : Int)) (b := ((dg : Nat) : Int)) rfl ⟨by omega, by omega⟩ ⟨by omega, by omega⟩ (fun c1 => ?_) (fun c1 => ?_)
    · exfalso
      simp only [jc, Bool.not_eq_true', Bool.not_eq_false', decide_eq_true_eq, decide_eq_false_iff_not] at c1
      omega
    · simp only [jc, Bool.not_eq_true', Bool.not_eq_false', decide_eq_true_eq, decide_eq_false_iff_not] at c1
      refine mj_T.pl rfl rfl rfl rfl ?_
      refine mT_get m 11 cq_d19 (by decide) rfl rfl ?_
      iterate 3 refine mj_T.pl rfl rfl rfl rfl ?_
      refine mj_T.call rfl rfl (Nat.le_of_ble_eq_true rfl) (Nat.le_of_ble_eq_true rfl) (mV_of m 13 cq_d50 (by decide) rfl (by decide) rfl _) rfl (mj_Ok.up (by omega) (mP_at (D := 0) m cq_d50 (e := j) (by omega))) (fun v g2 hq => ?_) (fun i g2 hq => ?_)
      rotate_left
      · cases hq
      cases hq
      refine mj_T.eq (pc2 := 108) (st2 := [.ref (50 + 4 + 2 * j), .ref (20 + 4 + 2 * k), .ref 166]) ?_ rfl rfl rfl rfl
      refine mj_T.call rfl rfl (Nat.le_of_ble_eq_true rfl) (Nat.le_of_ble_eq_true rfl) (mV_of m 18 cq_d166 (by decide) rfl (by decide) rfl _) rfl (mj_Ok.up (by omega) (mW_setProduct (D := 0) m cq_d166 ((mK_p cq_d20).2.2.2 k (by omega)) ((mK_p cq_d50).2.2.2 _ (by omega)) (by omega) (by omega) (by omega) (by rw [(rfl : V1 (20 + 4 + 2 * k) = _), (rfl : V1 (50 + 4 + 2 * j) = _)]; exact (by rw [ej, e2]; exact Nat.le_trans hpr (by omega))) (hca := by rw [(rfl : V1 (20 + 4 + 2 * k) = _)]; rw [e2]; exact Nat.le_trans (hdb_l w (by omega) hs) (by decide)) (hcb := by rw [(rfl : V1 (50 + 4 + 2 * j) = _)]; rw [ej]; exact Nat.le_trans (jnl_R (by have := hG j; omega)) (by decide)))) (fun v g3 hq => ?_) (fun i g3 hq => ?_)
      rotate_left
      · obtain ⟨_, _, hq⟩ := hq; cases hq
      obtain ⟨_, m4, hq⟩ := hq
      cases hq
      have m4 := m4.to (V' := (jvu V1 166 ((V1 (20 + 4 + 2 * k)) * (V1 (50 + 4 + 2 * j))))) (by rw [(rfl : V1 (20 + 4 + 2 * k) = _), (rfl : V1 (50 + 4 + 2 * j) = _)]) rfl
      refine mj_T.eq (pc2 := 111) (st2 := []) ?_ rfl rfl rfl rfl
      refine mj_T.pl rfl rfl rfl rfl ?_
      refine mT_get m4 11 cq_d19 (by decide) rfl rfl ?_
      iterate 2 refine mj_T.pl rfl rfl rfl rfl ?_
      refine mj_T.iadd (a := ((j : Nat) : Int)) (b := ((k : Nat) : Int)) rfl ?_
      rw [show (((j : Nat) : Int) + ((k : Nat) : Int)) = ((j + k : Nat) : Int) by omega]
      refine mj_T.call rfl rfl (Nat.le_of_ble_eq_true rfl) (Nat.le_of_ble_eq_true rfl) (mV_of m4 13 cq_d80 (by decide) rfl (by decide) rfl _) rfl (mj_Ok.up (by omega) (mP_at (D := 0) m4 cq_d80 (e := j + k) (by omega))) (fun v g5 hq => ?_) (fun i g5 hq => ?_)
      rotate_left
      · cases hq
      cases hq
      refine mj_T.eq (pc2 := 122) (st2 := [.ref (80 + 4 + 2 * (j + k))]) ?_ rfl rfl rfl rfl
      refine mj_T.pl rfl rfl rfl rfl ?_
      refine mT_get m4 11 cq_d19 (by decide) rfl rfl ?_
      refine mj_T.pl rfl rfl rfl rfl ?_
      refine mj_T.call rfl rfl (Nat.le_of_ble_eq_true rfl) (Nat.le_of_ble_eq_true rfl) (mV_of m4 18 ((mK_p cq_d80).2.2.2 _ (by omega)) (by decide) rfl (by decide) rfl _) rfl (mj_Ok.up (by omega) (mW_plus (D := 0) (f := (-1)) m4 ((mK_p cq_d80).2.2.2 _ (by omega)) cq_d166 (by omega) (Or.inr rfl) (by rw [(jvu_at _ _ _)]; exact (by rw [c80, ej, e2]; exact Nat.le_trans hpr (by omega))) (by rw [((jvu_ne _ _ _ (by omega)).trans (rfl : V1 (80 + 4 + 2 * (j + k)) = _)), (jvu_at _ _ _)]; exact (by rw [c80, e1 _ (by omega), ej, e2]; exact Nat.le_trans hres (by decide))))) (fun v g6 hq => ?_) (fun i g6 hq => ?_)
      rotate_left
      · obtain ⟨_, _, hq⟩ := hq; cases hq
      obtain ⟨_, m7, hq⟩ := hq
      cases hq
      have m7 := m7.to (V' := (jvu (jvu V1 166 ((V1 (20 + 4 + 2 * k)) * (V1 (50 + 4 + 2 * j)))) (80 + 4 + 2 * (j + k)) ((V1 (80 + 4 + 2 * (j + k))) + (-1) * ((V1 (20 + 4 + 2 * k)) * (V1 (50 + 4 + 2 * j)))))) (by rw [((jvu_ne _ _ _ (by omega)).trans (rfl : V1 (80 + 4 + 2 * (j + k)) = _)), (jvu_at _ _ _)]) rfl
      refine mj_T.eq (pc2 := 130) (st2 := []) ?_ rfl rfl rfl rfl
      refine mj_T.iinc rfl rfl ?_
      rw [show ((j : Nat) : Int) + 1 = ((j + 1 : Nat) : Int) by omega]
      refine mj_T.eq (loc2 := [some (.ref 19), some (.ref 50), some (.ref 20), some (.int (jn ((k : Nat) : Int))), some (.ref (20 + 4 + 2 * k)), some (.int (jn (((j + 1) : Nat) : Int)))]) ?_ rfl rfl rfl rfl
      refine mj_T.pl rfl rfl rfl rfl ?_
      refine mX_dv_in h5 hw hk hG hs hR hV0 hend y (j + 1) (by omega) _ _ m7 (fun e he => ?_) ?_ (fun x x1 x2 => ?_)
      · by_cases q : e = j + k
        · subst q
          rw [jvu_at, e1 _ he, ej, e2, if_neg (by omega), if_pos (by omega), show j + k - k = j by omega]
          omega
        · rw [jvu_ne _ _ _ (by omega), jvu_ne _ _ _ (by omega), e1 e he]
          by_cases c : k ≤ e ∧ e < k + j
          · rw [if_pos c, if_pos (by omega)]
          · rw [if_neg c, if_neg (by omega)]
      · rw [((jvu_ne _ _ _ (by omega)).trans ((jvu_ne _ _ _ (by omega)).trans (rfl : V1 (20 + 4 + 2 * k) = _)))]
        exact e2
      · rw [((jvu_ne _ _ _ (by omega)).trans ((jvu_ne _ _ _ (by omega)).trans (rfl : V1 x = _)))]
        exact e3 x x1 x2
theorem mX_dv_out {dg ds : Nat} {B G : pz_P} (h5 : X 50 2 = (dg : Int)) (h8 : X 80 2 = ((dg + ds : Nat) : Int)) (hd : dg + ds < 13) (hGl : pz_lt G (dg + 1)) (hG0 : G dg ≠ 0) (hG : ∀ j, (G j).natAbs ≤ 999999999999999999) : ∀ k, k ≤ ds + 1 → ∀ (S R : pz_P) (V1 : Nat → Int) (h1 : mj_H) (l4 l5 : Option Value), jM g n V1 (xup X 20 2 (-1)) h1 → (∀ e, e < 13 → V1 (80 + 4 + 2 * e) = R e) → (∀ e, e < 13 → V1 (20 + 4 + 2 * e) = S e) → V1 170 = G dg → (∀ e, e < 13 → V1 (50 + 4 + 2 * e) = G e) → pz_lt S 13 → B = pz_add (pz_mul S G) R → pz_lt R (k + dg) → (∀ e, (R e).natAbs ≤ hdB (ds + 1 - k)) → (∀ e, (S e).natAbs ≤ hdB 12) → (∀ i, i < k → S i = 0) → mj_T (D + 3) mj_m19 28 [some (.ref 19), some (.ref 50), some (.ref 20), some (.int (jn ((k : Int) - 1))), l4, l5] [] h1 (fun r => ∃ z : Int, ((z = 1 ∧ (∃ (Q : pz_P) (d : Nat), pz_lt Q d ∧ B = pz_mul Q G)) ∨ (z = 0 ∧ ¬ (∃ (Q : pz_P) (d : Nat), pz_lt Q d ∧ B = pz_mul Q G))) ∧ r.1 = .inl (some (.int (jn z))))
  | 0, hk, S, R, V1, hh1, l4, l5, m, e1, e2, e3, e4, e5, e6, e7, e8, e9, e0 => by
    have p20 : cL (20 + 3) = 13 := mK_z.1
    have p50 : cL (50 + 3) = 13 := mK_z.2.1
    have p80 : cL (80 + 3) = 13 := mK_z.2.2.1
    have lc1 : cL (164 + 1) = 240 := mK_z.2.2.2.2.2.2.2.1
    have lc2 : cL (166 + 1) = 240 := mK_z.2.2.2.2.2.2.2.2.1
    have lc4 : cL (170 + 1) = 60 := mK_z.2.2.2.2.2.2.2.2.2.2.1
    have hl := fdg_le R 13
    refine mj_T.pl rfl rfl rfl rfl ?_
    refine mj_T.if0 (a := (((0 : Nat) : Int) - 1)) rfl ⟨by omega, by omega⟩ (fun c1 => ?_) (fun c1 => ?_)
    · simp only [jc, Bool.not_eq_true', Bool.not_eq_false', decide_eq_true_eq, decide_eq_false_iff_not] at c1
      refine mj_T.pl rfl rfl rfl rfl ?_
      have eS : ∀ e, e < 13 → pco V1 20 e = S e := fun e he => e2 e he
      have eR : ∀ e, e < 13 → pco V1 80 e = R e := fun e he => e1 e he
      refine mj_T.call rfl rfl (Nat.le_of_ble_eq_true rfl) (Nat.le_of_ble_eq_true rfl) (mV_of m 13 cq_d20 (by decide) rfl (by decide) rfl _) rfl (mj_Ok.up (by omega) (mP_settle (D := 0) m cq_d20 (fun e he => by rw [p20] at he; have q := eS e he; unfold pco at q; rw [q]; exact Nat.le_trans (hdb_l 12 (by decide) (e9 e)) (by decide)))) (fun v g2 hq => ?_) (fun i g2 hq => ?_)
      rotate_left
      · obtain ⟨_, _, hq⟩ := hq; cases hq
      obtain ⟨_, m3, hq⟩ := hq
      cases hq
      refine mj_T.eq (pc2 := 146) (st2 := []) ?_ rfl rfl rfl rfl
      refine mj_T.pl rfl rfl rfl rfl ?_
      refine mT_get m3 11 cq_d19 (by decide) rfl rfl ?_
      refine mj_T.call rfl rfl (Nat.le_of_ble_eq_true rfl) (Nat.le_of_ble_eq_true rfl) (mV_of m3 13 cq_d80 (by decide) rfl (by decide) rfl _) rfl (mj_Ok.up (by omega) (mP_settle (D := 0) m3 cq_d80 (fun e he => by rw [p80] at he; have q := eR e he; unfold pco at q; rw [q]; exact Nat.le_trans (hdb_l (ds + 1 - 0) (by omega) (e8 e)) (by decide)))) (fun v g4 hq => ?_) (fun i g4 hq => ?_)
      rotate_left
      · obtain ⟨_, _, hq⟩ := hq; cases hq
      obtain ⟨_, m5, hq⟩ := hq
      cases hq
      rw [p80, fdg_congr 13 eR] at m5
      refine mj_T.eq (pc2 := 153) (st2 := []) ?_ rfl rfl rfl rfl
      refine mj_T.pl rfl rfl rfl rfl ?_
      refine mT_get m5 11 cq_d19 (by decide) rfl rfl ?_
      refine mT_get (v := .int (jn ((fdg R 13 : Int) - 1))) m5 13 cq_d80 (by decide) rfl (congrArg (fun z : Int => some (Value.int (jn z))) (xup_at _ _ _ _)) ?_
      refine mj_T.if0 (a := ((fdg R 13 : Int) - 1)) rfl ⟨by omega, by omega⟩ (fun c6 => ?_) (fun c6 => ?_)
      · simp only [jc, Bool.not_eq_true', Bool.not_eq_false', decide_eq_true_eq, decide_eq_false_iff_not] at c6
        refine mj_T.pl rfl rfl rfl rfl ?_
        refine mj_T.ret rfl rfl rfl ⟨0, Or.inr ⟨rfl, fun ⟨q1, d1, hq1, hA⟩ => ?_⟩, rfl⟩
        obtain ⟨u, hu, eu⟩ := jdx_not hGl hG0 e6 hq1 e5 hA e7
        have hx := fdg_ne R 13 (by omega)
        apply hx
        rw [eu, pz_lt.zero u hu, pz_mul_0L]
        rfl
      · simp only [jc, Bool.not_eq_true', Bool.not_eq_false', decide_eq_true_eq, decide_eq_false_iff_not] at c6
        iterate 2 refine mj_T.pl rfl rfl rfl rfl ?_
        have hR0 : ∀ e, R e = 0 := fun e => by
          by_cases q : e < 13
          · exact fdg_zero R 13 e (by omega) q
          · exact e7 e (by omega)
        exact mj_T.ret rfl rfl rfl ⟨1, Or.inl ⟨rfl, S, 13, e5, e6.trans (funext fun e => by show pz_mul S G e + R e = _; rw [hR0 e, Int.add_zero])⟩, rfl⟩
    · exfalso
      simp only [jc, Bool.not_eq_true', Bool.not_eq_false', decide_eq_true_eq, decide_eq_false_iff_not] at c1
      omega
  | k + 1, hk, S, R, V1, hh1, l4, l5, m, e1, e2, e3, e4, e5, e6, e7, e8, e9, e0 => by
    have p20 : cL (20 + 3) = 13 := mK_z.1
    have p50 : cL (50 + 3) = 13 := mK_z.2.1
    have p80 : cL (80 + 3) = 13 := mK_z.2.2.1
    have lc1 : cL (164 + 1) = 240 := mK_z.2.2.2.2.2.2.2.1
    have lc2 : cL (166 + 1) = 240 := mK_z.2.2.2.2.2.2.2.2.1
    have lc4 : cL (170 + 1) = 60 := mK_z.2.2.2.2.2.2.2.2.2.2.1
    rw [show ((k + 1 : Nat) : Int) - 1 = (k : Int) by omega]
    have et : V1 (80 + 4 + 2 * (dg + k)) = R (dg + k) := e1 _ (by omega)
    have c20 : cL (20 + 4 + 2 * k + 1) = 30 := (mK_z.2.2.2.2.1 k (by omega)).1
    have hw8 : ds + 1 - (k + 1) ≤ 12 := by omega
    have hw9 : ds + 1 - (k + 1) ≤ 13 := by omega
    have ht : jnl (R (dg + k)).natAbs ≤ 29 := hdb_l _ hw9 (e8 _)
    have hq9 : ((R (dg + k)).tdiv (G dg)).natAbs ≤ hdB (ds + 1 - (k + 1)) := by
      rw [Int.natAbs_tdiv]
      exact Nat.le_trans (Nat.div_le_self _ _) (e8 _)
    have hm9 : ((R (dg + k)).tmod (G dg)).natAbs ≤ hdB (ds + 1 - (k + 1)) := by
      rw [Int.natAbs_tmod]
      exact Nat.le_trans (Nat.mod_le _ _) (e8 _)
    refine mj_T.pl rfl rfl rfl rfl ?_
    refine mj_T.if0 (a := ((k : Nat) : Int)) rfl ⟨by omega, by omega⟩ (fun c1 => ?_) (fun c1 => ?_)
    · exfalso
      simp only [jc, Bool.not_eq_true', Bool.not_eq_false', decide_eq_true_eq, decide_eq_false_iff_not] at c1
      omega
    · simp only [jc, Bool.not_eq_true', Bool.not_eq_false', decide_eq_true_eq, decide_eq_false_iff_not] at c1
      iterate 2 refine mj_T.pl rfl rfl rfl rfl ?_
      refine mj_T.call rfl rfl (Nat.le_of_ble_eq_true rfl) (Nat.le_of_ble_eq_true rfl) (mV_of m 13 cq_d20 (by decide) rfl (by decide) rfl _) rfl (mj_Ok.up (by omega) (mP_at (D := 0) m cq_d20 (e := k) (by omega))) (fun v g2 hq => ?_) (fun i g2 hq => ?_)
      rotate_left
      · cases hq
      cases hq
      refine mj_T.eq (pc2 := 37) (st2 := [.ref (20 + 4 + 2 * k)]) ?_ rfl rfl rfl rfl
      refine mj_T.pl (loc' := [some (.ref 19), some (.ref 50), some (.ref 20), some (.int (jn ((k : Nat) : Int))), some (.ref (20 + 4 + 2 * k)), l5]) rfl rfl rfl rfl ?_
      refine mj_T.pl rfl rfl rfl rfl ?_
      refine mT_get m 11 cq_d19 (by decide) rfl rfl ?_
      refine mj_T.pl rfl rfl rfl rfl ?_
      refine mT_get m 11 cq_d19 (by decide) rfl rfl ?_
      refine mj_T.pl rfl rfl rfl rfl ?_
      refine mT_get (v := .int (jn ((dg : Nat) : Int))) m 13 cq_d50 (by decide) rfl (congrArg (fun z : Int => some (Value.int (jn z))) ((congrFun (xup_oth (by decide)) 2).trans h5)) ?_
      refine mj_T.pl rfl rfl rfl rfl ?_
      refine mj_T.iadd (a := ((dg : Nat) : Int)) (b := ((k : Nat) : Int)) rfl ?_
      rw [show (((dg : Nat) : Int) + ((k : Nat) : Int)) = ((dg + k : Nat) : Int) by omega]
      refine mj_T.call rfl rfl (Nat.le_of_ble_eq_true rfl) (Nat.le_of_ble_eq_true rfl) (mV_of m 13 cq_d80 (by decide) rfl (by decide) rfl _) rfl (mj_Ok.up (by omega) (mP_at (D := 0) m cq_d80 (e := dg + k) (by omega))) (fun v g3 hq => ?_) (fun i g3 hq => ?_)
      rotate_left
      · cases hq
      cases hq
      refine mj_T.eq (pc2 := 56) (st2 := [.ref (80 + 4 + 2 * (dg + k)), .ref 164]) ?_ rfl rfl rfl rfl
      refine mj_T.call rfl rfl (Nat.le_of_ble_eq_true rfl) (Nat.le_of_ble_eq_true rfl) (mV_of m 18 cq_d164 (by decide) rfl (by decide) rfl _) rfl (mj_Ok.up (by omega) (mW_set (D := 0) m cq_d164 ((mK_p cq_d80).2.2.2 _ (by omega)) (by omega) (by rw [(rfl : V1 (80 + 4 + 2 * (dg + k)) = _)]; exact (by rw [et]; exact Nat.le_trans ht (by omega))))) (fun v g4 hq => ?_) (fun i g4 hq => ?_)
      rotate_left
      · obtain ⟨_, _, hq⟩ := hq; cases hq
      obtain ⟨_, m5, hq⟩ := hq
      cases hq
      have m5 := m5.to (V' := (jvu V1 164 (V1 (80 + 4 + 2 * (dg + k))))) (by rw [(rfl : V1 (80 + 4 + 2 * (dg + k)) = _)]) rfl
      refine mj_T.eq (pc2 := 59) (st2 := []) ?_ rfl rfl rfl rfl
      refine mj_T.pl rfl rfl rfl rfl ?_
      refine mT_get m5 11 cq_d19 (by decide) rfl rfl ?_
      refine mj_T.pl rfl rfl rfl rfl ?_
      refine mT_get m5 11 cq_d19 (by decide) rfl rfl ?_
      refine mj_T.pl rfl rfl rfl rfl ?_
      refine mj_T.call rfl rfl (Nat.le_of_ble_eq_true rfl) (Nat.le_of_ble_eq_true rfl) (mV_of m5 12 cq_d170 (by decide) rfl (by decide) rfl _) rfl (mj_Ok.up (by omega) (mW_split (D := 0) m5 cq_d170 cq_d164 ((mK_p cq_d20).2.2.2 _ (by omega)) (by omega) (by rw [(jvu_at _ _ _), ((jvu_ne _ _ _ (by omega)).trans (rfl : V1 170 = _))]; exact (by rw [et, e3]; exact jfa_one (by omega))) (by rw [(jvu_at _ _ _), ((jvu_ne _ _ _ (by omega)).trans (rfl : V1 170 = _))]; exact (by rw [et, e3, c20]; exact Nat.le_trans (hdb_l _ hw9 hq9) (by decide))) (hcc := by rw [((jvu_ne _ _ _ (by omega)).trans (rfl : V1 170 = _))]; rw [e3]; exact Nat.le_trans (jnl_R (by have := hG dg; omega)) (by decide)))) (fun v g6 hq => ?_) (fun i g6 hq => ?_)
      rotate_left
      · obtain ⟨_, _, hq⟩ := hq; cases hq
      obtain ⟨_, m7, hq⟩ := hq
      cases hq
      have m7 := m7.to (V' := (jvu (jvu (jvu V1 164 (V1 (80 + 4 + 2 * (dg + k)))) 164 ((V1 (80 + 4 + 2 * (dg + k))).tmod (V1 170))) (20 + 4 + 2 * k) ((V1 (80 + 4 + 2 * (dg + k))).tdiv (V1 170)))) (by rw [(jvu_at _ _ _), ((jvu_ne _ _ _ (by omega)).trans (rfl : V1 170 = _))]) rfl
      refine mj_T.eq (pc2 := 72) (st2 := []) ?_ rfl rfl rfl rfl
      refine mj_T.pl rfl rfl rfl rfl ?_
      refine mT_get m7 11 cq_d19 (by decide) rfl rfl ?_
      refine mT_sg m7 cq_d164 rfl ?_ (hcl := by rw [((jvu_ne _ _ _ (by omega)).trans (jvu_at _ _ _)), et, e3]; exact Nat.le_trans (hdb_l _ hw9 hm9) (by decide))
      refine mj_T.if0 (a := (jsg ((jvu (jvu (jvu V1 164 (V1 (80 + 4 + 2 * (dg + k)))) 164 ((V1 (80 + 4 + 2 * (dg + k))).tmod (V1 170))) (20 + 4 + 2 * k) ((V1 (80 + 4 + 2 * (dg + k))).tdiv (V1 170))) 164))) rfl (jsg_r _) (fun c8 => ?_) (fun c8 => ?_)
      · simp only [jc, Bool.not_eq_true', Bool.not_eq_false', decide_eq_true_eq, decide_eq_false_iff_not] at c8
        refine mj_T.pl rfl rfl rfl rfl ?_
        refine mj_T.pl (loc' := [some (.ref 19), some (.ref 50), some (.ref 20), some (.int (jn ((k : Nat) : Int))), some (.ref (20 + 4 + 2 * k)), some (.int (jn 0))]) rfl rfl rfl rfl ?_
        have cz : (R (dg + k)).tmod (G dg) = 0 := by
          rw [jvu_ne _ _ _ (by omega), jvu_at, et, e3] at c8
          exact jsg_eq0 c8
        have hsd : (R (dg + k)).tdiv (G dg) * G dg = R (dg + k) := by
          have q := Int.tmod_add_mul_tdiv (R (dg + k)) (G dg)
          rw [cz, Int.zero_add, Int.mul_comm] at q
          exact q
        obtain ⟨s, hsv⟩ : ∃ s, s = (R (dg + k)).tdiv (G dg) := ⟨_, rfl⟩
        rw [← hsv] at hsd hq9
        refine mj_T.eq (loc2 := [some (.ref 19), some (.ref 50), some (.ref 20), some (.int (jn (k : Int))), some (.ref (20 + 4 + 2 * k)), some (.int (jn ((0 : Nat) : Int)))]) ?_ rfl rfl rfl rfl
        refine mX_dv_in h5 hw8 (by omega) hG (s := s) (R := R) hq9 e8 (V0 := (jvu (jvu (jvu V1 164 (V1 (80 + 4 + 2 * (dg + k)))) 164 ((V1 (80 + 4 + 2 * (dg + k))).tmod (V1 170))) (20 + 4 + 2 * k) ((V1 (80 + 4 + 2 * (dg + k))).tdiv (V1 170)))) (fun e he => ?_) (fun V3 h3 m3 f1 f2 f3 => ?_) (dg + 1) 0 (by omega) _ _ m7 (fun e he => ?_) ?_ (fun _ _ _ => rfl)
        · rw [((jvu_ne _ _ _ (by omega)).trans ((jvu_ne _ _ _ (by omega)).trans ((jvu_ne _ _ _ (by omega)).trans (rfl : V1 (50 + 4 + 2 * e) = _))))]
          exact e4 e he
        rotate_left
        · rw [((jvu_ne _ _ _ (by omega)).trans ((jvu_ne _ _ _ (by omega)).trans ((jvu_ne _ _ _ (by omega)).trans (rfl : V1 (80 + 4 + 2 * e) = _)))), e1 e he, if_neg (by omega), Int.sub_zero]
        · rw [jvu_at, et, e3]
          exact hsv.symm
        refine mj_T.iinc rfl rfl ?_
        refine mj_T.eq (loc2 := [some (.ref 19), some (.ref 50), some (.ref 20), some (.int (jn (((k : Nat) : Int) + (-1)))), some (.ref (20 + 4 + 2 * k)), some (.int (jn (((dg + 1) : Nat) : Int)))]) ?_ rfl rfl rfl rfl
        refine mj_T.pl rfl rfl rfl rfl ?_
        rw [show (((k : Nat) : Int) + (-1)) = (k : Int) - 1 by omega]
        refine mX_dv_out h5 h8 hd hGl hG0 hG k (by omega) (pz_add S (pz_mono k s)) (fun e => R e - if k ≤ e then s * G (e - k) else 0) V3 _ _ _ m3 (fun e he => ?_) (fun e he => ?_) ?_ (fun e he => ?_) (fun i hi => ?_) ?_ (fun e he => ?_) (fun e => ?_) (fun e => ?_) (fun i hi => ?_)
        · rw [f1 e he]
          show _ = R e - if k ≤ e then s * G (e - k) else 0
          by_cases q : k ≤ e
          · rw [if_pos q]
            by_cases c : e < k + (dg + 1)
            · rw [if_pos ⟨q, c⟩]
            · rw [if_neg (fun z => c z.2), hGl (e - k) (by omega), Int.mul_zero]
          · rw [if_neg q, if_neg (fun z => q z.1)]
        · show V3 (20 + 4 + 2 * e) = S e + (if e = k then s else 0)
          by_cases q : e = k
          · rw [q, if_pos rfl, f2, e0 k (by omega), Int.zero_add]
          · rw [if_neg q, Int.add_zero, f3 _ (by omega) (by omega), jvu_ne _ _ _ (by omega), jvu_ne _ _ _ (by omega), jvu_ne _ _ _ (by omega)]
            exact e2 e he
        · rw [f3 _ (by omega) (by omega), jvu_ne _ _ _ (by omega), jvu_ne _ _ _ (by omega), jvu_ne _ _ _ (by omega)]
          exact e3
        · rw [f3 _ (by omega) (by omega), jvu_ne _ _ _ (by omega), jvu_ne _ _ _ (by omega), jvu_ne _ _ _ (by omega)]
          exact e4 e he
        · show S i + (if i = k then s else 0) = 0
          rw [e5 i hi, if_neg (by omega)]
          rfl
        · rw [e6, pz_mul_addL]
          funext e
          show pz_mul S G e + R e = (pz_mul S G e + pz_c e (pz_mono k s) G) + (R e - if k ≤ e then s * G (e - k) else 0)
          rw [pz_mono_mul]
          generalize (if k ≤ e then s * G (e - k) else 0) = y
          omega
        · show R e - (if k ≤ e then s * G (e - k) else 0) = 0
          rw [if_pos (by omega)]
          by_cases c : e = dg + k
          · rw [c, show dg + k - k = dg by omega, hsd]
            omega
          · rw [e7 e (by omega), hGl (e - k) (by omega), Int.mul_zero]
            rfl
        · show (R e - if k ≤ e then s * G (e - k) else 0).natAbs ≤ _
          have q1 := e8 e
          have q2 : (if k ≤ e then s * G (e - k) else 0).natAbs ≤ hdB (ds + 1 - (k + 1)) * 999999999999999999 := by
            split
            · rw [Int.natAbs_mul]
              exact Nat.mul_le_mul hq9 (hG _)
            · exact Nat.zero_le _
          have q3 := hdb_s (ds + 1 - (k + 1))
          rw [show ds + 1 - (k + 1) + 1 = ds + 1 - k by omega] at q3
          generalize (if k ≤ e then s * G (e - k) else 0) = y at q2 ⊢
          omega
        · show (S e + (if e = k then s else 0)).natAbs ≤ _
          by_cases q : e = k
          · rw [q, if_pos rfl, e0 k (by omega), Int.zero_add]
            exact Nat.le_trans hq9 (hdb_m hw8)
          · rw [if_neg q, Int.add_zero]
            exact e9 e
        · show S i + (if i = k then s else 0) = 0
          rw [e0 i (by omega), if_neg (by omega)]
          rfl
      · simp only [jc, Bool.not_eq_true', Bool.not_eq_false', decide_eq_true_eq, decide_eq_false_iff_not] at c8
        refine mj_T.pl rfl rfl rfl rfl ?_
        have cz : (R (dg + k)).tmod (G dg) ≠ 0 := fun q => by
          rw [jvu_ne _ _ _ (by omega), jvu_at, et, e3, q] at c8
          exact c8 jsg_zero
        refine mj_T.ret rfl rfl rfl ⟨0, Or.inr ⟨rfl, fun ⟨q1, d1, hq1, hA⟩ => ?_⟩, rfl⟩
        obtain ⟨u, hu, eu⟩ := jdx_not hGl hG0 e6 hq1 e5 hA e7
        apply cz
        have q9 : R (dg + k) = u k * G dg := by
          rw [eu, Nat.add_comm dg k]
          exact pz_c_lead k u G dg hu hGl
        rw [q9, Int.mul_tmod_left]
theorem mX_div (m : jM g n V X h) {dg ds : Nat} {B G : pz_P} (h5 : X 50 2 = (dg : Int)) (h8 : X 80 2 = ((dg + ds : Nat) : Int)) (hd : dg + ds < 13) (hGl : pz_lt G (dg + 1)) (hG0 : G dg ≠ 0) (hG : ∀ j, (G j).natAbs ≤ 999999999999999999) (hBl : pz_lt B (ds + 1 + dg)) (hBd : ∀ e, (B e).natAbs ≤ 999999999999999999) (hV : ∀ e, e < 13 → V (50 + 4 + 2 * e) = G e) (hB : ∀ e, e < 13 → V (80 + 4 + 2 * e) = B e) : mj_Ok (D + 4) 19 [.ref 19, .ref 50, .ref 20] h (fun r => ∃ z : Int, ((z = 1 ∧ (∃ (Q : pz_P) (d : Nat), pz_lt Q d ∧ B = pz_mul Q G)) ∨ (z = 0 ∧ ¬ (∃ (Q : pz_P) (d : Nat), pz_lt Q d ∧ B = pz_mul Q G))) ∧ r.1 = .inl (some (.int (jn z)))) := by
  have p20 : cL (20 + 3) = 13 := mK_z.1
  have p50 : cL (50 + 3) = 13 := mK_z.2.1
  have p80 : cL (80 + 3) = 13 := mK_z.2.2.1
  have lc1 : cL (164 + 1) = 240 := mK_z.2.2.2.2.2.2.2.1
  have lc2 : cL (166 + 1) = 240 := mK_z.2.2.2.2.2.2.2.2.1
  have lc4 : cL (170 + 1) = 60 := mK_z.2.2.2.2.2.2.2.2.2.2.1
  have hleadV : pfl V 20 (fun _ => 0) 13 (50 + 4 + 2 * dg) = G dg := by
    rw [pfl_off _ _ _ (by omega)]
    exact hV dg (by omega)
  refine mj_Ok.of (M := mj_m19) rfl rfl rfl ?_
  refine mj_T.pl rfl rfl rfl rfl ?_
  refine mj_T.call rfl rfl (Nat.le_of_ble_eq_true rfl) (Nat.le_of_ble_eq_true rfl) (mV_of m 13 cq_d20 (by decide) rfl (by decide) rfl _) rfl (mj_Ok.up (by omega) (mP_clear (D := 0) m cq_d20)) (fun v g1 hq => ?_) (fun i g1 hq => ?_)
  rotate_left
  · obtain ⟨_, _, hq⟩ := hq; cases hq
  obtain ⟨_, m2, hq⟩ := hq
  cases hq
  rw [p20] at m2
  refine mj_T.eq (pc2 := 4) (st2 := []) ?_ rfl rfl rfl rfl
  refine mj_T.pl rfl rfl rfl rfl ?_
  refine mT_get m2 11 cq_d19 (by decide) rfl rfl ?_
  refine mj_T.pl rfl rfl rfl rfl ?_
  refine mj_T.call rfl rfl (Nat.le_of_ble_eq_true rfl) (Nat.le_of_ble_eq_true rfl) (mV_of m2 13 cq_d50 (by decide) rfl (by decide) rfl _) rfl (mj_Ok.up (by omega) (mP_lead (D := 0) m2 cq_d50 ((congrFun (xup_oth (by decide)) 2).trans h5) (by omega))) (fun v g3 hq => ?_) (fun i g3 hq => ?_)
  rotate_left
  · cases hq
  cases hq
  refine mj_T.eq (pc2 := 12) (st2 := [.ref (50 + 4 + 2 * dg), .ref 170]) ?_ rfl rfl rfl rfl
  refine mj_T.call rfl rfl (Nat.le_of_ble_eq_true rfl) (Nat.le_of_ble_eq_true rfl) (mV_of m2 12 cq_d170 (by decide) rfl (by decide) rfl _) rfl (mj_Ok.up (by omega) (mW_prepare (D := 0) m2 cq_d170 ((mK_p cq_d50).2.2.2 dg (by omega)) (by rw [(rfl : (pfl V 20 (fun _ => 0) 13) (50 + 4 + 2 * dg) = _)]; exact (by rw [hleadV, lc4]; exact Nat.le_trans (jnl_R (by have := hG dg; omega)) (by decide))))) (fun v g4 hq => ?_) (fun i g4 hq => ?_)
  rotate_left
  · obtain ⟨_, _, hq⟩ := hq; cases hq
  obtain ⟨_, m5, hq⟩ := hq
  cases hq
  have m5 := m5.to (V' := (jvu (pfl V 20 (fun _ => 0) 13) 170 ((pfl V 20 (fun _ => 0) 13) (50 + 4 + 2 * dg)))) (by rw [(rfl : (pfl V 20 (fun _ => 0) 13) (50 + 4 + 2 * dg) = _)]) rfl
  refine mj_T.eq (pc2 := 15) (st2 := []) ?_ rfl rfl rfl rfl
  refine mj_T.pl rfl rfl rfl rfl ?_
  refine mT_get m5 11 cq_d19 (by decide) rfl rfl ?_
  refine mT_get (v := .int (jn (((dg + ds) : Nat) : Int))) m5 13 cq_d80 (by decide) rfl (congrArg (fun z : Int => some (Value.int (jn z))) ((congrFun (xup_oth (by decide)) 2).trans h8)) ?_
  refine mj_T.pl rfl rfl rfl rfl ?_
  refine mT_get (v := .int (jn ((dg : Nat) : Int))) m5 13 cq_d50 (by decide) rfl (congrArg (fun z : Int => some (Value.int (jn z))) ((congrFun (xup_oth (by decide)) 2).trans h5)) ?_
  refine mj_T.isub (a := (((dg + ds) : Nat) : Int)) (b := ((dg : Nat) : Int)) rfl ?_
  refine mj_T.pl (loc' := [some (.ref 19), some (.ref 50), some (.ref 20), some (.int (jn ((((dg + ds) : Nat) : Int) - ((dg : Nat) : Int)))), none, none]) rfl rfl rfl rfl ?_
  rw [show (((dg + ds : Nat) : Int) - ((dg : Nat) : Int)) = ((ds + 1 : Nat) : Int) - 1 by omega]
  exact mX_dv_out h5 h8 hd hGl hG0 hG (ds + 1) (Nat.le_refl _) pz_0 B _ _ _ _ m5 (fun e he => by rw [jvu_ne _ _ _ (by omega), pfl_off _ _ _ (by omega)]; exact hB e he) (fun e he => (jvu_ne _ _ _ (by omega)).trans (pfl_at _ _ _ he)) (by rw [jvu_at, hleadV]) (fun e he => by rw [jvu_ne _ _ _ (by omega), pfl_off _ _ _ (by omega)]; exact hV e he) (fun _ _ => rfl) (by
    rw [pz_mul_0L]
    funext e
    show B e = 0 + B e
    omega) hBl (fun e => by rw [Nat.sub_self]; exact Nat.le_trans (hBd e) hdb_0) (fun e => show (0 : Int).natAbs ≤ _ from Nat.zero_le _) (fun i _ => rfl)
theorem mX_isDiv (m : jM g n V X h) {p q : Nat} (kp : cK p = 2) (kq : cK q = 2) (bp : sml (X p)) (bq : sml (X q)) : mj_Ok (D + 5) 18 [.ref 19, .ref p, .ref q] h (fun r => ∃ z : Int, dvF (X q) (X p) z ∧ r.1 = .inl (some (.int (jn z)))) := by
  have l1 := fdg_le (X p) 13
  have l2 := fdg_le (X q) 13
  have xq : (xup X 80 2 ((fdg (X p) 13 : Int) - 1)) q = X q := xup_oth (kR_ne kq).2.2.1
  refine mj_Ok.of (M := mj_m18) rfl rfl rfl ?_
  refine mj_T.pl rfl rfl rfl rfl ?_
  refine mT_get m 11 cq_d19 (by decide) rfl rfl ?_
  refine mj_T.pl rfl rfl rfl rfl ?_
  refine jT.lc 1 rfl rfl ?_
  refine mj_T.call rfl rfl (Nat.le_of_ble_eq_true rfl) (Nat.le_of_ble_eq_true rfl) (mV_of m 13 cq_d80 (by decide) rfl (by decide) rfl _) rfl (mj_Ok.up (by omega) (mP_load1 (D := 0) m cq_d80 kp (by decide +kernel) bp (fun i hi => by have := mK_z.2.2.2.2.1 i hi; omega))) (fun v g1 hq => ?_) (fun i g1 hq => ?_)
  rotate_left
  · obtain ⟨_, _, hq⟩ := hq; cases hq
  obtain ⟨_, m2, hq⟩ := hq
  cases hq
  refine mj_T.eq (pc2 := 9) (st2 := []) ?_ rfl rfl rfl rfl
  refine mj_T.pl rfl rfl rfl rfl ?_
  refine mT_get m2 11 cq_d19 (by decide) rfl rfl ?_
  refine mj_T.pl rfl rfl rfl rfl ?_
  refine jT.lc 1 rfl rfl ?_
  refine mj_T.call rfl rfl (Nat.le_of_ble_eq_true rfl) (Nat.le_of_ble_eq_true rfl) (mV_of m2 13 cq_d50 (by decide) rfl (by decide) rfl _) rfl (mj_Ok.up (by omega) (mP_load1 (D := 0) m2 cq_d50 kq (by decide +kernel) (by rw [xq]; exact bq) (fun i hi => by have := mK_z.2.2.2.2.1 i hi; omega))) (fun v g3 hq => ?_) (fun i g3 hq => ?_)
  rotate_left
  · obtain ⟨_, _, hq⟩ := hq; cases hq
  obtain ⟨_, m4, hq⟩ := hq
  cases hq
  rw [xq] at m4
  refine mj_T.eq (pc2 := 18) (st2 := []) ?_ rfl rfl rfl rfl
  refine mj_T.pl rfl rfl rfl rfl ?_
  refine mT_get m4 11 cq_d19 (by decide) rfl rfl ?_
  refine mT_get (v := .int (jn ((fdg (X p) 13 : Int) - 1))) m4 13 cq_d80 (by decide) rfl (congrArg (fun z : Int => some (Value.int (jn z))) ((congrFun (xup_oth (by decide)) 2).trans (xup_at _ _ _ _))) ?_
  refine mj_T.pl rfl rfl rfl rfl ?_
  refine mT_get m4 11 cq_d19 (by decide) rfl rfl ?_
  refine mT_get (v := .int (jn ((fdg (X q) 13 : Int) - 1))) m4 13 cq_d50 (by decide) rfl (congrArg (fun z : Int => some (Value.int (jn z))) (xup_at _ _ _ _)) ?_
  refine mj_T.icmp (a := ((fdg (X p) 13 : Int) - 1)) (b := ((fdg (X q) 13 : Int) - 1)) rfl ⟨by omega, by omega⟩ ⟨by omega, by omega⟩ (fun c5 => ?_) (fun c5 => ?_)
  · simp only [jc, Bool.not_eq_true', Bool.not_eq_false', decide_eq_true_eq, decide_eq_false_iff_not] at c5
    refine mj_T.pl rfl rfl rfl rfl ?_
    refine mT_get m4 11 cq_d19 (by decide) rfl rfl ?_
    refine mT_get (v := .int (jn ((fdg (X p) 13 : Int) - 1))) m4 13 cq_d80 (by decide) rfl (congrArg (fun z : Int => some (Value.int (jn z))) ((congrFun (xup_oth (by decide)) 2).trans (xup_at _ _ _ _))) ?_
    refine mj_T.if0 (a := ((fdg (X p) 13 : Int) - 1)) rfl ⟨by omega, by omega⟩ (fun c6 => ?_) (fun c6 => ?_)
    · simp only [jc, Bool.not_eq_true', Bool.not_eq_false', decide_eq_true_eq, decide_eq_false_iff_not] at c6
      refine mj_T.pl rfl rfl rfl rfl ?_
      exact mj_T.ret rfl rfl rfl ⟨0, Or.inr ⟨rfl, dvZ_no (by omega) (by omega)⟩, rfl⟩
    · simp only [jc, Bool.not_eq_true', Bool.not_eq_false', decide_eq_true_eq, decide_eq_false_iff_not] at c6
      iterate 2 refine mj_T.pl rfl rfl rfl rfl ?_
      exact mj_T.ret rfl rfl rfl ⟨1, Or.inl ⟨rfl, dvZ_0 (fun j hj => fdg_zero (X p) 13 j (by omega) hj)⟩, rfl⟩
  · simp only [jc, Bool.not_eq_true', Bool.not_eq_false', decide_eq_true_eq, decide_eq_false_iff_not] at c5
    refine mj_T.pl rfl rfl rfl rfl ?_
    refine mT_get m4 11 cq_d19 (by decide) rfl rfl ?_
    refine mT_get (v := .int (jn ((fdg (X q) 13 : Int) - 1))) m4 13 cq_d50 (by decide) rfl (congrArg (fun z : Int => some (Value.int (jn z))) (xup_at _ _ _ _)) ?_
    refine mj_T.if0 (a := ((fdg (X q) 13 : Int) - 1)) rfl ⟨by omega, by omega⟩ (fun c7 => ?_) (fun c7 => ?_)
    · simp only [jc, Bool.not_eq_true', Bool.not_eq_false', decide_eq_true_eq, decide_eq_false_iff_not] at c7
      iterate 2 refine mj_T.pl rfl rfl rfl rfl ?_
      refine mT_get m4 11 cq_d19 (by decide) rfl rfl ?_
      refine mj_T.pl rfl rfl rfl rfl ?_
      refine mT_get m4 11 cq_d19 (by decide) rfl rfl ?_
      refine mj_T.call rfl rfl (Nat.le_of_ble_eq_true rfl) (Nat.le_of_ble_eq_true rfl) (mV_of m4 11 cq_d19 (by decide) rfl (by decide) rfl _) rfl (mj_Ok.up (by omega) (mX_div (D := 0) m4 (dg := fdg (X q) 13 - 1) (ds := fdg (X p) 13 - fdg (X q) 13) (B := rw13 (X p)) (G := rw13 (X q)) ((xup_at _ _ _ _).trans (by omega)) (((congrFun (xup_oth (by decide)) 2).trans (xup_at _ _ _ _)).trans (by omega)) (by omega) (fun i hi => rw13_top i (by omega)) (by rw [rw13_in (by omega)]; exact fdg_ne (X q) 13 (by omega)) (fun j => rw13_abs bq j) (fun i hi => rw13_top i (by omega)) (fun e => rw13_abs bp e) (fun e he => (pfl_at _ _ _ he).trans (rw13_in he).symm) (fun e he => (pfl_off _ _ _ (by omega)).trans ((pfl_at _ _ _ he).trans (rw13_in he).symm)))) (fun v g8 hq => ?_) (fun i g8 hq => ?_)
      rotate_left
      · obtain ⟨_, _, hq⟩ := hq; cases hq
      obtain ⟨z9, hz9, hq⟩ := hq
      have hq : (Sum.inl v : Option Value ⊕ Nat) = .inl (some (.int (jn z9))) := hq
      cases hq
      refine mj_T.eq (pc2 := 73) (st2 := [.int (jn z9)]) ?_ rfl rfl rfl rfl
      rcases (show z9 = 0 ∨ z9 = 1 from hz9.elim (fun q => Or.inr q.1) (fun q => Or.inl q.1)) with rfl | rfl
      · exact mj_T.ret rfl rfl rfl ⟨0, hz9, rfl⟩
      · exact mj_T.ret rfl rfl rfl ⟨1, hz9, rfl⟩
    · simp only [jc, Bool.not_eq_true', Bool.not_eq_false', decide_eq_true_eq, decide_eq_false_iff_not] at c7
      refine mj_T.pl rfl rfl rfl rfl ?_
      refine mT_get m4 11 cq_d19 (by decide) rfl rfl ?_
      refine mT_get (v := .int (jn ((fdg (X p) 13 : Int) - 1))) m4 13 cq_d80 (by decide) rfl (congrArg (fun z : Int => some (Value.int (jn z))) ((congrFun (xup_oth (by decide)) 2).trans (xup_at _ _ _ _))) ?_
      refine mj_T.if0 (a := ((fdg (X p) 13 : Int) - 1)) rfl ⟨by omega, by omega⟩ (fun c9 => ?_) (fun c9 => ?_)
      · simp only [jc, Bool.not_eq_true', Bool.not_eq_false', decide_eq_true_eq, decide_eq_false_iff_not] at c9
        refine mj_T.pl rfl rfl rfl rfl ?_
        exact mj_T.ret rfl rfl rfl ⟨0, Or.inr ⟨rfl, dvZ_no (by omega) (by omega)⟩, rfl⟩
      · simp only [jc, Bool.not_eq_true', Bool.not_eq_false', decide_eq_true_eq, decide_eq_false_iff_not] at c9
        iterate 2 refine mj_T.pl rfl rfl rfl rfl ?_
        exact mj_T.ret rfl rfl rfl ⟨1, Or.inl ⟨rfl, dvZ_0 (fun j hj => fdg_zero (X p) 13 j (by omega) hj)⟩, rfl⟩
theorem cv_125 (A : AS N u H) (s : cC N u H h) {a : Int} (ra : -2147483648 ≤ a ∧ a ≤ 2147483647) {a2 : Int} (ra2 : -2147483648 ≤ a2 ∧ a2 ≤ 2147483647) : mj_Ok 59 125 [.ref 1, .int (jn a), .int (jn a2)] h (cA (fun k => 1) (A_divides N a a2)) := by
  obtain ⟨V, X, m, b, d, c, jx⟩ := cS.nr A s
  have jx : rjR X := jx
  refine mj_Ok.of (M := mj_m125) rfl rfl rfl ?_
  iterate 2 refine mj_T.pl rfl rfl rfl rfl ?_
  refine mj_T.call rfl rfl (Nat.le_of_ble_eq_true rfl) (Nat.le_of_ble_eq_true rfl) (mV_of m 19 cq_d1 (by decide) rfl (by decide) rfl _) rfl (mj_Ok.up (by omega) (mC_rowOf (D := 0) m (i := a) (by omega))) (fun v g1 hq => ?_) (fun i g1 hq => ?_)
  rotate_left
  · rcases hq with ⟨_, hq⟩ | ⟨hn, hq⟩
    · cases hq
    · cases hq
      exact Or.inl ⟨rfl, fun z => an.n (fun q => hn q.1)⟩
  rcases hq with ⟨ka, hq⟩ | ⟨_, hq⟩
  rotate_left
  · cases hq
  cases hq
  refine mj_T.eq (pc2 := 5) (st2 := [.ref (4 + a.toNat)]) ?_ rfl rfl rfl rfl
  refine mj_T.pl (loc' := [some (.ref 1), some (.int (jn a)), some (.int (jn a2)), some (.ref (4 + a.toNat)), none]) rfl rfl rfl rfl ?_
  iterate 2 refine mj_T.pl rfl rfl rfl rfl ?_
  refine mj_T.call rfl rfl (Nat.le_of_ble_eq_true rfl) (Nat.le_of_ble_eq_true rfl) (mV_of m 19 cq_d1 (by decide) rfl (by decide) rfl _) rfl (mj_Ok.up (by omega) (mC_rowOf (D := 0) m (i := a2) (by omega))) (fun v g2 hq => ?_) (fun i g2 hq => ?_)
  rotate_left
  · rcases hq with ⟨_, hq⟩ | ⟨hn, hq⟩
    · cases hq
    · cases hq
      exact Or.inl ⟨rfl, fun z => an.n (fun q => hn q.2)⟩
  rcases hq with ⟨ka2, hq⟩ | ⟨_, hq⟩
  rotate_left
  · cases hq
  cases hq
  refine mj_T.eq (pc2 := 11) (st2 := [.ref (4 + a2.toNat)]) ?_ rfl rfl rfl rfl
  refine mj_T.pl (loc' := [some (.ref 1), some (.int (jn a)), some (.int (jn a2)), some (.ref (4 + a.toNat)), some (.ref (4 + a2.toNat))]) rfl rfl rfl rfl ?_
  refine mj_T.pl rfl rfl rfl rfl ?_
  refine mT_get m 19 cq_d1 (by decide) rfl rfl ?_
  iterate 2 refine mj_T.pl rfl rfl rfl rfl ?_
  refine mj_T.call rfl rfl (Nat.le_of_ble_eq_true rfl) (Nat.le_of_ble_eq_true rfl) (mV_of m 11 cq_d19 (by decide) rfl (by decide) rfl _) rfl (mj_Ok.up (by omega) (mX_isDiv (D := 0) m (mK_rt a2.toNat (by omega)) (mK_rt a.toNat (by omega)) (c.sm A.1 ka2) (c.sm A.1 ka))) (fun v g3 hq => ?_) (fun i g3 hq => ?_)
  rotate_left
  · obtain ⟨_, _, hq⟩ := hq; cases hq
  obtain ⟨z9, hz9, hq⟩ := hq
  have hq : (Sum.inl v : Option Value ⊕ Nat) = .inl (some (.int (jn z9))) := hq
  cases hq
  rcases (show z9 = 0 ∨ z9 = 1 from hz9.elim (fun q => Or.inr q.1) (fun q => Or.inl q.1)) with rfl | rfl
  · exact mj_T.ret rfl rfl rfl ⟨0, ⟨by decide, by decide⟩, rfl, an.y ⟨ka, ka2⟩ (an.e (dvF.cg (c.rw ka) (c.rw ka2) hz9))⟩
  · exact mj_T.ret rfl rfl rfl ⟨1, ⟨by decide, by decide⟩, rfl, an.y ⟨ka, ka2⟩ (an.e (dvF.cg (c.rw ka) (c.rw ka2) hz9))⟩
end MDZ
section RVD
variable {h : mj_H} {tm er : Int} {T : Nat → Int} {N0 : Nat → Int} {u0 : Nat} {H : Nat → Nat → Int}
theorem ra_divides {x y : Int} (hx : jr x) (hy : jr y) (hI : jIx N0 u0 H tm er T h) : mj_Ok 40 262 [.ref 0, .int (jn x), .int (jn y)] h (rIa (A_divides N0 x y) N0 u0 H tm er T) := by
  refine mj_Ok.of (M := mj_m262) rfl rfl rfl ?_
  obtain ⟨S, N, B, X, V, hs, K⟩ := hI
  have t19 : ¬ rg2 x y → mj_T 39 mj_m262 19 [some (.ref 0), some (.int (jn x)), some (.int (jn y))] [.ref 0] h (rIa (A_divides N0 x y) N0 u0 H tm er T) := by
    intro hno
    refine mj_T.pl rfl rfl rfl rfl ?_
    refine rT_put (v := 1) hs rfl rfl (by decide) rfl (fun g1 hs1 => ?_)
    refine mj_T.pl rfl rfl rfl rfl ?_
    refine rT_get (v := .int (jn 1)) hs1 rfl (by rw [← jvu_at S 3 1]; rfl) ?_
    refine mj_T.if0 (a := 1) rfl ⟨by decide, by decide⟩ (fun hc => ?_) (fun hc => ?_)
    · simp [jc] at hc
    refine mj_T.pl rfl rfl rfl rfl ?_
    exact mj_T.ret rfl rfl rfl ⟨1, 0, g1, an.n hno, ⟨by decide, by decide⟩, rfl, ⟨_, N, B, X, V, hs1, K.put ⟨by decide, by decide⟩ (by decide) (by decide) (by decide) (by decide) (by decide), jvu_at _ _ _⟩⟩
  refine mj_T.pl rfl rfl rfl rfl ?_
  refine mj_T.pl rfl rfl rfl rfl ?_
  refine mj_T.call (ins := .invokestatic 181) rfl rfl (Nat.le_of_ble_eq_true rfl) (Nat.le_of_ble_eq_true rfl) rfl rfl (mj_Ok.up (by decide) (rp_isRegister (D := 0) hx)) (fun v' h' hq' => ?_) (fun i h' hq' => by rcases hq' with ⟨_, _, h⟩ | ⟨_, h⟩ <;> cases h)
  rcases hq' with ⟨x1, x2, hq'⟩ | ⟨cn, hq'⟩
  case' inr =>
    cases hq'
    refine mj_T.if0 (a := 0) rfl ⟨by decide, by decide⟩ (fun hc => ?_) (fun hc => ?_)
    · exact t19 (fun q => by have q1 := q.1; have q2 := q.2; omega)
    · simp [jc] at hc
  cases hq'
  refine mj_T.if0 (a := 1) rfl ⟨by decide, by decide⟩ (fun hc => ?_) (fun hc => ?_)
  · simp [jc] at hc
  refine mj_T.pl rfl rfl rfl rfl ?_
  refine mj_T.call (ins := .invokestatic 181) rfl rfl (Nat.le_of_ble_eq_true rfl) (Nat.le_of_ble_eq_true rfl) rfl rfl (mj_Ok.up (by decide) (rp_isRegister (D := 0) hy)) (fun v' h' hq' => ?_) (fun i h' hq' => by rcases hq' with ⟨_, _, h⟩ | ⟨_, h⟩ <;> cases h)
  rcases hq' with ⟨y1, y2, hq'⟩ | ⟨cn, hq'⟩
  case' inr =>
    cases hq'
    refine mj_T.if0 (a := 0) rfl ⟨by decide, by decide⟩ (fun hc => ?_) (fun hc => ?_)
    · exact t19 (fun q => by have q1 := q.1; have q2 := q.2; omega)
    · simp [jc] at hc
  cases hq'
  refine mj_T.if0 (a := 1) rfl ⟨by decide, by decide⟩ (fun hc => ?_) (fun hc => ?_)
  · simp [jc] at hc
  clear t19
  iterate 2 refine mj_T.pl rfl rfl rfl rfl ?_
  refine rT_put (v := 0) hs rfl rfl (by decide) rfl (fun g1 hs1 => ?_)
  have K1 := K.put (k := 3) (v := 0) ⟨by decide, by decide⟩ (by decide) (by decide) (by decide) (by decide) (by decide)
  refine mj_T.pl rfl rfl rfl rfl ?_
  refine rT_get (v := .int (jn 0)) hs1 rfl (by rw [← jvu_at S 3 0]; rfl) ?_
  have e1 : jvu S 3 0 3 = 0 := jvu_at S 3 0
  generalize jvu S 3 0 = S1 at hs1 K1 e1
  refine mj_T.if0 (a := 0) rfl ⟨by decide, by decide⟩ (fun hc => ?_) (fun hc => ?_)
  rotate_left
  · simp [jc] at hc
  obtain ⟨x, rfl⟩ := Int.eq_ofNat_of_zero_le x1
  obtain ⟨y, rfl⟩ := Int.eq_ofNat_of_zero_le y1
  have w0 : ∀ e, e < 13 → N (x * 13 + e) = rwN N0 (x : Int) e := fun e he => rwN_at K1.2.1 (by omega) he
  have w1 : ∀ e, e < 13 → N (y * 13 + e) = rwN N0 (y : Int) e := fun e he => rwN_at K1.2.1 (by omega) he
  have p0 : fdg (rwN N0 (x : Int)) 13 = jdg N x 13 := (fdg_congr (f' := fun e => N (x * 13 + e)) 13 w0).symm.trans (fdg_jdg N x 13)
  have p1 : fdg (rwN N0 (y : Int)) 13 = jdg N y 13 := (fdg_congr (f' := fun e => N (y * 13 + e)) 13 w1).symm.trans (fdg_jdg N y 13)
  have t48 : (jdg N y 13 = 0 ∨ jdg N x 13 = 0) → mj_T 39 mj_m262 48 [some (.ref 0), some (.int (jn (x : Int))), some (.int (jn (y : Int)))] [] g1 (rIa (A_divides N0 (x : Int) (y : Int)) N0 u0 H tm er T) := by
    intro hz
    iterate 2 refine mj_T.pl rfl rfl rfl rfl ?_
    refine mj_T.call (ins := .invokevirtual 232) rfl rfl (Nat.le_of_ble_eq_true rfl) (Nat.le_of_ble_eq_true rfl) (by simp [mj_recv, rS_f hs1]) rfl (mj_Ok.up (by decide) (rp_isZero (D := 0) (r := y) (by omega) K1.nR hs1)) (fun v' h' hq' => ?_) (fun i h' hq' => by rcases hq' with ⟨_, h⟩ | ⟨_, h⟩ <;> cases h)
    rcases hq' with ⟨hzy, hq'⟩ | ⟨hzy, hq'⟩
    · cases hq'
      exact mj_T.ret rfl rfl rfl ⟨0, 1, _, an.y ⟨⟨by omega, by omega⟩, ⟨by omega, by omega⟩⟩ (an.e (Or.inl ⟨rfl, dvZ_0 (fun j hj => (w1 j hj).symm.trans (jdg_zero N y 13 j (by omega) hj))⟩)), ⟨by decide, by decide⟩, rfl, ⟨_, _, _, _, _, hs1, K1, e1⟩⟩
    · cases hq'
      exact mj_T.ret rfl rfl rfl ⟨0, 0, _, an.y ⟨⟨by omega, by omega⟩, ⟨by omega, by omega⟩⟩ (an.e (Or.inr ⟨rfl, dvZ_no (by omega) (Or.inr (by omega))⟩)), ⟨by decide, by decide⟩, rfl, ⟨_, _, _, _, _, hs1, K1, e1⟩⟩
  iterate 2 refine mj_T.pl rfl rfl rfl rfl ?_
  refine mj_T.call (ins := .invokevirtual 232) rfl rfl (Nat.le_of_ble_eq_true rfl) (Nat.le_of_ble_eq_true rfl) (by simp [mj_recv, rS_f hs1]) rfl (mj_Ok.up (by decide) (rp_isZero (D := 0) (r := x) (by omega) K1.nR hs1)) (fun v' h' hq' => ?_) (fun i h' hq' => by rcases hq' with ⟨_, h⟩ | ⟨_, h⟩ <;> cases h)
  rcases hq' with ⟨hzx, hq'⟩ | ⟨nzx, hq'⟩
  case' inl =>
    cases hq'
    refine mj_T.if0 (a := 1) rfl ⟨by decide, by decide⟩ (fun hc => ?_) (fun hc => ?_)
    · exact t48 (Or.inr hzx)
    · simp [jc] at hc
  cases hq'
  refine mj_T.if0 (a := 0) rfl ⟨by decide, by decide⟩ (fun hc => ?_) (fun hc => ?_)
  · simp [jc] at hc
  iterate 2 refine mj_T.pl rfl rfl rfl rfl ?_
  refine mj_T.call (ins := .invokevirtual 232) rfl rfl (Nat.le_of_ble_eq_true rfl) (Nat.le_of_ble_eq_true rfl) (by simp [mj_recv, rS_f hs1]) rfl (mj_Ok.up (by decide) (rp_isZero (D := 0) (r := y) (by omega) K1.nR hs1)) (fun v' h' hq' => ?_) (fun i h' hq' => by rcases hq' with ⟨_, h⟩ | ⟨_, h⟩ <;> cases h)
  rcases hq' with ⟨hzy, hq'⟩ | ⟨nzy, hq'⟩
  case' inl =>
    cases hq'
    refine mj_T.if0 (a := 1) rfl ⟨by decide, by decide⟩ (fun hc => ?_) (fun hc => ?_)
    · simp [jc] at hc
    · exact t48 (Or.inl hzy)
  cases hq'
  refine mj_T.if0 (a := 0) rfl ⟨by decide, by decide⟩ (fun hc => ?_) (fun hc => ?_)
  rotate_left
  · simp [jc] at hc
  clear t48
  iterate 3 refine mj_T.pl rfl rfl rfl rfl ?_
  refine mj_T.call (ins := .invokevirtual 213) rfl rfl (Nat.le_of_ble_eq_true rfl) (Nat.le_of_ble_eq_true rfl) (by simp [mj_recv, rS_f hs1]) rfl (mj_Ok.up (by decide) (rp_loads (D := 0) (p := 0) (r := x) (by decide) (by omega) K1.nR hs1)) (fun v' g3 hq' => ?_) (fun i h' hq' => by obtain ⟨_, _, h⟩ := hq'; cases h)
  obtain ⟨_, hs3, hq'⟩ := hq'
  cases hq'
  have a3 : ∀ e, e < 13 → jfl V 0 (fun e => N (x * 13 + e)) 13 (0 * 13 + e) = N (x * 13 + e) := fun e he => jfl_at _ _ _ he
  have b3 : ∀ s, (s < 0 * 13 ∨ 0 * 13 + 13 ≤ s) → jfl V 0 (fun e => N (x * 13 + e)) 13 s = V s := fun s hc => jfl_off _ _ _ hc
  generalize jfl V 0 (fun e => N (x * 13 + e)) 13 = W3 at hs3 a3 b3
  iterate 3 refine mj_T.pl rfl rfl rfl rfl ?_
  refine mj_T.call (ins := .invokevirtual 213) rfl rfl (Nat.le_of_ble_eq_true rfl) (Nat.le_of_ble_eq_true rfl) (by simp [mj_recv, rS_f hs3]) rfl (mj_Ok.up (by decide) (rp_loads (D := 0) (p := 1) (r := y) (by decide) (by omega) K1.nR hs3)) (fun v' g4 hq' => ?_) (fun i h' hq' => by obtain ⟨_, _, h⟩ := hq'; cases h)
  obtain ⟨_, hs4, hq'⟩ := hq'
  cases hq'
  have a4 : ∀ e, e < 13 → jfl W3 1 (fun e => N (y * 13 + e)) 13 (1 * 13 + e) = N (y * 13 + e) := fun e he => jfl_at _ _ _ he
  have b4 : ∀ s, (s < 1 * 13 ∨ 1 * 13 + 13 ≤ s) → jfl W3 1 (fun e => N (y * 13 + e)) 13 s = W3 s := fun s hc => jfl_off _ _ _ hc
  generalize jfl W3 1 (fun e => N (y * 13 + e)) 13 = W4 at hs4 a4 b4
  have c1 : ∀ e, e < 13 → (W4 (0 * 13 + e)).natAbs ≤ 10 ^ 18 := fun e he => by
    rw [b4 _ (by omega), a3 e he]
    exact K1.sh (r := x) (by omega) he
  have c2 : ∀ e, e < 13 → (W4 (1 * 13 + e)).natAbs ≤ 10 ^ 18 := fun e he => by
    rw [a4 e he]
    exact K1.sh (r := y) (by omega) he
  have v0 : ∀ e, e < 13 → W4 (0 * 13 + e) = rwN N0 (x : Int) e := fun e he => (b4 _ (by omega)).trans ((a3 e he).trans (w0 e he))
  have v1 : ∀ e, e < 13 → W4 (1 * 13 + e) = rwN N0 (y : Int) e := fun e he => (a4 e he).trans (w1 e he)
  have r0 : fdg (rwN N0 (x : Int)) 13 = jdg W4 0 13 := (fdg_congr (f' := fun e => W4 (0 * 13 + e)) 13 v0).symm.trans (fdg_jdg W4 0 13)
  have r1 : fdg (rwN N0 (y : Int)) 13 = jdg W4 1 13 := (fdg_congr (f' := fun e => W4 (1 * 13 + e)) 13 v1).symm.trans (fdg_jdg W4 1 13)
  have y0 := jpo_rw v0
  have y1p := jpo_rw v1
  have hj0 : 1 ≤ jdg W4 0 13 := by rw [jdg_congr (V := N) (p := x) 13 (fun e he => by rw [b4 _ (by omega), a3 e he])]; exact nzx
  have hl0 := jdg_le W4 0 13
  have hl1 := jdg_le W4 1 13
  iterate 2 refine mj_T.pl rfl rfl rfl rfl ?_
  refine mj_T.call (ins := .invokevirtual 114) rfl rfl (Nat.le_of_ble_eq_true rfl) (Nat.le_of_ble_eq_true rfl) (by simp [mj_recv, rS_f hs4]) rfl (mj_Ok.up (by decide) (jp_degreeOf (D := 0) (rG S1 N B T X) (p := 1) (by decide) hs4)) (fun v' h' hq' => ?_) (fun i h' hq' => by cases hq')
  cases hq'
  iterate 2 refine mj_T.pl rfl rfl rfl rfl ?_
  refine mj_T.call (ins := .invokevirtual 114) rfl rfl (Nat.le_of_ble_eq_true rfl) (Nat.le_of_ble_eq_true rfl) (by simp [mj_recv, rS_f hs4]) rfl (mj_Ok.up (by decide) (jp_degreeOf (D := 0) (rG S1 N B T X) (p := 0) (by decide) hs4)) (fun v' h' hq' => ?_) (fun i h' hq' => by cases hq')
  cases hq'
  have t93 : ∀ (V2 : Nat → Int) (g : mj_H), rS S1 N B T X V2 g → ¬ dvZ (rwN N0 (x : Int)) (rwN N0 (y : Int)) → mj_T 39 mj_m262 93 [some (.ref 0), some (.int (jn (x : Int))), some (.int (jn (y : Int)))] [] g (rIa (A_divides N0 x y) N0 u0 H tm er T) := fun V2 g hg hno => by
    refine mj_T.pl rfl rfl rfl rfl ?_
    exact mj_T.ret rfl rfl rfl ⟨0, 0, g, an.y ⟨⟨by omega, by omega⟩, ⟨by omega, by omega⟩⟩ (an.e (Or.inr ⟨rfl, hno⟩)), ⟨by decide, by decide⟩, rfl, ⟨_, _, _, _, _, hg, K1, e1⟩⟩
  refine mj_T.icmp (a := (jdg W4 1 13 : Int) - 1) (b := (jdg W4 0 13 : Int) - 1) rfl ⟨by omega, by omega⟩ ⟨by omega, by omega⟩ (fun hc => ?_) (fun hc => ?_)
  · simp only [jc, Bool.not_eq_true', Bool.not_eq_false', decide_eq_true_eq, decide_eq_false_iff_not] at hc
    exact t93 _ _ hs4 (dvZ_no (by omega) (Or.inl (by omega)))
  iterate 4 refine mj_T.pl rfl rfl rfl rfl ?_
  refine mj_T.call (ins := .invokevirtual 155) rfl rfl (Nat.le_of_ble_eq_true rfl) (Nat.le_of_ble_eq_true rfl) (by simp [mj_recv, rS_f hs4]) rfl (mj_Ok.up (by decide) (jp_dividesExactly (D := 0) (V := W4) (rG S1 N B T X) (tq := 2) (a := 1) (b := 0) (db := jdg W4 0 13 - 1) (lc := W4 (0 * 13 + (jdg W4 0 13 - 1))) (al := 10 ^ 18) (be := 10 ^ 18) (by decide) (by decide) (by decide) (by decide) (by decide) (by decide) (by decide) (by decide) (by omega) rfl c2 c1 (by decide) (Nat.lt_of_le_of_lt (Nat.mul_le_mul_left _ (Nat.pow_le_pow_right (by decide) (by omega : _ ≤ 13))) rp_small4) hs4)) (fun v' g5 hq' => ?_) (fun i h' hq' => by obtain ⟨_, _, _, _, ⟨_, h⟩ | ⟨_, h⟩⟩ := hq' <;> cases h)
  obtain ⟨W5, _, hs5, _, ⟨hdv, hq'⟩ | ⟨hdv, hq'⟩⟩ := hq'
  · cases hq'
    refine mj_T.if0 (a := 1) rfl ⟨by decide, by decide⟩ (fun hc => ?_) (fun hc => ?_)
    · simp [jc] at hc
    iterate 2 refine mj_T.pl rfl rfl rfl rfl ?_
    exact mj_T.ret rfl rfl rfl ⟨0, 1, _, an.y ⟨⟨by omega, by omega⟩, ⟨by omega, by omega⟩⟩ (an.e (Or.inl ⟨rfl, ⟨jpo W5 2, 13, jpo_lt _ _, by rw [← y1p, ← y0]; exact hdv⟩⟩)), ⟨by decide, by decide⟩, rfl, ⟨_, _, _, _, _, hs5, K1, e1⟩⟩
  · cases hq'
    refine mj_T.if0 (a := 0) rfl ⟨by decide, by decide⟩ (fun hc => ?_) (fun hc => ?_)
    · exact t93 _ _ hs5 (fun ⟨q1, d1, hq1, he⟩ => hdv q1 d1 hq1 (by rw [y1p, y0]; exact he))
    · simp [jc] at hc
end RVD
section RVE
variable {h : mj_H} {u : Nat} {N : Nat → Int} {H : Nat → Nat → Int} {tm er : Int} {T : Nat → Int}
theorem ga_divides {x : Int} (jx : jr x) {y : Int} (jy : jr y) (I : jIx N u H tm er T h) : mj_Ok 60 262 [.ref 0, .int (jn x), .int (jn y)] h (rZa (sameQ N u H) (A_divides N x y) tm er T) := (mj_Ok.up (by decide) (ra_divides jx jy I)).to (fun r k => k.za)
end RVE
/-! A polynomial as a text. -/
/-- the digits of a number, m of them -/
def dgl (v : Nat) : Nat → List Int
  | 0 => []
  | m + 1 => (48 + ((v / 10 ^ m % 10 : Nat) : Int)) :: dgl v m
theorem dgl_len (v : Nat) : ∀ m, (dgl v m).length = m
  | 0 => rfl
  | m + 1 => congrArg (fun x : Nat => x + 1) (dgl_len v m)
def kfd (v : Nat) : Nat → Nat → Nat
  | 0, k => k
  | d + 1, k => if v / 10 ^ k < 10 then k else kfd v d (k + 1)
theorem kfd_b (v : Nat) : ∀ d k, k ≤ kfd v d k ∧ kfd v d k ≤ k + d
  | 0, k => ⟨Nat.le_refl _, Nat.le_refl _⟩
  | d + 1, k => by
    have h := kfd_b v d (k + 1)
    unfold kfd
    split
    · exact ⟨Nat.le_refl _, by omega⟩
    · exact ⟨by omega, by omega⟩
def nmN (v : Nat) : Nat := kfd v 17 0 + 1
def nmL (v : Nat) : List Int := dgl v (nmN v)
theorem nmL_len (v : Nat) : (nmL v).length = nmN v := dgl_len v _
theorem nmN_b (v : Nat) : 1 ≤ nmN v ∧ nmN v ≤ 18 := by
  have h := kfd_b v 17 0
  unfold nmN
  omega
theorem nmN_2 : ∀ e, e < 13 → nmN e ≤ 2 := by decide
/-- a term without its sign -/
def tmL (c : Int) (e : Nat) : List Int := (if c.natAbs = 1 ∧ e ≠ 0 then [] else nmL c.natAbs ++ (if 0 < e then [42] else [])) ++ ((if 0 < e then [120] else []) ++ (if 1 < e then 94 :: nmL e else []))
def tmN (c : Int) (e : Nat) : Nat := (if c.natAbs = 1 ∧ e ≠ 0 then 0 else nmN c.natAbs + (if 0 < e then 1 else 0)) + ((if 0 < e then 1 else 0) + (if 1 < e then nmN e + 1 else 0))
theorem tmL_len (c : Int) (e : Nat) : (tmL c e).length = tmN c e := by
  unfold tmL tmN
  rw [List.length_append, List.length_append]
  congr 1
  · split
    · rfl
    · rw [List.length_append, nmL_len]
      split <;> rfl
  · congr 1
    · split <;> rfl
    · split
      · rw [List.length_cons, nmL_len]
      · rfl
theorem tmN_b (c : Int) {e : Nat} (he : e < 13) : tmN c e ≤ 23 := by
  have h1 := nmN_b c.natAbs
  have h2 := nmN_2 e he
  unfold tmN
  (repeat' split) <;> omega
def sgL (c : Int) (w : Nat) : List Int := if w = 0 then (if c < 0 then [45] else []) else [32, if c < 0 then 45 else 43, 32]
def sgN (c : Int) (w : Nat) : Nat := if w = 0 then (if c < 0 then 1 else 0) else 3
theorem sgL_len (c : Int) (w : Nat) : (sgL c w).length = sgN c w := by
  unfold sgL sgN
  split
  · split <;> rfl
  · rfl
theorem sgN_b (c : Int) (w : Nat) : sgN c w ≤ 3 := by
  unfold sgN
  (repeat' split) <;> omega
/-- the terms of the exponents below m, behind what stands -/
def rwL (f : Nat → Int) : Nat → List Int → List Int
  | 0, L => L
  | m + 1, L => rwL f m (if f m = 0 then L else L ++ (sgL (f m) L.length ++ tmL (f m) m))
def rlN (f : Nat → Int) : Nat → Nat → Nat
  | 0, w => w
  | m + 1, w => rlN f m (if f m = 0 then w else w + (sgN (f m) w + tmN (f m) m))
theorem rwL_len (f : Nat → Int) : ∀ m L, (rwL f m L).length = rlN f m L.length
  | 0, L => rfl
  | m + 1, L => by
    show (rwL f m _).length = rlN f m _
    rw [rwL_len f m]
    congr 1
    split
    · rfl
    · rw [List.length_append, List.length_append, sgL_len, tmL_len]
theorem rwL_cg {f f' : Nat → Int} : ∀ m L, (∀ j, j < m → f j = f' j) → rwL f m L = rwL f' m L
  | 0, _, _ => rfl
  | m + 1, L, h => by
    show rwL f m _ = rwL f' m _
    rw [h m (by omega)]
    exact rwL_cg m _ (fun j hj => h j (by omega))
theorem rlN_cg {f f' : Nat → Int} : ∀ m w, (∀ j, j < m → f j = f' j) → rlN f m w = rlN f' m w
  | 0, _, _ => rfl
  | m + 1, w, h => by
    show rlN f m _ = rlN f' m _
    rw [h m (by omega)]
    exact rlN_cg m _ (fun j hj => h j (by omega))
theorem rlN_z {f : Nat → Int} {w : Nat} {k : Nat} : ∀ m, (∀ j, k ≤ j → j < k + m → f j = 0) → rlN f (k + m) w = rlN f k w
  | 0, _ => rfl
  | m + 1, h => by
    show rlN f (k + m) (if f (k + m) = 0 then w else _) = _
    rw [if_pos (h (k + m) (by omega) (by omega))]
    exact rlN_z m (fun j a b => h j a (by omega))
theorem rlN_b (f : Nat → Int) : ∀ m w, m ≤ 13 → w ≤ rlN f m w ∧ rlN f m w ≤ w + 26 * m
  | 0, w, _ => ⟨Nat.le_refl _, Nat.le_refl _⟩
  | m + 1, w, hm => by
    have h1 := tmN_b (f m) (show m < 13 by omega)
    have h2 := sgN_b (f m) w
    have h := rlN_b f m (if f m = 0 then w else w + (sgN (f m) w + tmN (f m) m)) (by omega)
    show w ≤ rlN f m _ ∧ rlN f m _ ≤ _
    generalize rlN f m (if f m = 0 then w else w + (sgN (f m) w + tmN (f m) m)) = y at h
    split at h <;> omega
def wrL (f : Nat → Int) : List Int := if rwL f 13 [] = [] then [48] else rwL f 13 []
def wrN (f : Nat → Int) : Nat := if rlN f 13 0 = 0 then 1 else rlN f 13 0
theorem wrL_len (f : Nat → Int) : (wrL f).length = wrN f := by
  have h := rwL_len f 13 []
  have h : (rwL f 13 []).length = rlN f 13 0 := h
  unfold wrL wrN
  by_cases q : rwL f 13 [] = []
  · rw [if_pos q]
    rw [q] at h
    rw [if_pos (by rw [← h]; rfl)]
    rfl
  · rw [if_neg q, if_neg (fun y => q (List.length_eq_zero_iff.mp (h.trans y)))]
    exact h
abbrev A_write (N : Nat → Int) (a : Int) : Int → Int → Prop := an [(0 ≤ a ∧ a ≤ 5, 1)] (fun z => z = ((wrN (rwN N a) : Nat) : Int))
theorem A_write.ag {N : Nat → Int} {a c1 z1 c2 z2 : Int} (p : A_write N a c1 z1) (q : A_write N a c2 z2) : c1 = c2 ∧ (c1 = 0 → z1 = z2) := an.ag (fun _ _ a b => a.trans b.symm) (by simp) p q
theorem wrN_cg {f f' : Nat → Int} (h : ∀ j, j < 13 → f j = f' j) : wrN f = wrN f' := by
  unfold wrN
  rw [rlN_cg 13 0 h]
/-- the text t of the class holds L -/
def txt (X : Nat → Nat → Int) (t : Nat) (L : List Int) : Prop := X t 1 = ((L.length : Nat) : Int) ∧ ∀ j c, L[j]? = some c → X (t + 1) j = c
theorem tx_b8 : ∀ k, k < 128 → (jn ((k : Nat) : Int)).toInt8.toInt32 = jn ((k : Nat) : Int) := by decide
section MTZ
variable {g h : mj_H} {n D pc r1 r2 r3 r4 r5 : Nat} {V : Nat → Int} {X : Nat → Nat → Int} {M : mj_M} {loc : mj_L} {st : List Value} {Q : mj_R → Prop}
theorem jM.B (m : jM g n V X h) {a : Nat} (ka : cK a = 3) : h[a]? = some (.inl (2, cL a, fun j => .int (jn (X a j)))) := by
  have q := m.2.2 a
  unfold jMk at q
  rw [ka, if_neg (by omega), if_neg (by omega), if_neg (by omega), if_neg (by omega), if_neg (by omega), if_pos rfl] at q
  exact q
theorem jM.setB (m : jM g n V X h) {a i : Nat} {v : Int} (ka : cK a = 3) : jM g n V (xup X a i v) (h.set a (.inl (2, cL a, fun j => .int (if j = i then jn v else jn (X a j))))) := by
  have hl := (List.getElem?_eq_some_iff.mp (m.B ka)).1
  refine m.up (fun x => x = a) (by rw [List.length_set]) (fun x hx => by subst hx; rw [ka]; decide) (fun p hp => List.getElem?_set_ne (fun e => hp e.symm)) (fun _ _ => rfl) (fun x hx => funext fun j => xup_ne _ _ (Or.inl hx)) (fun x hx => ?_) (fun x hx => ?_)
  · constructor
    · intro e
      subst e
      omega
    · intro e
      have p2 := (mK_w hx).1
      rw [e] at p2
      omega
  · subst hx
    unfold jMk
    rw [ka, if_neg (by omega), if_neg (by omega), if_neg (by omega), if_neg (by omega), if_neg (by omega), if_pos rfl, List.getElem?_set_self hl]
    congr 4
    funext j
    unfold xup
    by_cases q : j = i
    · rw [if_pos q, if_pos ⟨rfl, q⟩]
    · rw [if_neg q, if_neg (fun w => q w.2)]
theorem mT_bast (m : jM g n V X h) {a i k : Nat} (ka : cK a = 3) (hc : M.2.2.2.2.1 pc = some (.bastore, r1, r2, r3, r4, r5)) (hi : i < cL a) (h1 : cL a ≤ 1000) (hk : k < 128) (q : ∀ h', jM g n V (xup X a i (k : Int)) h' → mj_T D M (pc + 1) loc st h' Q) : mj_T D M pc loc (.int (jn (k : Int)) :: .int (jn (i : Int)) :: .ref a :: st) h Q := by
  have hj : jr (i : Int) := ⟨by omega, by omega⟩
  have h2 : mj_in (jn (i : Int)) (cL a) = true := by
    rw [jn_in hj]
    exact decide_eq_true ⟨by omega, by omega⟩
  have h3 := m.B ka
  have h4 := tx_b8 k hk
  have k9 := m.setB (i := i) (v := (k : Int)) ka
  refine mj_T.step hc rfl (by simp only [mj_step, h3, h2, h4, true_and, if_true]; rfl) (q _ ?_)
  rw [jn_nat (show (0 : Int) ≤ (i : Int) by omega) hj, Int.toNat_natCast]
  have e : (updV (fun j => Value.int (jn (X a j))) i (Value.int (jn (k : Int)))) = fun j => Value.int (if j = i then jn (k : Int) else jn (X a j)) := funext fun j => by
    unfold updV
    split <;> rfl
  rw [e]
  exact k9
end MTZ
section MTZ2
variable {g h : mj_H} {n D t r : Nat} {V : Nat → Int} {X : Nat → Nat → Int} {N : Nat → Int} {H : Nat → Nat → Int} {u : Nat}
theorem mX_80 (m : jM g n V X h) (q : isT t) {L : List Int} (x : txt X t L) (hl : L.length < 340) {s : Nat} (hs : s < 128) : mj_Ok (D + 1) 80 [.ref t, .int (jn (s : Int))] h (fun z => ∃ (X2 : Nat → Nat → Int) (h2 : mj_H), jM g n V X2 h2 ∧ txt X2 t (L ++ [(s : Int)]) ∧ (∀ c, c ≠ t → c ≠ t + 1 → X2 c = X c) ∧ z = (.inl none, h2)) := by
  have x1 := x.1
  have l4 : cL (t + 1) = 340 := q.2.2.2.1
  refine mj_Ok.of (M := mj_m80) rfl rfl rfl ?_
  refine mj_T.pl rfl rfl rfl rfl ?_
  refine mT_get m 17 q.1 (by decide) rfl rfl ?_
  rw [x1]
  refine mj_T.if0 (a := ((L.length : Nat) : Int)) rfl ⟨by omega, by omega⟩ (fun c1 => ?_) (fun c1 => ?_)
  · exfalso
    simp only [jc, Bool.not_eq_true', Bool.not_eq_false', decide_eq_true_eq, decide_eq_false_iff_not] at c1
    omega
  refine mj_T.pl rfl rfl rfl rfl ?_
  refine mT_get m 17 q.1 (by decide) rfl rfl ?_
  rw [x1]
  refine mj_T.pl rfl rfl rfl rfl ?_
  refine mT_get m 17 q.1 (by decide) rfl rfl ?_
  refine mj_T.alen rfl (m.B q.2.1) ?_
  rw [l4]
  refine mj_T.icmp (a := ((L.length : Nat) : Int)) (b := ((340 : Nat) : Int)) rfl ⟨by omega, by omega⟩ ⟨by omega, by omega⟩ (fun c2 => ?_) (fun c2 => ?_)
  · exfalso
    simp only [jc, Bool.not_eq_true', Bool.not_eq_false', decide_eq_true_eq, decide_eq_false_iff_not] at c2
    omega
  refine mj_T.pl rfl rfl rfl rfl ?_
  refine mT_get m 17 q.1 (by decide) rfl rfl ?_
  refine mj_T.pl rfl rfl rfl rfl ?_
  refine mT_get m 17 q.1 (by decide) rfl rfl ?_
  rw [x1]
  refine mj_T.pl rfl rfl rfl rfl ?_
  refine mj_T.step (st' := [.int (jn (s : Int)), .int (jn ((L.length : Nat) : Int)), .ref (t + 1)]) rfl rfl (by simp only [mj_step]; first | (rw [tx_b8 s hs]; done) | (rw [tx_b8 s hs]; rfl)) ?_
  refine mT_bast (a := t + 1) (i := L.length) m q.2.1 rfl (by omega) (by omega) hs (fun h1 m1 => ?_)
  iterate 2 refine mj_T.pl rfl rfl rfl rfl ?_
  refine mT_get m1 17 q.1 (by decide) rfl rfl ?_
  rw [show xup X (t + 1) L.length (s : Int) t 1 = ((L.length : Nat) : Int) from (xup_ne _ _ (Or.inl (by omega))).trans x1]
  refine mj_T.pl rfl rfl rfl rfl ?_
  refine mj_T.iadd (a := ((L.length : Nat) : Int)) (b := 1) rfl ?_
  rw [show ((L.length : Nat) : Int) + 1 = ((L.length + 1 : Nat) : Int) by omega]
  refine mT_put (v := ((L.length + 1 : Nat) : Int)) m1 17 q.1 (by decide) rfl (by simp [jMf, xup]) (by simp [jMf]) rfl (fun h2 m2 => ?_)
  refine mj_T.ret rfl rfl rfl ⟨_, _, m2, ⟨?_, fun j c hj => ?_⟩, fun c c1 c2 => ?_, rfl⟩
  · rw [xup_at, List.length_append]
    rfl
  · rw [xup_oth (show t + 1 ≠ t by omega)]
    by_cases y : j = L.length
    · rw [y, xup_at]
      rw [y, List.getElem?_append_right (Nat.le_refl _), Nat.sub_self] at hj
      exact Option.some.inj hj
    · rw [xup_ne _ _ (Or.inr y)]
      have hlt : j < L.length := by
        have h9 := (List.getElem?_eq_some_iff.mp hj).1
        rw [List.length_append] at h9
        have h8 : ([(s : Int)] : List Int).length = 1 := rfl
        omega
      rw [List.getElem?_append_left hlt] at hj
      exact x.2 j c hj
  · rw [xup_oth c1, xup_oth c2]
theorem mX_84_a {v K : Nat} (hv : v < 1000000000000000000) {Q : mj_R → Prop} (hend : mj_T D mj_m84 34 [some (.ref t), some (.long (jl (v : Int))), none, some (.long (jl ((10 ^ K : Nat) : Int))), none, some (.int (jn ((K : Nat) : Int)))] [] h Q) : ∀ d k, k + d = 17 → kfd v d k = K → mj_T D mj_m84 5 [some (.ref t), some (.long (jl (v : Int))), none, some (.long (jl ((10 ^ k : Nat) : Int))), none, some (.int (jn ((k : Nat) : Int)))] [] h Q
  | 0, k, hk, e => by
    obtain rfl : k = 17 := by omega
    have e : 17 = K := e
    subst e
    iterate 2 refine mj_T.pl rfl rfl rfl rfl ?_
    refine mj_T.icmp (a := ((17 : Nat) : Int)) (b := 18) rfl ⟨by omega, by omega⟩ ⟨by decide, by decide⟩ (fun hc => ?_) (fun hc => ?_)
    · simp [jc] at hc
    iterate 2 refine mj_T.pl rfl rfl rfl rfl ?_
    refine mj_T.ldiv (a := (v : Int)) (b := ((10 ^ 17 : Nat) : Int)) rfl ⟨by omega, by omega⟩ ⟨by omega, by omega⟩ (by omega) ?_
    rw [show (v : Int).tdiv ((10 ^ 17 : Nat) : Int) = ((v / 10 ^ 17 : Nat) : Int) from rfl]
    refine mj_T.pl rfl rfl rfl rfl ?_
    refine mj_T.lif (a := ((v / 10 ^ 17 : Nat) : Int)) (b := 10) rfl rfl ⟨by omega, by omega⟩ ⟨by decide, by decide⟩ (fun hc => ?_) (fun hc => ?_)
    · exact hend
    · simp only [jc, decide_eq_false_iff_not] at hc
      omega
  | d + 1, k, hk, e => by
    have hp0 : 0 < 10 ^ k := Nat.pow_pos (by decide)
    have hp1 : 10 ^ k ≤ 10 ^ 16 := Nat.pow_le_pow_right (by decide) (by omega)
    have hd := Nat.div_le_self v (10 ^ k)
    have hjy : jR ((v / 10 ^ k : Nat) : Int) := by
      generalize v / 10 ^ k = y at hd ⊢
      exact ⟨by omega, by omega⟩
    iterate 2 refine mj_T.pl rfl rfl rfl rfl ?_
    refine mj_T.icmp (a := ((k : Nat) : Int)) (b := 18) rfl ⟨by omega, by omega⟩ ⟨by decide, by decide⟩ (fun hc => ?_) (fun hc => ?_)
    · simp only [jc, decide_eq_true_eq] at hc
      omega
    iterate 2 refine mj_T.pl rfl rfl rfl rfl ?_
    refine mj_T.ldiv (a := (v : Int)) (b := ((10 ^ k : Nat) : Int)) rfl ⟨by omega, by omega⟩ ⟨by omega, by omega⟩ (by omega) ?_
    rw [show (v : Int).tdiv ((10 ^ k : Nat) : Int) = ((v / 10 ^ k : Nat) : Int) from rfl]
    refine mj_T.pl rfl rfl rfl rfl ?_
    refine mj_T.lif (a := ((v / 10 ^ k : Nat) : Int)) (b := 10) rfl rfl hjy ⟨by decide, by decide⟩ (fun hc => ?_) (fun hc => ?_)
    · simp only [jc, decide_eq_true_eq] at hc
      have e : (if v / 10 ^ k < 10 then k else kfd v d (k + 1)) = K := e
      rw [if_pos (by omega)] at e
      subst e
      exact hend
    · simp only [jc, decide_eq_false_iff_not] at hc
      have e : (if v / 10 ^ k < 10 then k else kfd v d (k + 1)) = K := e
      rw [if_neg (by omega)] at e
      iterate 2 refine mj_T.pl rfl rfl rfl rfl ?_
      refine mj_T.lmul (b := 10) rfl ?_
      rw [show ((10 ^ k : Nat) : Int) * 10 = ((10 ^ (k + 1) : Nat) : Int) by rw [Nat.pow_succ]; omega]
      refine mj_T.pl rfl rfl rfl rfl ?_
      refine mj_T.iinc (a := (k : Int)) rfl rfl ?_
      rw [show ((k : Nat) : Int) + 1 = ((k + 1 : Nat) : Int) by omega]
      refine mj_T.pl rfl rfl rfl rfl ?_
      exact mX_84_a hv hend d (k + 1) (by omega) e
theorem mX_84_b {v : Nat} (hv : v < 1000000000000000000) (q : isT t) {Q : mj_R → Prop} : ∀ (m i : Nat) (L : List Int) (X1 : Nat → Nat → Int) (h1 : mj_H), i + m ≤ 18 → L.length + m ≤ 340 → jM g n V X1 h1 → txt X1 t L → (∀ (X2 : Nat → Nat → Int) (h2 : mj_H), jM g n V X2 h2 → txt X2 t (L ++ dgl v m) → (∀ c, c ≠ t → c ≠ t + 1 → X2 c = X1 c) → Q (.inl none, h2)) → mj_T (D + 1) mj_m84 37 [some (.ref t), some (.long (jl (v : Int))), none, some (.long (jl ((if m = 0 then 0 else 10 ^ (m - 1) : Nat) : Int))), none, some (.int (jn ((i : Nat) : Int)))] [] h1 Q
  | 0, i, L, X1, h1, hi, hl, m, x, hend => by
    iterate 2 refine mj_T.pl rfl rfl rfl rfl ?_
    refine mj_T.icmp (a := ((i : Nat) : Int)) (b := 19) rfl ⟨by omega, by omega⟩ ⟨by decide, by decide⟩ (fun hc => ?_) (fun hc => ?_)
    · simp only [jc, decide_eq_true_eq] at hc
      omega
    rw [if_pos rfl]
    iterate 2 refine mj_T.pl rfl rfl rfl rfl ?_
    refine mj_T.lif (a := ((0 : Nat) : Int)) (b := 0) rfl rfl ⟨by decide, by decide⟩ ⟨by decide, by decide⟩ (fun hc => ?_) (fun hc => ?_)
    · exact mj_T.ret rfl rfl rfl (hend X1 h1 m (by rw [show L ++ dgl v 0 = L from List.append_nil L]; exact x) (fun _ _ _ => rfl))
    · simp [jc] at hc
  | m9 + 1, i, L, X1, h1, hi, hl, m, x, hend => by
    have hp0 : 0 < 10 ^ m9 := Nat.pow_pos (by decide)
    have hp1 : 10 ^ m9 ≤ 10 ^ 17 := Nat.pow_le_pow_right (by decide) (by omega)
    iterate 2 refine mj_T.pl rfl rfl rfl rfl ?_
    refine mj_T.icmp (a := ((i : Nat) : Int)) (b := 19) rfl ⟨by omega, by omega⟩ ⟨by decide, by decide⟩ (fun hc => ?_) (fun hc => ?_)
    · simp only [jc, decide_eq_true_eq] at hc
      omega
    rw [if_neg (Nat.succ_ne_zero _), Nat.add_sub_cancel]
    iterate 2 refine mj_T.pl rfl rfl rfl rfl ?_
    refine mj_T.lif (a := ((10 ^ m9 : Nat) : Int)) (b := 0) rfl rfl ⟨by omega, by omega⟩ ⟨by decide, by decide⟩ (fun hc => ?_) (fun hc => ?_)
    · simp only [jc, decide_eq_true_eq] at hc
      omega
    iterate 4 refine mj_T.pl rfl rfl rfl rfl ?_
    refine mj_T.ldiv (a := (v : Int)) (b := ((10 ^ m9 : Nat) : Int)) rfl ⟨by omega, by omega⟩ ⟨by omega, by omega⟩ (by omega) ?_
    rw [show (v : Int).tdiv ((10 ^ m9 : Nat) : Int) = ((v / 10 ^ m9 : Nat) : Int) from rfl]
    have hd := Nat.div_le_self v (10 ^ m9)
    have hjy : jR ((v / 10 ^ m9 : Nat) : Int) := by
      generalize v / 10 ^ m9 = y at hd ⊢
      exact ⟨by omega, by omega⟩
    refine mj_T.pl rfl rfl rfl rfl ?_
    refine mj_T.lrem (a := ((v / 10 ^ m9 : Nat) : Int)) (b := 10) rfl hjy ⟨by decide, by decide⟩ (by decide) ?_
    rw [show ((v / 10 ^ m9 : Nat) : Int).tmod 10 = ((v / 10 ^ m9 % 10 : Nat) : Int) from rfl]
    have hr := Nat.mod_lt (v / 10 ^ m9) (show 0 < 10 by decide)
    refine mj_T.ladd (a := 48) (b := ((v / 10 ^ m9 % 10 : Nat) : Int)) rfl ?_
    refine mj_T.l2i rfl ?_
    have es : (48 : Int) + ((v / 10 ^ m9 % 10 : Nat) : Int) = ((48 + v / 10 ^ m9 % 10 : Nat) : Int) := by omega
    rw [es]
    refine mj_T.call rfl rfl (Nat.le_of_ble_eq_true rfl) (Nat.le_of_ble_eq_true rfl) (mV_of m 17 q.1 (by decide) rfl (by decide) rfl _) rfl (mj_Ok.up (by omega) (mX_80 (D := 0) m q x (by omega) (s := 48 + v / 10 ^ m9 % 10) (by omega))) (fun v' h2 hq => ?_) (fun i' h2 hq => by obtain ⟨_, _, _, _, _, hq⟩ := hq; cases hq)
    obtain ⟨X2, _, m2, x2, e2, hq⟩ := hq
    cases hq
    rw [← es] at x2
    iterate 2 refine mj_T.pl rfl rfl rfl rfl ?_
    refine mj_T.ldiv (a := ((10 ^ m9 : Nat) : Int)) (b := 10) rfl ⟨by omega, by omega⟩ ⟨by decide, by decide⟩ (by decide) ?_
    have e : ((10 ^ m9 : Nat) : Int).tdiv 10 = ((if m9 = 0 then 0 else 10 ^ (m9 - 1) : Nat) : Int) := by
      rw [show ((10 ^ m9 : Nat) : Int).tdiv 10 = ((10 ^ m9 / 10 : Nat) : Int) from rfl]
      split
      · rename_i y
        subst y
        rfl
      · rename_i y
        obtain ⟨j, rfl⟩ : ∃ j, m9 = j + 1 := ⟨m9 - 1, by omega⟩
        rw [Nat.pow_succ, Nat.add_sub_cancel, Nat.mul_div_cancel _ (by decide)]
    rw [e]
    refine mj_T.pl rfl rfl rfl rfl ?_
    refine mj_T.iinc (a := (i : Int)) rfl rfl ?_
    rw [show ((i : Nat) : Int) + 1 = ((i + 1 : Nat) : Int) by omega]
    refine mj_T.pl rfl rfl rfl rfl ?_
    refine mX_84_b hv q m9 (i + 1) _ X2 _ (by omega) (by rw [List.length_append]; have h8 : ([48 + ((v / 10 ^ m9 % 10 : Nat) : Int)] : List Int).length = 1 := rfl; omega) m2 x2 (fun X3 h3 m3 x3 e3 => ?_)
    exact hend X3 h3 m3 (by rw [List.append_assoc] at x3; exact x3) (fun c c1 c2 => (e3 c c1 c2).trans (e2 c c1 c2))
theorem mX_84 (m : jM g n V X h) (q : isT t) {L : List Int} (x : txt X t L) {v : Nat} (hv : v < 1000000000000000000) (hl : L.length + nmN v ≤ 340) : mj_Ok (D + 2) 84 [.ref t, .long (jl (v : Int))] h (fun z => ∃ (X2 : Nat → Nat → Int) (h2 : mj_H), jM g n V X2 h2 ∧ txt X2 t (L ++ nmL v) ∧ (∀ c, c ≠ t → c ≠ t + 1 → X2 c = X c) ∧ z = (.inl none, h2)) := by
  have hb := nmN_b v
  refine mj_Ok.of (M := mj_m84) rfl rfl rfl ?_
  refine mj_T.pl rfl rfl rfl rfl ?_
  refine mj_T.pl rfl rfl rfl rfl ?_
  iterate 2 refine mj_T.pl rfl rfl rfl rfl ?_
  refine mX_84_a (D := D + 1) (K := kfd v 17 0) hv ?_ 17 0 (by omega) rfl
  iterate 2 refine mj_T.pl rfl rfl rfl rfl ?_
  have k2 := mX_84_b (D := D) (V := V) (g := g) (n := n) (t := t) hv q (Q := (fun z => ∃ (X2 : Nat → Nat → Int) (h2 : mj_H), jM g n V X2 h2 ∧ txt X2 t (L ++ nmL v) ∧ (∀ c, c ≠ t → c ≠ t + 1 → X2 c = X c) ∧ z = (.inl none, h2))) (nmN v) 0 L X h (by omega) hl m x (fun X2 h2 m2 x2 e2 => ⟨X2, h2, m2, x2, e2, rfl⟩)
  rw [if_neg (by omega)] at k2
  exact k2
end MTZ2
section MTY
variable {g h : mj_H} {n D t r : Nat} {V : Nat → Int} {X : Nat → Nat → Int} {N : Nat → Int} {H : Nat → Nat → Int} {u : Nat}
theorem mX_83_120 {e : Nat} {c : Int} {w4 : Int} {Q : mj_R → Prop} (he : e < 13) (hc : -999999999999999999 ≤ c ∧ c ≤ 999999999999999999) (q : isT t) (m : jM g n V X h) {L : List Int} (x : txt X t L) (hl : L.length + 3 ≤ 340) (hend : ∀ (X2 : Nat → Nat → Int) (h2 : mj_H), jM g n V X2 h2 → txt X2 t (L ++ (if 1 < e then 94 :: nmL e else [])) → (∀ c, c ≠ t → c ≠ t + 1 → X2 c = X c) → Q (.inl none, h2)) : mj_T (D + 2) mj_m83 120 [some (.ref t), some (.long (jl c)), none, some (.int (jn (e : Int))), some (.int (jn w4)), some (.long (jl ((c.natAbs : Nat) : Int))), none] [] h Q := by
  have h2 := nmN_2 e he
  iterate 2 refine mj_T.pl rfl rfl rfl rfl ?_
  refine mj_T.icmp (a := (e : Int)) (b := 1) rfl ⟨by omega, by omega⟩ ⟨by decide, by decide⟩ (fun hc1 => ?_) (fun hc1 => ?_)
  · simp only [jc, Bool.not_eq_true', Bool.not_eq_false', decide_eq_true_eq, decide_eq_false_iff_not] at hc1
    exact mj_T.ret rfl rfl rfl (hend X h m (by rw [if_neg (by omega), List.append_nil]; exact x) (fun _ _ _ => rfl))
  · simp only [jc, Bool.not_eq_true', Bool.not_eq_false', decide_eq_true_eq, decide_eq_false_iff_not] at hc1
    rw [if_pos (show 1 < e by omega)] at hend
    iterate 2 refine mj_T.pl rfl rfl rfl rfl ?_
    refine mj_T.eq (st2 := [.int (jn ((94 : Nat) : Int)), .ref t]) ?_ rfl rfl rfl rfl
    refine mj_T.call rfl rfl (Nat.le_of_ble_eq_true rfl) (Nat.le_of_ble_eq_true rfl) (mV_of m 17 q.1 (by decide) rfl (by decide) rfl _) rfl (mj_Ok.up (by omega) (mX_80 (D := 0) m q x (by (try simp only [List.length_append, List.length_cons, List.length_nil]); omega) (s := 94) (by decide))) (fun v' h5 hq => ?_) (fun i' h5 hq => by obtain ⟨_, _, _, _, _, hq⟩ := hq; cases hq)
    obtain ⟨X5, _, m5, x5, e5, hq⟩ := hq
    cases hq
    iterate 2 refine mj_T.pl rfl rfl rfl rfl ?_
    refine mj_T.i2l rfl ⟨by omega, by omega⟩ ?_
    refine mj_T.call rfl rfl (Nat.le_of_ble_eq_true rfl) (Nat.le_of_ble_eq_true rfl) (mV_of m5 17 q.1 (by decide) rfl (by decide) rfl _) rfl (mj_Ok.up (by omega) (mX_84 (D := 0) m5 q x5 (v := e) (by omega) (by (try simp only [List.length_append, List.length_cons, List.length_nil]); omega))) (fun v' h6 hq => ?_) (fun i' h6 hq => by obtain ⟨_, _, _, _, _, hq⟩ := hq; cases hq)
    obtain ⟨X6, _, m6, x6, e6, hq⟩ := hq
    cases hq
    exact mj_T.ret rfl rfl rfl (hend X6 h6 m6 (by rw [List.append_assoc] at x6; exact x6) (fun c c1 c2 => (e6 c c1 c2).trans (e5 c c1 c2)))
theorem mX_83_110 {e : Nat} {c : Int} {w4 : Int} {Q : mj_R → Prop} (he : e < 13) (hc : -999999999999999999 ≤ c ∧ c ≤ 999999999999999999) (q : isT t) (m : jM g n V X h) {L : List Int} (x : txt X t L) (hl : L.length + 4 ≤ 340) (hend : ∀ (X2 : Nat → Nat → Int) (h2 : mj_H), jM g n V X2 h2 → txt X2 t (L ++ ((if 0 < e then [120] else []) ++ (if 1 < e then 94 :: nmL e else []))) → (∀ c, c ≠ t → c ≠ t + 1 → X2 c = X c) → Q (.inl none, h2)) : mj_T (D + 2) mj_m83 110 [some (.ref t), some (.long (jl c)), none, some (.int (jn (e : Int))), some (.int (jn w4)), some (.long (jl ((c.natAbs : Nat) : Int))), none] [] h Q := by
  refine mj_T.pl rfl rfl rfl rfl ?_
  refine mj_T.if0 (a := (e : Int)) rfl ⟨by omega, by omega⟩ (fun hc1 => ?_) (fun hc1 => ?_)
  · simp only [jc, Bool.not_eq_true', Bool.not_eq_false', decide_eq_true_eq, decide_eq_false_iff_not] at hc1
    rw [if_neg (show ¬ 0 < e by omega)] at hend
    exact mX_83_120 he hc q m x (by omega) hend
  · simp only [jc, Bool.not_eq_true', Bool.not_eq_false', decide_eq_true_eq, decide_eq_false_iff_not] at hc1
    rw [if_pos (show 0 < e by omega)] at hend
    iterate 2 refine mj_T.pl rfl rfl rfl rfl ?_
    refine mj_T.eq (st2 := [.int (jn ((120 : Nat) : Int)), .ref t]) ?_ rfl rfl rfl rfl
    refine mj_T.call rfl rfl (Nat.le_of_ble_eq_true rfl) (Nat.le_of_ble_eq_true rfl) (mV_of m 17 q.1 (by decide) rfl (by decide) rfl _) rfl (mj_Ok.up (by omega) (mX_80 (D := 0) m q x (by (try simp only [List.length_append, List.length_cons, List.length_nil]); omega) (s := 120) (by decide))) (fun v' h5 hq => ?_) (fun i' h5 hq => by obtain ⟨_, _, _, _, _, hq⟩ := hq; cases hq)
    obtain ⟨X5, _, m5, x5, e5, hq⟩ := hq
    cases hq
    refine mX_83_120 he hc q m5 x5 (by rw [List.length_append]; have h8 : ([120] : List Int).length = 1 := rfl; omega) (fun X2 h2 m2 x2 e2 => hend X2 h2 m2 (by rw [List.append_assoc] at x2; exact x2) (fun c c1 c2 => (e2 c c1 c2).trans (e5 c c1 c2)))
theorem mX_83_93 {e : Nat} {c : Int} {w4 : Int} {Q : mj_R → Prop} (he : e < 13) (hc : -999999999999999999 ≤ c ∧ c ≤ 999999999999999999) (q : isT t) (m : jM g n V X h) {L : List Int} (x : txt X t L) (hl : L.length + 5 ≤ 340) (hend : ∀ (X2 : Nat → Nat → Int) (h2 : mj_H), jM g n V X2 h2 → txt X2 t (L ++ ((if c.natAbs ≠ 1 ∧ 0 < e then [42] else []) ++ ((if 0 < e then [120] else []) ++ (if 1 < e then 94 :: nmL e else [])))) → (∀ c, c ≠ t → c ≠ t + 1 → X2 c = X c) → Q (.inl none, h2)) : mj_T (D + 2) mj_m83 93 [some (.ref t), some (.long (jl c)), none, some (.int (jn (e : Int))), some (.int (jn w4)), some (.long (jl ((c.natAbs : Nat) : Int))), none] [] h Q := by
  iterate 2 refine mj_T.pl rfl rfl rfl rfl ?_
  refine mj_T.lif (a := ((c.natAbs : Nat) : Int)) (b := 1) rfl rfl ⟨by omega, by omega⟩ ⟨by decide, by decide⟩ (fun hc1 => ?_) (fun hc1 => ?_)
  · simp only [jc, Bool.not_eq_true', Bool.not_eq_false', decide_eq_true_eq, decide_eq_false_iff_not] at hc1
    rw [if_neg (fun y => y.1 (by omega)), List.nil_append] at hend
    exact mX_83_110 he hc q m x (by omega) hend
  · simp only [jc, Bool.not_eq_true', Bool.not_eq_false', decide_eq_true_eq, decide_eq_false_iff_not] at hc1
    refine mj_T.pl rfl rfl rfl rfl ?_
    refine mj_T.if0 (a := (e : Int)) rfl ⟨by omega, by omega⟩ (fun hc2 => ?_) (fun hc2 => ?_)
    · simp only [jc, Bool.not_eq_true', Bool.not_eq_false', decide_eq_true_eq, decide_eq_false_iff_not] at hc2
      rw [if_neg (fun y => absurd y.2 (by omega)), List.nil_append] at hend
      exact mX_83_110 he hc q m x (by omega) hend
    · simp only [jc, Bool.not_eq_true', Bool.not_eq_false', decide_eq_true_eq, decide_eq_false_iff_not] at hc2
      rw [if_pos (show c.natAbs ≠ 1 ∧ 0 < e from ⟨by omega, by omega⟩)] at hend
      iterate 2 refine mj_T.pl rfl rfl rfl rfl ?_
      refine mj_T.eq (st2 := [.int (jn ((42 : Nat) : Int)), .ref t]) ?_ rfl rfl rfl rfl
      refine mj_T.call rfl rfl (Nat.le_of_ble_eq_true rfl) (Nat.le_of_ble_eq_true rfl) (mV_of m 17 q.1 (by decide) rfl (by decide) rfl _) rfl (mj_Ok.up (by omega) (mX_80 (D := 0) m q x (by (try simp only [List.length_append, List.length_cons, List.length_nil]); omega) (s := 42) (by decide))) (fun v' h5 hq => ?_) (fun i' h5 hq => by obtain ⟨_, _, _, _, _, hq⟩ := hq; cases hq)
      obtain ⟨X5, _, m5, x5, e5, hq⟩ := hq
      cases hq
      refine mX_83_110 he hc q m5 x5 (by rw [List.length_append]; have h8 : ([42] : List Int).length = 1 := rfl; omega) (fun X2 h2 m2 x2 e2 => hend X2 h2 m2 (by rw [List.append_assoc] at x2; exact x2) (fun c c1 c2 => (e2 c c1 c2).trans (e5 c c1 c2)))
theorem mX_83_62 {e : Nat} {c : Int} {w4 : Int} {Q : mj_R → Prop} (he : e < 13) (hc : -999999999999999999 ≤ c ∧ c ≤ 999999999999999999) (q : isT t) (m : jM g n V X h) {L : List Int} (x : txt X t L) (hl : L.length + 23 ≤ 340) (hend : ∀ (X2 : Nat → Nat → Int) (h2 : mj_H), jM g n V X2 h2 → txt X2 t (L ++ tmL c e) → (∀ c, c ≠ t → c ≠ t + 1 → X2 c = X c) → Q (.inl none, h2)) : mj_T (D + 2) mj_m83 62 [some (.ref t), some (.long (jl c)), none, some (.int (jn (e : Int))), some (.int (jn w4)), none, none] [] h Q := by
  have hb := nmN_b c.natAbs
  have t87 : ¬ (c.natAbs = 1 ∧ e ≠ 0) → mj_T (D + 2) mj_m83 87 [some (.ref t), some (.long (jl c)), none, some (.int (jn (e : Int))), some (.int (jn w4)), some (.long (jl ((c.natAbs : Nat) : Int))), none] [] h Q := fun hno => by
    iterate 2 refine mj_T.pl rfl rfl rfl rfl ?_
    refine mj_T.call rfl rfl (Nat.le_of_ble_eq_true rfl) (Nat.le_of_ble_eq_true rfl) (mV_of m 17 q.1 (by decide) rfl (by decide) rfl _) rfl (mj_Ok.up (by omega) (mX_84 (D := 0) m q x (v := c.natAbs) (by omega) (by (try simp only [List.length_append, List.length_cons, List.length_nil]); omega))) (fun v' h6 hq => ?_) (fun i' h6 hq => by obtain ⟨_, _, _, _, _, hq⟩ := hq; cases hq)
    obtain ⟨X6, _, m6, x6, e6, hq⟩ := hq
    cases hq
    refine mX_83_93 he hc q m6 x6 (by rw [List.length_append, nmL_len]; omega) (fun X2 h2 m2 x2 e2 => hend X2 h2 m2 ?_ (fun c c1 c2 => (e2 c c1 c2).trans (e6 c c1 c2)))
    unfold tmL
    rw [if_neg hno]
    rw [List.append_assoc] at x2
    rw [List.append_assoc]
    by_cases y : 0 < e
    · rw [if_pos (show c.natAbs ≠ 1 ∧ 0 < e from ⟨fun w => hno ⟨w, by omega⟩, y⟩)] at x2
      simp only [if_pos y] at x2 ⊢
      exact x2
    · rw [if_neg (fun w => y w.2)] at x2
      simp only [if_neg y] at x2 ⊢
      exact x2
  have t74 : ∀ z : Int, z = ((c.natAbs : Nat) : Int) → mj_T (D + 2) mj_m83 74 [some (.ref t), some (.long (jl c)), none, some (.int (jn (e : Int))), some (.int (jn w4)), none, none] [.long (jl z)] h Q := fun z hz => by
    subst hz
    refine mj_T.pl (loc' := [some (.ref t), some (.long (jl c)), none, some (.int (jn (e : Int))), some (.int (jn w4)), some (.long (jl ((c.natAbs : Nat) : Int))), none]) rfl rfl rfl rfl ?_
    iterate 2 refine mj_T.pl rfl rfl rfl rfl ?_
    refine mj_T.lif (a := ((c.natAbs : Nat) : Int)) (b := 1) rfl rfl ⟨by omega, by omega⟩ ⟨by decide, by decide⟩ (fun hc1 => ?_) (fun hc1 => ?_)
    · simp only [jc, Bool.not_eq_true', Bool.not_eq_false', decide_eq_true_eq, decide_eq_false_iff_not] at hc1
      exact t87 (fun y => by omega)
    · simp only [jc, Bool.not_eq_true', Bool.not_eq_false', decide_eq_true_eq, decide_eq_false_iff_not] at hc1
      refine mj_T.pl rfl rfl rfl rfl ?_
      refine mj_T.if0 (a := (e : Int)) rfl ⟨by omega, by omega⟩ (fun hc2 => ?_) (fun hc2 => ?_)
      · simp only [jc, Bool.not_eq_true', Bool.not_eq_false', decide_eq_true_eq, decide_eq_false_iff_not] at hc2
        refine mX_83_93 he hc q m x (by omega) (fun X2 h2 m2 x2 e2 => hend X2 h2 m2 ?_ e2)
        unfold tmL
        rw [if_pos (show c.natAbs = 1 ∧ e ≠ 0 from ⟨by omega, by omega⟩), List.nil_append]
        rw [if_neg (fun w => w.1 (by omega)), List.nil_append] at x2
        exact x2
      · simp only [jc, Bool.not_eq_true', Bool.not_eq_false', decide_eq_true_eq, decide_eq_false_iff_not] at hc2
        exact t87 (fun y => y.2 (by omega))
  iterate 2 refine mj_T.pl rfl rfl rfl rfl ?_
  refine mj_T.lif (a := c) (b := 0) rfl rfl ⟨by omega, by omega⟩ ⟨by decide, by decide⟩ (fun hc1 => ?_) (fun hc1 => ?_)
  · simp only [jc, Bool.not_eq_true', Bool.not_eq_false', decide_eq_true_eq, decide_eq_false_iff_not] at hc1
    refine mj_T.pl rfl rfl rfl rfl ?_
    exact t74 c (by omega)
  · simp only [jc, Bool.not_eq_true', Bool.not_eq_false', decide_eq_true_eq, decide_eq_false_iff_not] at hc1
    refine mj_T.pl rfl rfl rfl rfl ?_
    refine mj_T.lneg rfl ?_
    refine mj_T.pl rfl rfl rfl rfl ?_
    exact t74 (-c) (by omega)
theorem mX_83 {e : Nat} {c : Int} (he : e < 13) (hc : -999999999999999999 ≤ c ∧ c ≤ 999999999999999999) (q : isT t) (m : jM g n V X h) {L : List Int} (x : txt X t L) (hl : L.length + 26 ≤ 340) : mj_Ok (D + 3) 83 [.ref t, .long (jl c), .int (jn (e : Int))] h (fun z => ∃ (X2 : Nat → Nat → Int) (h2 : mj_H), jM g n V X2 h2 ∧ txt X2 t (L ++ (sgL c L.length ++ tmL c e)) ∧ (∀ c, c ≠ t → c ≠ t + 1 → X2 c = X c) ∧ z = (.inl none, h2)) := by
  have x1 := x.1
  refine mj_Ok.of (M := mj_m83) rfl rfl rfl ?_
  refine mj_T.pl rfl rfl rfl rfl ?_
  refine mT_get m 17 q.1 (by decide) rfl rfl ?_
  rw [x1]
  refine mj_T.if0 (a := ((L.length : Nat) : Int)) rfl ⟨by omega, by omega⟩ (fun hc1 => ?_) (fun hc1 => ?_)
  · simp only [jc, Bool.not_eq_true', Bool.not_eq_false', decide_eq_true_eq, decide_eq_false_iff_not] at hc1
    have hw : L.length ≠ 0 := by omega
    unfold sgL
    rw [if_neg hw]
    iterate 3 refine mj_T.pl rfl rfl rfl rfl ?_
    refine mj_T.if0 (a := 0) rfl ⟨by decide, by decide⟩ (fun y => by simp [jc] at y) (fun _ => ?_)
    iterate 2 refine mj_T.pl rfl rfl rfl rfl ?_
    refine mj_T.eq (st2 := [.int (jn ((32 : Nat) : Int)), .ref t]) ?_ rfl rfl rfl rfl
    refine mj_T.call rfl rfl (Nat.le_of_ble_eq_true rfl) (Nat.le_of_ble_eq_true rfl) (mV_of m 17 q.1 (by decide) rfl (by decide) rfl _) rfl (mj_Ok.up (by omega) (mX_80 (D := 0) m q x (by (try simp only [List.length_append, List.length_cons, List.length_nil]); omega) (s := 32) (by decide))) (fun v' h5 hq => ?_) (fun i' h5 hq => by obtain ⟨_, _, _, _, _, hq⟩ := hq; cases hq)
    obtain ⟨X5, _, m5, x5, e5, hq⟩ := hq
    cases hq
    have t51 : ∀ (s : Int) (X6 : Nat → Nat → Int) (h6 : mj_H), s = (if c < 0 then 45 else 43) → jM g n V X6 h6 → txt X6 t ((L ++ [32]) ++ [s]) → (∀ c, c ≠ t → c ≠ t + 1 → X6 c = X5 c) → mj_T (D + 2) mj_m83 51 [some (.ref t), some (.long (jl c)), none, some (.int (jn (e : Int))), some (.int (jn 0)), none, none] [] h6 (fun z => ∃ (X2 : Nat → Nat → Int) (h2 : mj_H), jM g n V X2 h2 ∧ txt X2 t (L ++ ([32, if c < 0 then 45 else 43, 32] ++ tmL c e)) ∧ (∀ c, c ≠ t → c ≠ t + 1 → X2 c = X c) ∧ z = (.inl none, h2)) := fun s X6 h6 hs m6 x6 e6 => by
      refine mj_T.pl rfl rfl rfl rfl ?_
      refine mj_T.if0 (a := 0) rfl ⟨by decide, by decide⟩ (fun y => by simp [jc] at y) (fun _ => ?_)
      iterate 2 refine mj_T.pl rfl rfl rfl rfl ?_
      refine mj_T.eq (st2 := [.int (jn ((32 : Nat) : Int)), .ref t]) ?_ rfl rfl rfl rfl
      refine mj_T.call rfl rfl (Nat.le_of_ble_eq_true rfl) (Nat.le_of_ble_eq_true rfl) (mV_of m6 17 q.1 (by decide) rfl (by decide) rfl _) rfl (mj_Ok.up (by omega) (mX_80 (D := 0) m6 q x6 (by (try simp only [List.length_append, List.length_cons, List.length_nil]); omega) (s := 32) (by decide))) (fun v' h7 hq => ?_) (fun i' h7 hq => by obtain ⟨_, _, _, _, _, hq⟩ := hq; cases hq)
      obtain ⟨X7, _, m7, x7, e7, hq⟩ := hq
      cases hq
      refine mX_83_62 (w4 := 0) he hc q m7 x7 (by simp only [List.length_append, List.length_cons, List.length_nil]; omega) (fun X2 h2 m2 x2 e2 => ⟨X2, h2, m2, ?_, fun c c1 c2 => (e2 c c1 c2).trans ((e7 c c1 c2).trans ((e6 c c1 c2).trans (e5 c c1 c2))), rfl⟩)
      rw [List.append_assoc, List.append_assoc, List.append_assoc] at x2
      rw [← hs]
      exact x2
    iterate 2 refine mj_T.pl rfl rfl rfl rfl ?_
    refine mj_T.lif (a := c) (b := 0) rfl rfl ⟨by omega, by omega⟩ ⟨by decide, by decide⟩ (fun hc2 => ?_) (fun hc2 => ?_)
    · simp only [jc, Bool.not_eq_true', Bool.not_eq_false', decide_eq_true_eq, decide_eq_false_iff_not] at hc2
      refine mj_T.pl rfl rfl rfl rfl ?_
      refine mj_T.if0 (a := 0) rfl ⟨by decide, by decide⟩ (fun y => by simp [jc] at y) (fun _ => ?_)
      iterate 2 refine mj_T.pl rfl rfl rfl rfl ?_
      refine mj_T.eq (st2 := [.int (jn ((43 : Nat) : Int)), .ref t]) ?_ rfl rfl rfl rfl
      refine mj_T.call rfl rfl (Nat.le_of_ble_eq_true rfl) (Nat.le_of_ble_eq_true rfl) (mV_of m5 17 q.1 (by decide) rfl (by decide) rfl _) rfl (mj_Ok.up (by omega) (mX_80 (D := 0) m5 q x5 (by (try simp only [List.length_append, List.length_cons, List.length_nil]); omega) (s := 43) (by decide))) (fun v' h6 hq => ?_) (fun i' h6 hq => by obtain ⟨_, _, _, _, _, hq⟩ := hq; cases hq)
      obtain ⟨X6, _, m6, x6, e6, hq⟩ := hq
      cases hq
      exact t51 43 X6 h6 (by rw [if_neg (by omega)]) m6 x6 e6
    · simp only [jc, Bool.not_eq_true', Bool.not_eq_false', decide_eq_true_eq, decide_eq_false_iff_not] at hc2
      iterate 2 refine mj_T.pl rfl rfl rfl rfl ?_
      refine mj_T.eq (st2 := [.int (jn ((45 : Nat) : Int)), .ref t]) ?_ rfl rfl rfl rfl
      refine mj_T.call rfl rfl (Nat.le_of_ble_eq_true rfl) (Nat.le_of_ble_eq_true rfl) (mV_of m5 17 q.1 (by decide) rfl (by decide) rfl _) rfl (mj_Ok.up (by omega) (mX_80 (D := 0) m5 q x5 (by (try simp only [List.length_append, List.length_cons, List.length_nil]); omega) (s := 45) (by decide))) (fun v' h6 hq => ?_) (fun i' h6 hq => by obtain ⟨_, _, _, _, _, hq⟩ := hq; cases hq)
      obtain ⟨X6, _, m6, x6, e6, hq⟩ := hq
      cases hq
      refine mj_T.pl rfl rfl rfl rfl ?_
      exact t51 45 X6 h6 (by rw [if_pos (by omega)]) m6 x6 e6
  · simp only [jc, Bool.not_eq_true', Bool.not_eq_false', decide_eq_true_eq, decide_eq_false_iff_not] at hc1
    have hw : L.length = 0 := by omega
    unfold sgL
    rw [if_pos hw]
    iterate 2 refine mj_T.pl rfl rfl rfl rfl ?_
    iterate 2 refine mj_T.pl rfl rfl rfl rfl ?_
    refine mj_T.if0 (a := 1) rfl ⟨by decide, by decide⟩ (fun _ => ?_) (fun y => by simp [jc] at y)
    iterate 2 refine mj_T.pl rfl rfl rfl rfl ?_
    refine mj_T.lif (a := c) (b := 0) rfl rfl ⟨by omega, by omega⟩ ⟨by decide, by decide⟩ (fun hc2 => ?_) (fun hc2 => ?_)
    · simp only [jc, Bool.not_eq_true', Bool.not_eq_false', decide_eq_true_eq, decide_eq_false_iff_not] at hc2
      refine mj_T.pl rfl rfl rfl rfl ?_
      refine mj_T.if0 (a := 1) rfl ⟨by decide, by decide⟩ (fun _ => ?_) (fun y => by simp [jc] at y)
      refine mj_T.pl rfl rfl rfl rfl ?_
      refine mj_T.if0 (a := 1) rfl ⟨by decide, by decide⟩ (fun _ => ?_) (fun y => by simp [jc] at y)
      rw [if_neg (show ¬ c < 0 by omega), List.nil_append]
      exact mX_83_62 (w4 := 1) he hc q m x (by omega) (fun X2 h2 m2 x2 e2 => ⟨X2, h2, m2, x2, e2, rfl⟩)
    · simp only [jc, Bool.not_eq_true', Bool.not_eq_false', decide_eq_true_eq, decide_eq_false_iff_not] at hc2
      iterate 2 refine mj_T.pl rfl rfl rfl rfl ?_
      refine mj_T.eq (st2 := [.int (jn ((45 : Nat) : Int)), .ref t]) ?_ rfl rfl rfl rfl
      refine mj_T.call rfl rfl (Nat.le_of_ble_eq_true rfl) (Nat.le_of_ble_eq_true rfl) (mV_of m 17 q.1 (by decide) rfl (by decide) rfl _) rfl (mj_Ok.up (by omega) (mX_80 (D := 0) m q x (by (try simp only [List.length_append, List.length_cons, List.length_nil]); omega) (s := 45) (by decide))) (fun v' h6 hq => ?_) (fun i' h6 hq => by obtain ⟨_, _, _, _, _, hq⟩ := hq; cases hq)
      obtain ⟨X6, _, m6, x6, e6, hq⟩ := hq
      cases hq
      refine mj_T.pl rfl rfl rfl rfl ?_
      refine mj_T.pl rfl rfl rfl rfl ?_
      refine mj_T.if0 (a := 1) rfl ⟨by decide, by decide⟩ (fun _ => ?_) (fun y => by simp [jc] at y)
      rw [if_pos (show c < 0 by omega)]
      exact mX_83_62 (w4 := 1) he hc q m6 x6 (by simp only [List.length_append, List.length_cons, List.length_nil]; omega) (fun X2 h2 m2 x2 e2 => ⟨X2, h2, m2, by rw [List.append_assoc] at x2; exact x2, fun c c1 c2 => (e2 c c1 c2).trans (e6 c c1 c2), rfl⟩)
def fin (L : List Int) : List Int := if L = [] then [48] else L
theorem mX_82_loop (q : isT t) (kr : cK r = 2) (hr : sml (X r)) : ∀ k : Nat, k ≤ 13 → ∀ (L : List Int) (X1 : Nat → Nat → Int) (h : mj_H), jM g n V X1 h → txt X1 t L → (∀ c, c ≠ t → c ≠ t + 1 → X1 c = X c) → L.length + 26 * k ≤ 338 → mj_T (D + 3) mj_m82 10 [some (.ref t), some (.ref r), some (.int (jn ((k : Int) - 1)))] [] h (fun z => ∃ (X2 : Nat → Nat → Int) (h2 : mj_H), jM g n V X2 h2 ∧ txt X2 t (fin (rwL (X r) k L)) ∧ (∀ c, c ≠ t → c ≠ t + 1 → X2 c = X c) ∧ z = (.inl none, h2))
  | 0, hk, L, X1, h, m, x, e1, hl => by
    have x1 := x.1
    refine mj_T.pl rfl rfl rfl rfl ?_
    refine mj_T.if0 (a := (((0 : Nat) : Int) - 1)) rfl ⟨by omega, by omega⟩ (fun c1 => ?_) (fun c1 => ?_)
    · refine mj_T.pl rfl rfl rfl rfl ?_
      refine mT_get m 17 q.1 (by decide) rfl rfl ?_
      rw [x1]
      refine mj_T.if0 (a := ((L.length : Nat) : Int)) rfl ⟨by omega, by omega⟩ (fun c2 => ?_) (fun c2 => ?_)
      · simp only [jc, Bool.not_eq_true', Bool.not_eq_false', decide_eq_true_eq, decide_eq_false_iff_not] at c2
        refine mj_T.ret rfl rfl rfl ⟨_, _, m, ?_, e1, rfl⟩
        show txt X1 t (fin L)
        unfold fin
        rw [if_neg (fun y => by rw [y] at c2; exact c2 rfl)]
        exact x
      · simp only [jc, Bool.not_eq_true', Bool.not_eq_false', decide_eq_true_eq, decide_eq_false_iff_not] at c2
        have hL : L = [] := List.length_eq_zero_iff.mp (by omega)
        subst hL
        iterate 2 refine mj_T.pl rfl rfl rfl rfl ?_
        refine mj_T.eq (st2 := [.int (jn ((48 : Nat) : Int)), .ref t]) ?_ rfl rfl rfl rfl
        refine mj_T.call rfl rfl (Nat.le_of_ble_eq_true rfl) (Nat.le_of_ble_eq_true rfl) (mV_of m 17 q.1 (by decide) rfl (by decide) rfl _) rfl (mj_Ok.up (by omega) (mX_80 (D := 0) m q x (by (try simp only [List.length_append, List.length_cons, List.length_nil]); omega) (s := 48) (by decide))) (fun v' h5 hq => ?_) (fun i' h5 hq => by obtain ⟨_, _, _, _, _, hq⟩ := hq; cases hq)
        obtain ⟨X5, _, m5, x5, e5, hq⟩ := hq
        cases hq
        exact mj_T.ret rfl rfl rfl ⟨_, _, m5, x5, fun c c1 c2 => (e5 c c1 c2).trans (e1 c c1 c2), rfl⟩
    · exfalso
      simp only [jc, Bool.not_eq_true', Bool.not_eq_false', decide_eq_true_eq, decide_eq_false_iff_not] at c1
      omega
  | k + 1, hk, L, X1, h, m, x, e1, hl => by
    have er : X1 r = X r := e1 r (fun y => by rw [y, q.1] at kr; cases kr) (fun y => by rw [y, q.2.1] at kr; cases kr)
    have hb := hr k (by omega)
    rw [show (((k + 1 : Nat)) : Int) - 1 = ((k : Nat) : Int) by omega]
    refine mj_T.pl rfl rfl rfl rfl ?_
    refine mj_T.if0 (a := ((k : Nat) : Int)) rfl ⟨by omega, by omega⟩ (fun c1 => ?_) (fun c1 => ?_)
    · exfalso
      simp only [jc, Bool.not_eq_true', Bool.not_eq_false', decide_eq_true_eq, decide_eq_false_iff_not] at c1
      omega
    · iterate 2 refine mj_T.pl rfl rfl rfl rfl ?_
      refine mT_lald m kr rfl ⟨by omega, by omega⟩ ?_
      refine mj_T.eq (st2 := [.long (jl (X1 r k))]) ?_ rfl rfl rfl rfl
      rw [er]
      refine jT.lc 0 rfl rfl ?_
      refine mj_T.lif (a := (X r k)) (b := ((0 : Nat) : Int)) rfl rfl ⟨by omega, by omega⟩ ⟨by omega, by omega⟩ (fun c2 => ?_) (fun c2 => ?_)
      · simp only [jc, Bool.not_eq_true', Bool.not_eq_false', decide_eq_true_eq, decide_eq_false_iff_not] at c2
        refine mj_T.iinc rfl rfl ?_
        refine mj_T.pl rfl rfl rfl rfl ?_
        rw [show (k : Int) + (-1) = (k : Int) - 1 by omega]
        have k9 := mX_82_loop q kr hr k (by omega) L X1 h m x e1 (by omega)
        rw [show rwL (X r) (k + 1) L = rwL (X r) k (if X r k = 0 then L else L ++ (sgL (X r k) L.length ++ tmL (X r k) k)) from rfl, if_pos (by omega)]
        exact k9
      · simp only [jc, Bool.not_eq_true', Bool.not_eq_false', decide_eq_true_eq, decide_eq_false_iff_not] at c2
        iterate 3 refine mj_T.pl rfl rfl rfl rfl ?_
        refine mT_lald m kr rfl ⟨by omega, by omega⟩ ?_
        refine mj_T.eq (st2 := [.long (jl (X1 r k)), .ref t]) ?_ rfl rfl rfl rfl
        rw [er]
        refine mj_T.pl rfl rfl rfl rfl ?_
        refine mj_T.call rfl rfl (Nat.le_of_ble_eq_true rfl) (Nat.le_of_ble_eq_true rfl) (mV_of m 17 q.1 (by decide) rfl (by decide) rfl _) rfl (mj_Ok.up (by omega) (mX_83 (D := 0) (e := k) (c := X r k) (by omega) ⟨by omega, by omega⟩ q m x (by omega))) (fun v g3 hq => ?_) (fun i g3 hq => by obtain ⟨_, _, _, _, _, hq⟩ := hq; cases hq)
        obtain ⟨X4, _, m5, x5, e5, hq⟩ := hq
        cases hq
        refine mj_T.eq (pc2 := 30) (st2 := []) ?_ rfl rfl rfl rfl
        refine mj_T.iinc rfl rfl ?_
        refine mj_T.pl rfl rfl rfl rfl ?_
        rw [show (k : Int) + (-1) = (k : Int) - 1 by omega]
        have b1 := tmN_b (X r k) (show k < 13 by omega)
        have b2 := sgN_b (X r k) L.length
        have k9 := mX_82_loop q kr hr k (by omega) _ X4 _ m5 x5 (fun c c1 c2 => (e5 c c1 c2).trans (e1 c c1 c2)) (by rw [List.length_append, List.length_append, sgL_len, tmL_len]; omega)
        rw [show rwL (X r) (k + 1) L = rwL (X r) k (if X r k = 0 then L else L ++ (sgL (X r k) L.length ++ tmL (X r k) k)) from rfl, if_neg (by omega)]
        exact k9
theorem mX_82 (m : jM g n V X h) (q : isT t) (kr : cK r = 2) (hr : sml (X r)) : mj_Ok (D + 4) 82 [.ref t, .ref r] h (fun z => ∃ (X2 : Nat → Nat → Int) (h2 : mj_H), jM g n V X2 h2 ∧ txt X2 t (wrL (X r)) ∧ (∀ c, c ≠ t → c ≠ t + 1 → X2 c = X c) ∧ z = (.inl none, h2)) := by
  have nr : r ≠ t := fun y => by rw [y, q.1] at kr; cases kr
  refine mj_Ok.of (M := mj_m82) rfl rfl rfl ?_
  iterate 2 refine mj_T.pl rfl rfl rfl rfl ?_
  refine mT_put (v := 0) m 17 q.1 (by decide) rfl (by simp [jMf, xup]) (by simp [jMf]) rfl (fun h1 m2 => ?_)
  refine mj_T.pl rfl rfl rfl rfl ?_
  refine mT_llen m2 kr rfl ?_
  refine mj_T.pl rfl rfl rfl rfl ?_
  refine mj_T.isub (a := ((13 : Nat) : Int)) (b := 1) rfl ?_
  refine mj_T.pl (loc' := [some (.ref t), some (.ref r), some (.int (jn (((13 : Nat) : Int) - 1)))]) rfl rfl rfl rfl ?_
  exact mX_82_loop q kr hr 13 (by decide) [] _ _ m2 ⟨xup_at _ _ _ _, fun j c hj => by cases hj⟩ (fun c c1 c2 => xup_oth c1) (by decide)
theorem wrN_b (f : Nat → Int) : wrN f ≤ 338 := by
  have h := rlN_b f 13 0 (by decide)
  unfold wrN
  split <;> omega
theorem cv_144 (A : AS N u H) (s : cC N u H h) {a : Int} (ra : -2147483648 ≤ a ∧ a ≤ 2147483647) : mj_Ok 59 144 [.ref 1, .int (jn a)] h (cA (fun k => 1) (A_write N a)) := by
  obtain ⟨V, X, m, b, d, c, jx⟩ := cS.nr A s
  have jx : rjR X := jx
  refine mj_Ok.of (M := mj_m144) rfl rfl rfl ?_
  refine mj_T.pl rfl rfl rfl rfl ?_
  refine mT_get m 19 cq_d1 (by decide) rfl rfl ?_
  iterate 2 refine mj_T.pl rfl rfl rfl rfl ?_
  refine mj_T.call rfl rfl (Nat.le_of_ble_eq_true rfl) (Nat.le_of_ble_eq_true rfl) (mV_of m 19 cq_d1 (by decide) rfl (by decide) rfl _) rfl (mj_Ok.up (by omega) (mC_rowOf (D := 0) m (i := a) (by omega))) (fun v g1 hq => ?_) (fun i g1 hq => ?_)
  rotate_left
  · rcases hq with ⟨_, hq⟩ | ⟨hn, hq⟩
    · cases hq
    · cases hq
      exact Or.inl ⟨rfl, fun z => an.n hn⟩
  rcases hq with ⟨ka, hq⟩ | ⟨_, hq⟩
  rotate_left
  · cases hq
  cases hq
  refine mj_T.eq (pc2 := 9) (st2 := [.ref (4 + a.toNat), .ref 15]) ?_ rfl rfl rfl rfl
  refine mj_T.call rfl rfl (Nat.le_of_ble_eq_true rfl) (Nat.le_of_ble_eq_true rfl) (mV_of m 17 cq_d15 (by decide) rfl (by decide) rfl _) rfl (mj_Ok.up (by omega) (mX_82 (D := 0) m isT_15 (mK_rt a.toNat (by omega)) (c.sm A.1 ka))) (fun v g2 hq => ?_) (fun i g2 hq => ?_)
  rotate_left
  · obtain ⟨_, _, _, _, _, hq⟩ := hq; cases hq
  obtain ⟨X2, _, m2, x2, _, hq⟩ := hq
  cases hq
  have xl : X2 15 1 = ((wrN (X (4 + a.toNat)) : Nat) : Int) := x2.1.trans (congrArg (fun y : Nat => (y : Int)) (wrL_len _))
  have xb := wrN_b (X (4 + a.toNat))
  refine mj_T.eq (pc2 := 12) (st2 := []) ?_ rfl rfl rfl rfl
  refine mj_T.pl rfl rfl rfl rfl ?_
  refine mT_get m2 19 cq_d1 (by decide) rfl rfl ?_
  refine mT_get m2 17 cq_d15 (by decide) rfl rfl ?_
  exact mj_T.ret rfl rfl rfl ⟨_, ⟨by omega, by omega⟩, rfl, an.y ka (an.e (xl.trans (congrArg (fun y : Nat => (y : Int)) (wrN_cg (c.rw ka)))))⟩
end MTY
section RTY
variable {h : mj_H} {tm er : Int} {T : Nat → Int} {N0 : Nat → Int} {u0 : Nat} {H : Nat → Nat → Int}
theorem ra_wn1 {S N B X V : Nat → Int} {D v w : Nat} (hv : v < 1000000000000000000) (hw : w + 18 ≤ 600) (hs : rS (jvu S 15 (w : Int)) N B T X V h) {Q : mj_R → Prop} (hend : ∀ (w2 : Nat) (X2 : Nat → Int) (h2 : mj_H), w2 = w + nmN v → rS (jvu S 15 (w2 : Int)) N B T X2 V h2 → Q (.inl none, h2)) :
    ∀ (d k : Nat), k + d = 17 → kfd v d k = kfd v 17 0 → mj_T (D + 1) mj_m303 2 [some (.ref 0), some (.long (jl (v : Int))), none, some (.long (jl ((10 ^ k : Nat) : Int))), none] [] h Q := by
  intro d
  induction d with
  | zero =>
    intro k hk hkf
    have hk : k = 17 := by omega
    subst hk
    iterate 2 refine mj_T.pl rfl rfl rfl rfl ?_
    refine mj_T.ldiv (a := (v : Int)) (b := ((10 ^ 17 : Nat) : Int)) rfl ⟨by omega, by omega⟩ ⟨by omega, by omega⟩ (by omega) ?_
    rw [show (v : Int).tdiv ((10 ^ 17 : Nat) : Int) = ((v / 10 ^ 17 : Nat) : Int) from rfl]
    refine mj_T.pl rfl rfl rfl rfl ?_
    refine mj_T.lif (a := ((v / 10 ^ 17 : Nat) : Int)) (b := 10) rfl rfl ⟨by omega, by omega⟩ ⟨by decide, by decide⟩ (fun hc => ?_) (fun hc => ?_)
    · exact rp_wn2 (D := D) hv 18 w X h (by omega) hw hs (fun w2 X2 h2 e hs2 => hend w2 X2 h2 (by unfold nmN; rw [← hkf]; exact e) hs2)
    · simp only [jc, decide_eq_false_iff_not] at hc
      omega
  | succ d ih =>
    intro k hk hkf
    have hp0 : 0 < 10 ^ k := Nat.pow_pos (by decide)
    have hp1 : 10 ^ k ≤ 10 ^ 16 := Nat.pow_le_pow_right (by decide) (by omega)
    have hd := Nat.div_le_self v (10 ^ k)
    iterate 2 refine mj_T.pl rfl rfl rfl rfl ?_
    refine mj_T.ldiv (a := (v : Int)) (b := ((10 ^ k : Nat) : Int)) rfl ⟨by omega, by omega⟩ ⟨by omega, by omega⟩ (by omega) ?_
    rw [show (v : Int).tdiv ((10 ^ k : Nat) : Int) = ((v / 10 ^ k : Nat) : Int) from rfl]
    generalize hq9 : v / 10 ^ k = q at hd ⊢
    refine mj_T.pl rfl rfl rfl rfl ?_
    refine mj_T.lif (a := (q : Int)) (b := 10) rfl rfl ⟨by omega, by omega⟩ ⟨by decide, by decide⟩ (fun hc => ?_) (fun hc => ?_)
    · have k2 := rp_wn2 (D := D) (S := S) (N := N) (B := B) (V := V) (T := T) hv (Q := Q) (k + 1) w X h (by omega) (by omega) hs (fun w2 X2 h2 e hs2 => hend w2 X2 h2 (by unfold nmN; rw [← hkf]; show w2 = w + ((if v / 10 ^ k < 10 then k else kfd v d (k + 1)) + 1); rw [if_pos (by simp only [jc, Bool.not_eq_true', Bool.not_eq_false', decide_eq_true_eq, decide_eq_false_iff_not] at hc; omega)]; exact e) hs2)
      rw [if_neg (by omega), Nat.add_sub_cancel] at k2
      exact k2
    · iterate 2 refine mj_T.pl rfl rfl rfl rfl ?_
      refine mj_T.lmul (b := 10) rfl ?_
      rw [show ((10 ^ k : Nat) : Int) * 10 = ((10 ^ (k + 1) : Nat) : Int) by rw [Nat.pow_succ]; omega]
      iterate 2 refine mj_T.pl rfl rfl rfl rfl ?_
      exact ih (k + 1) (by omega) (by rw [← hkf]; show _ = (if v / 10 ^ k < 10 then k else kfd v d (k + 1)); rw [if_neg (by simp only [jc, Bool.not_eq_true', Bool.not_eq_false', decide_eq_true_eq, decide_eq_false_iff_not] at hc; omega)])
theorem ra_writesNumber {S N B X V : Nat → Int} {D v w : Nat} (hv : v < 1000000000000000000) (hw : w + 18 ≤ 600) (hs : rS (jvu S 15 (w : Int)) N B T X V h) : mj_Ok (D + 2) 303 [.ref 0, .long (jl (v : Int))] h (fun r => ∃ (w2 : Nat) (X2 : Nat → Int) (h2 : mj_H), w2 = w + nmN v ∧ rS (jvu S 15 (w2 : Int)) N B T X2 V h2 ∧ r = (.inl none, h2)) := by
  refine mj_Ok.of (M := mj_m303) rfl rfl rfl ?_
  iterate 2 refine mj_T.pl rfl rfl rfl rfl ?_
  exact ra_wn1 (D := D) hv hw hs (fun w2 X2 h2 e hs2 => ⟨w2, X2, h2, e, hs2, rfl⟩) 17 0 (by omega) rfl
theorem ra_writesTerm {S N B X V : Nat → Int} {D w e : Nat} {c : Int} (hc : -999999999999999999 ≤ c ∧ c ≤ 999999999999999999) (he : e ≤ 12) (hw : w + 40 ≤ 600) (hs : rS (jvu S 15 (w : Int)) N B T X V h) : mj_Ok (D + 3) 304 [.ref 0, .long (jl c), .int (jn (e : Int))] h (fun r => ∃ (w2 : Nat) (X2 : Nat → Int) (h2 : mj_H), w2 = w + tmN c e ∧ rS (jvu S 15 (w2 : Int)) N B T X2 V h2 ∧ r = (.inl none, h2)) := by
  refine mj_Ok.of (M := mj_m304) rfl rfl rfl ?_
  have nb1 := nmN_b c.natAbs
  have nb2 := nmN_b e
  have t51 : ∀ (w3 : Nat) (X3 : Nat → Int) (h3 : mj_H), (w ≤ w3 ∧ w3 ≤ w + 20) → rS (jvu S 15 (w3 : Int)) N B T X3 V h3 → w + tmN c e = w3 + (if 1 < e then nmN e + 1 else 0) → mj_T (D + 2) mj_m304 51 [some (.ref 0), some (.long (jl c)), none, some (.int (jn (e : Int))), some (.long (jl ((c.natAbs : Nat) : Int))), none] [] h3 (fun r => ∃ (w2 : Nat) (X2 : Nat → Int) (h2 : mj_H), w2 = w + tmN c e ∧ rS (jvu S 15 (w2 : Int)) N B T X2 V h2 ∧ r = (.inl none, h2)) := fun w3 X3 h3 hb3 hs3 hw9 => by
    iterate 2 refine mj_T.pl rfl rfl rfl rfl ?_
    refine mj_T.icmp (a := (e : Int)) (b := 1) rfl ⟨by omega, by omega⟩ ⟨by decide, by decide⟩ (fun hc1 => ?_) (fun hc1 => ?_)
    · exact mj_T.ret rfl rfl rfl ⟨w3, X3, h3, by simp only [jc, Bool.not_eq_true', Bool.not_eq_false', decide_eq_true_eq, decide_eq_false_iff_not] at hc1; rw [if_neg (show ¬ 1 < e by omega)] at hw9; omega, hs3, rfl⟩
    iterate 2 refine mj_T.pl rfl rfl rfl rfl ?_
    refine mj_T.call (ins := .invokevirtual 396) rfl rfl (Nat.le_of_ble_eq_true rfl) (Nat.le_of_ble_eq_true rfl) (by simp [mj_recv, rS_f hs3]) rfl (mj_Ok.up (by omega) (rp_writes (D := 0) (w := w3) (by omega) hs3)) (fun v' h4 hq' => ?_) (fun i h' hq' => by obtain ⟨_, _, _, h⟩ := hq'; cases h)
    obtain ⟨X4, _, hs4, hq'⟩ := hq'
    cases hq'
    iterate 2 refine mj_T.pl rfl rfl rfl rfl ?_
    refine mj_T.i2l rfl ⟨by omega, by omega⟩ ?_
    refine mj_T.call (ins := .invokevirtual 399) rfl rfl (Nat.le_of_ble_eq_true rfl) (Nat.le_of_ble_eq_true rfl) (by simp [mj_recv, rS_f hs4]) rfl (mj_Ok.up (by omega) (ra_writesNumber (D := 0) (v := e) (w := w3 + 1) (by omega) (by omega) hs4)) (fun v' h5 hq' => ?_) (fun i h' hq' => by obtain ⟨_, _, _, _, _, h⟩ := hq'; cases h)
    obtain ⟨w5, X5, _, wb5, hs5, hq'⟩ := hq'
    cases hq'
    exact mj_T.ret rfl rfl rfl ⟨w5, X5, _, by simp only [jc, Bool.not_eq_true', Bool.not_eq_false', decide_eq_true_eq, decide_eq_false_iff_not] at hc1; rw [if_pos (show 1 < e by omega)] at hw9; omega, hs5, rfl⟩
  have t41 : ∀ (w3 : Nat) (X3 : Nat → Int) (h3 : mj_H), (w ≤ w3 ∧ w3 ≤ w + 19) → rS (jvu S 15 (w3 : Int)) N B T X3 V h3 → w + tmN c e = w3 + ((if 0 < e then 1 else 0) + (if 1 < e then nmN e + 1 else 0)) → mj_T (D + 2) mj_m304 41 [some (.ref 0), some (.long (jl c)), none, some (.int (jn (e : Int))), some (.long (jl ((c.natAbs : Nat) : Int))), none] [] h3 (fun r => ∃ (w2 : Nat) (X2 : Nat → Int) (h2 : mj_H), w2 = w + tmN c e ∧ rS (jvu S 15 (w2 : Int)) N B T X2 V h2 ∧ r = (.inl none, h2)) := fun w3 X3 h3 hb3 hs3 hw9 => by
    refine mj_T.pl rfl rfl rfl rfl ?_
    refine mj_T.if0 (a := (e : Int)) rfl ⟨by omega, by omega⟩ (fun hc1 => ?_) (fun hc1 => ?_)
    · exact t51 w3 X3 h3 ⟨by omega, by omega⟩ hs3 (by simp only [jc, Bool.not_eq_true', Bool.not_eq_false', decide_eq_true_eq, decide_eq_false_iff_not] at hc1; rw [if_neg (show ¬ 0 < e by omega)] at hw9; omega)
    iterate 2 refine mj_T.pl rfl rfl rfl rfl ?_
    refine mj_T.call (ins := .invokevirtual 396) rfl rfl (Nat.le_of_ble_eq_true rfl) (Nat.le_of_ble_eq_true rfl) (by simp [mj_recv, rS_f hs3]) rfl (mj_Ok.up (by omega) (rp_writes (D := 0) (w := w3) (by omega) hs3)) (fun v' h4 hq' => ?_) (fun i h' hq' => by obtain ⟨_, _, _, h⟩ := hq'; cases h)
    obtain ⟨X4, _, hs4, hq'⟩ := hq'
    cases hq'
    exact t51 (w3 + 1) X4 h4 ⟨by omega, by omega⟩ hs4 (by simp only [jc, Bool.not_eq_true', Bool.not_eq_false', decide_eq_true_eq, decide_eq_false_iff_not] at hc1; rw [if_pos (show 0 < e by omega)] at hw9; omega)
  have t25 : ¬ (c.natAbs = 1 ∧ e ≠ 0) → mj_T (D + 2) mj_m304 25 [some (.ref 0), some (.long (jl c)), none, some (.int (jn (e : Int))), some (.long (jl ((c.natAbs : Nat) : Int))), none] [] h (fun r => ∃ (w2 : Nat) (X2 : Nat → Int) (h2 : mj_H), w2 = w + tmN c e ∧ rS (jvu S 15 (w2 : Int)) N B T X2 V h2 ∧ r = (.inl none, h2)) := by
    intro hno
    iterate 2 refine mj_T.pl rfl rfl rfl rfl ?_
    refine mj_T.call (ins := .invokevirtual 399) rfl rfl (Nat.le_of_ble_eq_true rfl) (Nat.le_of_ble_eq_true rfl) (by simp [mj_recv, rS_f hs]) rfl (mj_Ok.up (by omega) (ra_writesNumber (D := 0) (v := c.natAbs) (w := w) (by omega) (by omega) hs)) (fun v' h4 hq' => ?_) (fun i h' hq' => by obtain ⟨_, _, _, _, _, h⟩ := hq'; cases h)
    obtain ⟨w4, X4, _, wb4, hs4, hq'⟩ := hq'
    cases hq'
    refine mj_T.pl rfl rfl rfl rfl ?_
    refine mj_T.if0 (a := (e : Int)) rfl ⟨by omega, by omega⟩ (fun hc1 => ?_) (fun hc1 => ?_)
    · exact t41 w4 X4 h4 ⟨by omega, by omega⟩ hs4 (by simp only [jc, Bool.not_eq_true', Bool.not_eq_false', decide_eq_true_eq, decide_eq_false_iff_not] at hc1; unfold tmN; rw [if_neg hno, if_neg (show ¬ 0 < e by omega)]; omega)
    iterate 2 refine mj_T.pl rfl rfl rfl rfl ?_
    refine mj_T.call (ins := .invokevirtual 396) rfl rfl (Nat.le_of_ble_eq_true rfl) (Nat.le_of_ble_eq_true rfl) (by simp [mj_recv, rS_f hs4]) rfl (mj_Ok.up (by omega) (rp_writes (D := 0) (w := w4) (by omega) hs4)) (fun v' h5 hq' => ?_) (fun i h' hq' => by obtain ⟨_, _, _, h⟩ := hq'; cases h)
    obtain ⟨X5, _, hs5, hq'⟩ := hq'
    cases hq'
    exact t41 (w4 + 1) X5 h5 ⟨by omega, by omega⟩ hs5 (by simp only [jc, Bool.not_eq_true', Bool.not_eq_false', decide_eq_true_eq, decide_eq_false_iff_not] at hc1; unfold tmN; rw [if_neg hno, if_pos (show 0 < e by omega)]; omega)
  have t12 : ∀ z : Int, z = ((c.natAbs : Nat) : Int) → mj_T (D + 2) mj_m304 12 [some (.ref 0), some (.long (jl c)), none, some (.int (jn (e : Int))), none, none] [.long (jl z)] h (fun r => ∃ (w2 : Nat) (X2 : Nat → Int) (h2 : mj_H), w2 = w + tmN c e ∧ rS (jvu S 15 (w2 : Int)) N B T X2 V h2 ∧ r = (.inl none, h2)) := fun z hz => by
    subst hz
    iterate 3 refine mj_T.pl rfl rfl rfl rfl ?_
    refine mj_T.lif (a := ((c.natAbs : Nat) : Int)) (b := 1) rfl rfl ⟨by omega, by omega⟩ ⟨by decide, by decide⟩ (fun hc1 => ?_) (fun hc1 => ?_)
    · exact t25 (fun y => by simp only [jc, Bool.not_eq_true', Bool.not_eq_false', decide_eq_true_eq, decide_eq_false_iff_not] at hc1; omega)
    refine mj_T.pl rfl rfl rfl rfl ?_
    refine mj_T.if0 (a := (e : Int)) rfl ⟨by omega, by omega⟩ (fun hc2 => ?_) (fun hc2 => ?_)
    · exact t41 w X h ⟨by omega, by omega⟩ hs (by simp only [jc, Bool.not_eq_true', Bool.not_eq_false', decide_eq_true_eq, decide_eq_false_iff_not] at hc1 hc2; unfold tmN; rw [if_pos (show c.natAbs = 1 ∧ e ≠ 0 from ⟨by omega, by omega⟩)]; omega)
    · exact t25 (fun y => y.2 (by simp only [jc, Bool.not_eq_true', Bool.not_eq_false', decide_eq_true_eq, decide_eq_false_iff_not] at hc2; omega))
  iterate 2 refine mj_T.pl rfl rfl rfl rfl ?_
  refine mj_T.lif (a := c) (b := 0) rfl rfl ⟨by omega, by omega⟩ ⟨by decide, by decide⟩ (fun hc1 => ?_) (fun hc1 => ?_)
  · simp only [jc, decide_eq_true_eq] at hc1
    refine mj_T.pl rfl rfl rfl rfl ?_
    exact t12 c (by omega)
  · simp only [jc, decide_eq_false_iff_not] at hc1
    refine mj_T.pl rfl rfl rfl rfl ?_
    refine mj_T.lneg rfl ?_
    refine mj_T.pl rfl rfl rfl rfl ?_
    exact t12 (-c) (by omega)
theorem tmN_p (c : Int) (e : Nat) : 1 ≤ tmN c e := by
  have h := nmN_b c.natAbs
  unfold tmN
  by_cases q : c.natAbs = 1 ∧ e ≠ 0
  · rw [if_pos q, if_pos (show 0 < e by omega)]
    omega
  · rw [if_neg q]
    omega
theorem wrN_ne {f : Nat → Int} {k : Nat} (h : fdg f 13 = k + 1) : wrN f = rlN f (k + 1) 0 := by
  have hl := fdg_le f 13
  have e := rlN_z (f := f) (w := 0) (k := k + 1) (13 - (k + 1)) (fun j a b => fdg_zero f 13 j (by omega) (by omega))
  rw [show k + 1 + (13 - (k + 1)) = 13 by omega] at e
  have hn := fdg_ne f 13 (by omega)
  rw [h, Nat.add_sub_cancel] at hn
  have p : 1 ≤ rlN f (k + 1) 0 := by
    show 1 ≤ rlN f k (if f k = 0 then 0 else 0 + (sgN (f k) 0 + tmN (f k) k))
    rw [if_neg hn]
    have h1 := tmN_p (f k) k
    have h2 := (rlN_b f k (0 + (sgN (f k) 0 + tmN (f k) k)) (by omega)).1
    omega
  unfold wrN
  rw [e, if_neg (by omega)]
theorem wrN_0 {f : Nat → Int} (h : fdg f 13 = 0) : wrN f = 1 := by
  have e := rlN_z (f := f) (w := 0) (k := 0) 13 (fun j a b => fdg_zero f 13 j (by omega) (by omega))
  have e : rlN f 13 0 = 0 := e
  unfold wrN
  rw [if_pos e]
theorem ra_wr_loop {S N B V : Nat → Int} {a : Nat} {d : Int} (ha : a ≤ 5) (hd : -1 ≤ d ∧ d ≤ 12) (K : jKx N0 u0 H tm er S N B T) (e3 : S 3 = 0) {f : Nat → Int} {k9 : Nat} (hf : ∀ j, j < 13 → N (a * 13 + j) = f j) (hA : A_write N0 (a : Int) 0 ((wrN f : Nat) : Int)) (hk9 : d = (k9 : Int) - 1) (hf0 : ∀ j, j + 1 = k9 → f j ≠ 0) :
    ∀ (m w : Nat) (X : Nat → Int) (h : mj_H) (l4 : Option Value), m ≤ 13 → w + 43 * m ≤ 600 → wrN f = rlN f m w → m ≤ k9 → (m = k9 → 1 ≤ m → w = 0) → (m < k9 → 1 ≤ w) → rS (jvu S 15 (w : Int)) N B T X V h → mj_T 39 mj_m305 41 [some (.ref 0), some (.int (jn (a : Int))), some (.int (jn d)), some (.int (jn ((m : Int) - 1))), l4, none] [] h (rIa (A_write N0 (a : Int)) N0 u0 H tm er T) := by
  intro m
  induction m with
  | zero =>
    intro w X h l4 hm hw g1 g2 g3 g4 hs
    refine mj_T.pl rfl rfl rfl rfl ?_
    refine mj_T.if0 (a := ((0 : Nat) : Int) - 1) rfl ⟨by decide, by decide⟩ (fun hc => ?_) (fun hc => ?_)
    · refine mj_T.pl rfl rfl rfl rfl ?_
      refine rT_get (v := .int (jn (w : Int))) hs rfl (by show some (Value.int (jn (jvu S 15 (w : Int) 15))) = _; rw [jvu_at]) ?_
      exact mj_T.ret rfl rfl rfl ⟨0, (w : Int), h, by rw [show w = wrN f from g1.symm]; exact hA, ⟨by omega, by omega⟩, rfl, ⟨_, _, _, _, _, hs, K.put15 (by omega), (jvu_ne _ _ _ (by decide)).trans e3⟩⟩
    · simp [jc] at hc
  | succ m ih =>
    intro w X h l4 hm hw g1 g2 g3 g4 hs
    refine mj_T.pl rfl rfl rfl rfl ?_
    refine mj_T.if0 (a := ((m + 1 : Nat) : Int) - 1) rfl ⟨by omega, by omega⟩ (fun hc => ?_) (fun hc => ?_)
    · simp only [jc, decide_eq_true_eq] at hc
      omega
    rw [show ((m + 1 : Nat) : Int) - 1 = (m : Int) by omega]
    have hN := K.1.1.1 (a * 13 + m) (by omega)
    have hfm := hf m (by omega)
    have g1 : wrN f = rlN f m (if f m = 0 then w else w + (sgN (f m) w + tmN (f m) m)) := g1
    have tb := tmN_b (f m) (show m < 13 by omega)
    have tp := tmN_p (f m) m
    refine mj_T.pl rfl rfl rfl rfl ?_
    refine rT_get hs rfl rfl ?_
    iterate 2 refine mj_T.pl rfl rfl rfl rfl ?_
    refine mj_T.imul (a := (a : Int)) (b := 13) rfl ?_
    refine mj_T.pl rfl rfl rfl rfl ?_
    refine mj_T.iadd rfl ?_
    rw [show (a : Int) * 13 + (m : Int) = ((a * 13 + m : Nat) : Int) by omega]
    refine rT_ldN hs rfl ⟨by omega, by omega⟩ ?_
    rw [Int.toNat_natCast]
    iterate 3 refine mj_T.pl rfl rfl rfl rfl ?_
    have t126 : ∀ (w2 : Nat) (X2 : Nat → Int) (h2 : mj_H), w2 ≤ w + 43 → wrN f = rlN f m w2 → 1 ≤ w2 → rS (jvu S 15 (w2 : Int)) N B T X2 V h2 → mj_T 39 mj_m305 126 [some (.ref 0), some (.int (jn (a : Int))), some (.int (jn d)), some (.int (jn (m : Int))), some (.long (jl (N (a * 13 + m)))), none] [] h2 (rIa (A_write N0 (a : Int)) N0 u0 H tm er T) := fun w2 X2 h2 hw2 k1 k2 hs2 => by
      refine mj_T.iinc (a := (m : Int)) rfl rfl ?_
      refine mj_T.pl rfl rfl rfl rfl ?_
      exact ih w2 X2 h2 _ (by omega) (by omega) k1 (by omega) (fun y => absurd y (by omega)) (fun _ => k2) hs2
    have t119 : ∀ (w2 : Nat) (X2 : Nat → Int) (h2 : mj_H), w2 ≤ w + 3 → wrN f = rlN f m (w2 + tmN (f m) m) → rS (jvu S 15 (w2 : Int)) N B T X2 V h2 → mj_T 39 mj_m305 119 [some (.ref 0), some (.int (jn (a : Int))), some (.int (jn d)), some (.int (jn (m : Int))), some (.long (jl (N (a * 13 + m)))), none] [] h2 (rIa (A_write N0 (a : Int)) N0 u0 H tm er T) := fun w2 X2 h2 hw2 k1 hs2 => by
      iterate 3 refine mj_T.pl rfl rfl rfl rfl ?_
      refine mj_T.call (ins := .invokevirtual 403) rfl rfl (Nat.le_of_ble_eq_true rfl) (Nat.le_of_ble_eq_true rfl) (by simp [mj_recv, rS_f hs2]) rfl (mj_Ok.up (by decide) (ra_writesTerm (D := 0) (w := w2) (e := m) hN (by omega) (by omega) hs2)) (fun v' h3 hq' => ?_) (fun i h' hq' => by obtain ⟨_, _, _, _, _, h⟩ := hq'; cases h)
      obtain ⟨w3, X3, _, wb3, hs3, hq'⟩ := hq'
      cases hq'
      rw [hfm] at wb3
      exact t126 w3 X3 _ (by omega) (by rw [wb3]; exact k1) (by omega) hs3
    refine mj_T.lif (a := N (a * 13 + m)) (b := 0) rfl rfl ⟨by omega, by omega⟩ ⟨by decide, by decide⟩ (fun hc2 => ?_) (fun hc2 => ?_)
    rotate_left
    · refine mj_T.pl rfl rfl rfl rfl ?_
      simp only [jc, Bool.not_eq_true', Bool.not_eq_false', decide_eq_true_eq, decide_eq_false_iff_not] at hc2
      have hz : f m = 0 := by omega
      rw [if_pos hz] at g1
      have hne : m + 1 ≠ k9 := fun y => hf0 m y hz
      exact t126 w X h (by omega) g1 (g4 (by omega)) hs
    simp only [jc, Bool.not_eq_true', Bool.not_eq_false', decide_eq_true_eq, decide_eq_false_iff_not] at hc2
    have hz : f m ≠ 0 := by omega
    rw [if_neg hz] at g1
    iterate 2 refine mj_T.pl rfl rfl rfl rfl ?_
    refine mj_T.icmp (a := (m : Int)) (b := d) rfl ⟨by omega, by omega⟩ ⟨by omega, by omega⟩ (fun hc3 => ?_) (fun hc3 => ?_)
    · iterate 2 refine mj_T.pl rfl rfl rfl rfl ?_
      refine mj_T.lif (a := N (a * 13 + m)) (b := 0) rfl rfl ⟨by omega, by omega⟩ ⟨by decide, by decide⟩ (fun hc4 => ?_) (fun hc4 => ?_)
      · simp only [jc, Bool.not_eq_true', Bool.not_eq_false', decide_eq_true_eq, decide_eq_false_iff_not] at hc3 hc4
        have hw0 : w = 0 := g3 (by omega) (by omega)
        unfold sgN at g1
        rw [if_pos hw0, if_neg (by omega), Nat.zero_add] at g1
        exact t119 w X h (by omega) g1 hs
      iterate 2 refine mj_T.pl rfl rfl rfl rfl ?_
      refine mj_T.call (ins := .invokevirtual 396) rfl rfl (Nat.le_of_ble_eq_true rfl) (Nat.le_of_ble_eq_true rfl) (by simp [mj_recv, rS_f hs]) rfl (mj_Ok.up (by omega) (rp_writes (D := 0) (w := w) (by omega) hs)) (fun v' h5 hq' => ?_) (fun i h' hq' => by obtain ⟨_, _, _, h⟩ := hq'; cases h)
      obtain ⟨X5, _, hs5, hq'⟩ := hq'
      cases hq'
      simp only [jc, Bool.not_eq_true', Bool.not_eq_false', decide_eq_true_eq, decide_eq_false_iff_not] at hc3 hc4
      have hw0 : w = 0 := g3 (by omega) (by omega)
      unfold sgN at g1
      rw [if_pos hw0, if_pos (by omega), ← Nat.add_assoc] at g1
      exact t119 (w + 1) X5 h5 (by omega) g1 hs5
    iterate 2 refine mj_T.pl rfl rfl rfl rfl ?_
    refine mj_T.call (ins := .invokevirtual 396) rfl rfl (Nat.le_of_ble_eq_true rfl) (Nat.le_of_ble_eq_true rfl) (by simp [mj_recv, rS_f hs]) rfl (mj_Ok.up (by omega) (rp_writes (D := 0) (w := w) (by omega) hs)) (fun v' h5 hq' => ?_) (fun i h' hq' => by obtain ⟨_, _, _, h⟩ := hq'; cases h)
    obtain ⟨X5, _, hs5, hq'⟩ := hq'
    cases hq'
    iterate 3 refine mj_T.pl rfl rfl rfl rfl ?_
    have t94 : ∀ c : Int, mj_T 39 mj_m305 94 [some (.ref 0), some (.int (jn (a : Int))), some (.int (jn d)), some (.int (jn (m : Int))), some (.long (jl (N (a * 13 + m)))), none] [.int (jn c), .ref 0] h5 (rIa (A_write N0 (a : Int)) N0 u0 H tm er T) := fun c => by
      refine mj_T.call (ins := .invokevirtual 396) rfl rfl (Nat.le_of_ble_eq_true rfl) (Nat.le_of_ble_eq_true rfl) (by simp [mj_recv, rS_f hs5]) rfl (mj_Ok.up (by omega) (rp_writes (D := 0) (w := w + 1) (by omega) hs5)) (fun v' h6 hq' => ?_) (fun i h' hq' => by obtain ⟨_, _, _, h⟩ := hq'; cases h)
      obtain ⟨X6, _, hs6, hq'⟩ := hq'
      cases hq'
      iterate 2 refine mj_T.pl rfl rfl rfl rfl ?_
      refine mj_T.call (ins := .invokevirtual 396) rfl rfl (Nat.le_of_ble_eq_true rfl) (Nat.le_of_ble_eq_true rfl) (by simp [mj_recv, rS_f hs6]) rfl (mj_Ok.up (by omega) (rp_writes (D := 0) (w := w + 1 + 1) (by omega) hs6)) (fun v' h7 hq' => ?_) (fun i h' hq' => by obtain ⟨_, _, _, h⟩ := hq'; cases h)
      obtain ⟨X7, _, hs7, hq'⟩ := hq'
      cases hq'
      refine mj_T.pl rfl rfl rfl rfl ?_
      simp only [jc, Bool.not_eq_true', Bool.not_eq_false', decide_eq_true_eq, decide_eq_false_iff_not] at hc3
      have hw1 : 1 ≤ w := g4 (by omega)
      unfold sgN at g1
      rw [if_neg (by omega), ← Nat.add_assoc] at g1
      exact t119 (w + 1 + 1 + 1) X7 h7 (by omega) g1 hs7
    refine mj_T.lif (a := N (a * 13 + m)) (b := 0) rfl rfl ⟨by omega, by omega⟩ ⟨by decide, by decide⟩ (fun hc4 => ?_) (fun hc4 => ?_)
    · refine mj_T.pl rfl rfl rfl rfl ?_
      exact t94 43
    · iterate 2 refine mj_T.pl rfl rfl rfl rfl ?_
      exact t94 45
theorem ra_write {x : Int} (hx : jr x) (hI : jIx N0 u0 H tm er T h) : mj_Ok 40 305 [.ref 0, .int (jn x)] h (rIa (A_write N0 x) N0 u0 H tm er T) := by
  refine mj_Ok.of (M := mj_m305) rfl rfl rfl ?_
  obtain ⟨S, N, B, X, V, hs, K⟩ := hI
  iterate 2 refine mj_T.pl rfl rfl rfl rfl ?_
  refine rT_put (v := 0) hs rfl rfl (by decide) rfl (fun g1 hs1 => ?_)
  have K1 := K.put (k := 3) (v := 0) ⟨by decide, by decide⟩ (by decide) (by decide) (by decide) (by decide) (by decide)
  have e1 : jvu S 3 0 3 = 0 := jvu_at S 3 0
  generalize jvu S 3 0 = S1 at hs1 K1 e1
  refine mj_T.pl rfl rfl rfl rfl ?_
  refine mj_T.call (ins := .invokestatic 181) rfl rfl (Nat.le_of_ble_eq_true rfl) (Nat.le_of_ble_eq_true rfl) rfl rfl (mj_Ok.up (by decide) (rp_isRegister (D := 0) hx)) (fun v' h' hq' => ?_) (fun i h' hq' => by rcases hq' with ⟨_, _, h⟩ | ⟨_, h⟩ <;> cases h)
  rcases hq' with ⟨x1, x2, hq'⟩ | ⟨cn, hq'⟩
  case' inr =>
    cases hq'
    refine mj_T.if0 (a := 0) rfl ⟨by decide, by decide⟩ (fun hc => ?_) (fun hc => ?_)
    · simp [jc] at hc
    iterate 2 refine mj_T.pl rfl rfl rfl rfl ?_
    refine mj_T.call (ins := .invokevirtual 198) rfl rfl (Nat.le_of_ble_eq_true rfl) (Nat.le_of_ble_eq_true rfl) (by simp [mj_recv, rS_f hs1]) rfl (mj_Ok.up (by decide) (rp_fails (D := 0) (c := 1) hs1)) (fun v' g2 hq' => ?_) (fun i h' hq' => by obtain ⟨_, _, h⟩ := hq'; cases h)
    obtain ⟨_, hs2, hq'⟩ := hq'
    cases hq'
    exact mj_T.ret rfl rfl rfl ⟨1, 0, g2, an.n (by omega), ⟨by decide, by decide⟩, rfl, ⟨_, N, B, X, V, hs2, K1.put ⟨by decide, by decide⟩ (by decide) (by decide) (by decide) (by decide) (by decide), jvu_at _ _ _⟩⟩
  cases hq'
  refine mj_T.if0 (a := 1) rfl ⟨by decide, by decide⟩ (fun hc => ?_) (fun hc => ?_)
  rotate_left
  · simp [jc] at hc
  obtain ⟨x, rfl⟩ := Int.eq_ofNat_of_zero_le x1
  iterate 2 refine mj_T.pl rfl rfl rfl rfl ?_
  refine rT_put (v := ((0 : Nat) : Int)) hs1 rfl rfl (by decide) rfl (fun h2 hs2 => ?_)
  have hd := jdg_le N x 13
  iterate 2 refine mj_T.pl rfl rfl rfl rfl ?_
  refine mj_T.call (ins := .invokevirtual 185) rfl rfl (Nat.le_of_ble_eq_true rfl) (Nat.le_of_ble_eq_true rfl) (by simp [mj_recv, rS_f hs2]) rfl (mj_Ok.up (by decide) (rp_degreeIn (D := 0) (r := x) (by omega) K1.nR hs2)) (fun v' h' hq' => ?_) (fun i h' hq' => by cases hq')
  cases hq'
  iterate 2 refine mj_T.pl rfl rfl rfl rfl ?_
  have w0 : ∀ e, e < 13 → N (x * 13 + e) = rwN N0 (x : Int) e := fun e he => rwN_at K1.2.1 (by omega) he
  have p0 : fdg (rwN N0 (x : Int)) 13 = jdg N x 13 := (fdg_congr (f' := fun e => N (x * 13 + e)) 13 w0).symm.trans (fdg_jdg N x 13)
  have t39 : ∀ (w : Nat) (X2 : Nat → Int) (h3 : mj_H), w ≤ 1 → (jdg N x 13 = 0 → w = 1) → (jdg N x 13 ≠ 0 → w = 0) → rS (jvu S1 15 (w : Int)) N B T X2 V h3 → mj_T 39 mj_m305 39 [some (.ref 0), some (.int (jn (x : Int))), some (.int (jn ((jdg N x 13 : Int) - 1))), none, none, none] [] h3 (rIa (A_write N0 x) N0 u0 H tm er T) := fun w X2 h3 hw y1 y2 hs3 => by
    iterate 2 refine mj_T.pl rfl rfl rfl rfl ?_
    obtain ⟨m, hm⟩ : ∃ m, jdg N x 13 = m := ⟨_, rfl⟩
    rw [hm] at hd p0 y1 y2 ⊢
    refine ra_wr_loop (d := (m : Int) - 1) (by omega) ⟨by omega, by omega⟩ K1 e1 (f := rwN N0 (x : Int)) (k9 := m) w0 (an.y ⟨by omega, by omega⟩ (an.e rfl)) rfl (fun j hj => ?_) m w X2 h3 none hd (by omega) ?_ (Nat.le_refl _) (fun _ y => y2 (by omega)) (fun y => absurd y (by omega)) hs3
    · have hn := fdg_ne (rwN N0 (x : Int)) 13 (by omega)
      rw [p0, ← hj, Nat.add_sub_cancel] at hn
      exact hn
    · cases m with
      | zero =>
        rw [y1 rfl]
        exact wrN_0 p0
      | succ m' =>
        rw [y2 (by omega)]
        exact wrN_ne p0
  refine mj_T.if0 (a := (jdg N x 13 : Int) - 1) rfl ⟨by omega, by omega⟩ (fun hc => ?_) (fun hc => ?_)
  · simp only [jc, Bool.not_eq_true', Bool.not_eq_false', decide_eq_true_eq, decide_eq_false_iff_not] at hc
    exact t39 0 X h2 (by decide) (fun y => absurd y (by omega)) (fun _ => rfl) hs2
  iterate 2 refine mj_T.pl rfl rfl rfl rfl ?_
  refine mj_T.call (ins := .invokevirtual 396) rfl rfl (Nat.le_of_ble_eq_true rfl) (Nat.le_of_ble_eq_true rfl) (by simp [mj_recv, rS_f hs2]) rfl (mj_Ok.up (by omega) (rp_writes (D := 0) (w := 0) (by omega) hs2)) (fun v' h5 hq' => ?_) (fun i h' hq' => by obtain ⟨_, _, _, h⟩ := hq'; cases h)
  obtain ⟨X5, _, hs5, hq'⟩ := hq'
  cases hq'
  simp only [jc, Bool.not_eq_true', Bool.not_eq_false', decide_eq_true_eq, decide_eq_false_iff_not] at hc
  exact t39 1 X5 h5 (by decide) (fun _ => rfl) (fun y => absurd y (by omega)) hs5
end RTY
section RTZ
variable {h : mj_H} {u : Nat} {N : Nat → Int} {H : Nat → Nat → Int} {tm er : Int} {T : Nat → Int}
theorem ga_write {x : Int} (jx : jr x) (I : jIx N u H tm er T h) : mj_Ok 60 305 [.ref 0, .int (jn x)] h (rZa (sameQ N u H) (A_write N x) tm er T) := (mj_Ok.up (by decide) (ra_write jx I)).to (fun r k => k.za)
end RTZ
/-! What stands written is read again: the text from a place on, its blanks, its numbers. -/
/-- from a on the text is R -/
def atL (T : Nat → Int) (tm a : Nat) (R : List Int) : Prop := a + R.length = tm ∧ ∀ j c, R[j]? = some c → T (a + j) = c
section TRP
variable {T : Nat → Int} {tm : Nat}
theorem atL.head {a : Nat} {c : Int} {R : List Int} (h : atL T tm a (c :: R)) : T a = c ∧ a < tm ∧ atL T tm (a + 1) R := by
  have h1 := h.1
  rw [List.length_cons] at h1
  refine ⟨h.2 0 c rfl, by omega, by omega, fun j x hj => ?_⟩
  have h2 := h.2 (j + 1) x hj
  rwa [show a + (j + 1) = a + 1 + j by omega] at h2
theorem atL.app {a : Nat} {A R : List Int} (h : atL T tm a (A ++ R)) : atL T tm (a + A.length) R ∧ ∀ j c, A[j]? = some c → T (a + j) = c := by
  have h1 := h.1
  rw [List.length_append] at h1
  refine ⟨⟨by omega, fun j c hj => ?_⟩, fun j c hj => h.2 j c ?_⟩
  · have h2 := h.2 (A.length + j) c (by rw [List.getElem?_append_right (by omega), Nat.add_sub_cancel_left]; exact hj)
    rwa [← Nat.add_assoc] at h2
  · rw [List.getElem?_append_left (List.getElem?_eq_some_iff.mp hj).1]
    exact hj
theorem atL.fn {a : Nat} (h : atL T tm a []) : a = tm := h.1
theorem sk_n {a : Nat} {c : Int} {R : List Int} (h : atL T tm a (c :: R)) (hc : c ≠ 32) : rskp T tm a = a := by
  obtain ⟨h1, h2, _⟩ := h.head
  obtain ⟨y, hy⟩ : ∃ y, tm - a = y + 1 := ⟨tm - a - 1, by omega⟩
  show rsk T (tm - a) a = a
  rw [hy]
  exact if_neg (by rw [h1]; exact hc)
theorem sk_s {a : Nat} {R : List Int} (h : atL T tm a (32 :: R)) : rskp T tm a = rskp T tm (a + 1) := by
  obtain ⟨h1, h2, _⟩ := h.head
  show rsk T (tm - a) a = rsk T (tm - (a + 1)) (a + 1)
  rw [show tm - a = tm - (a + 1) + 1 by omega]
  exact if_pos h1
theorem sk_e {a : Nat} (h : atL T tm a []) : rskp T tm a = a := by
  show rsk T (tm - a) a = a
  rw [h.fn, Nat.sub_self]
  rfl
/-- no digit comes next -/
def nd (R : List Int) : Prop := ∀ c R', R = c :: R' → ¬ (48 ≤ c ∧ c ≤ 57)
theorem dg_stop {a : Nat} {R : List Int} (h : atL T tm a R) (hn : nd R) : rdgp T tm a = a := by
  show rdg T (tm - a) a = a
  cases R with
  | nil =>
    rw [h.fn, Nat.sub_self]
    rfl
  | cons c R =>
    obtain ⟨h1, h2, _⟩ := h.head
    rw [show tm - a = tm - (a + 1) + 1 by omega]
    exact if_neg (by rw [h1]; exact hn c R rfl)
theorem dg_len {v : Nat} {R : List Int} (hn : nd R) : ∀ m a, atL T tm a (dgl v m ++ R) → rdgp T tm a = a + m
  | 0, a, h => dg_stop h hn
  | m + 1, a, h => by
    have h : atL T tm a ((48 + ((v / 10 ^ m % 10 : Nat) : Int)) :: (dgl v m ++ R)) := h
    obtain ⟨h1, h2, h3⟩ := h.head
    have hm := Nat.mod_lt (v / 10 ^ m) (show 0 < 10 by decide)
    have k := dg_len hn m (a + 1) h3
    show rdg T (tm - a) a = a + (m + 1)
    rw [show tm - a = tm - (a + 1) + 1 by omega]
    show (if 48 ≤ T a ∧ T a ≤ 57 then rdg T (tm - (a + 1)) (a + 1) else a) = _
    rw [if_pos (by rw [h1]; omega)]
    have k : rdg T (tm - (a + 1)) (a + 1) = a + 1 + m := k
    omega
theorem dgl_get (v : Nat) : ∀ m k, k < m → (dgl v m)[k]? = some (48 + ((v / 10 ^ (m - 1 - k) % 10 : Nat) : Int))
  | 0, k, h => absurd h (Nat.not_lt_zero _)
  | m + 1, 0, _ => rfl
  | m + 1, k + 1, h => by
    have e := dgl_get v m k (by omega)
    rw [show m + 1 - 1 - (k + 1) = m - 1 - k by omega]
    exact e
theorem dg_val {v a m : Nat} (hv : v < 10 ^ m) (hT : ∀ j c, (dgl v m)[j]? = some c → T (a + j) = c) : ∀ k, k ≤ m → rvl T a k = ((v / 10 ^ (m - k) : Nat) : Int)
  | 0, _ => by
    rw [Nat.sub_zero, Nat.div_eq_of_lt hv]
    rfl
  | k + 1, hk => by
    have ih := dg_val hv hT k (by omega)
    have ht := hT k _ (dgl_get v m k (by omega))
    show 10 * rvl T a k + T (a + k) - 48 = _
    rw [ih, ht, show m - k = m - 1 - k + 1 by omega, Nat.pow_succ, ← Nat.div_div_eq_div_mul, show m - (k + 1) = m - 1 - k by omega]
    generalize v / 10 ^ (m - 1 - k) = y
    omega
theorem kfd_lt (v : Nat) : ∀ d k, v < 10 ^ (k + d + 1) → v < 10 ^ (kfd v d k + 1)
  | 0, k, h => h
  | d + 1, k, h => by
    show v < 10 ^ ((if v / 10 ^ k < 10 then k else kfd v d (k + 1)) + 1)
    by_cases q : v / 10 ^ k < 10
    · rw [if_pos q, Nat.pow_succ, Nat.mul_comm]
      exact (Nat.div_lt_iff_lt_mul (Nat.pow_pos (by decide))).mp q
    · rw [if_neg q]
      exact kfd_lt v d (k + 1) (by rw [show k + 1 + d + 1 = k + (d + 1) + 1 by omega]; exact h)
theorem nmN_lt {v : Nat} (hv : v < 1000000000000000000) : v < 10 ^ nmN v := kfd_lt v 17 0 (by
  rw [show (10 : Nat) ^ (0 + 17 + 1) = 1000000000000000000 from by decide]
  exact hv)
theorem nmL_hd (v : Nat) : ∃ (c : Int) (R : List Int), nmL v = c :: R ∧ 48 ≤ c ∧ c ≤ 57 := by
  have hb := (nmN_b v).1
  obtain ⟨m, hm⟩ : ∃ m, nmN v = m + 1 := ⟨nmN v - 1, by omega⟩
  have hr := Nat.mod_lt (v / 10 ^ m) (show 0 < 10 by decide)
  exact ⟨48 + ((v / 10 ^ m % 10 : Nat) : Int), dgl v m, by unfold nmL; rw [hm]; rfl, by omega, by omega⟩
theorem nm_sk {v a : Nat} {R : List Int} (h : atL T tm a (nmL v ++ R)) : rskp T tm a = a ∧ (48 ≤ T a ∧ T a ≤ 57) ∧ a < tm := by
  obtain ⟨c, R', e, h1, h2⟩ := nmL_hd v
  rw [e, List.cons_append] at h
  obtain ⟨k1, k2, _⟩ := h.head
  exact ⟨sk_n h (by omega), by rw [k1]; exact ⟨h1, h2⟩, k2⟩
theorem nm_val {v a : Nat} {R : List Int} (h : atL T tm a (nmL v ++ R)) (hn : nd R) (hv : v < 1000000000000000000) : rdgp T tm a = a + nmN v ∧ rvl T a (nmN v) = (v : Int) ∧ atL T tm (a + nmN v) R := by
  have h1 := h.app
  rw [nmL_len] at h1
  have h2 := dg_val (T := T) (a := a) (nmN_lt hv) h1.2 (nmN v) (Nat.le_refl _)
  rw [Nat.sub_self, Nat.pow_zero, Nat.div_one] at h2
  exact ⟨dg_len hn (nmN v) a h, h2, h1.1⟩
theorem nm_ok {v a : Nat} {most : Int} {R : List Int} (h : atL T tm a (nmL v ++ R)) (hn : nd R) (hv : v < 1000000000000000000) (hm : (v : Int) ≤ most) : rnm T tm most a = (true, a + nmN v) ∧ rnv T tm a = (v : Int) := by
  obtain ⟨s1, _, _⟩ := nm_sk h
  obtain ⟨s2, s3, _⟩ := nm_val h hn hv
  have hb := nmN_b v
  constructor
  · unfold rnm
    rw [s1, s2, Nat.add_sub_cancel_left, s3]
    exact if_pos ⟨hb, hm⟩
  · unfold rnv
    rw [s1, s2, Nat.add_sub_cancel_left]
    exact s3
theorem tk_y {a : Nat} {c : Int} {R : List Int} (h : atL T tm a (c :: R)) (hc : c ≠ 32) : rtk T tm c a = some (a + 1) := by
  obtain ⟨h1, h2, _⟩ := h.head
  unfold rtk
  rw [sk_n h hc, if_pos ⟨h2, h1⟩]
theorem tk_n {a b : Nat} {c : Int} (hs : rskp T tm a = b) (hb : b = tm ∨ T b ≠ c) : rtk T tm c a = none := by
  unfold rtk
  rw [hs]
  exact if_neg (fun y => by
    rcases hb with q | q
    · omega
    · exact q y.2)
/-- what may follow a term: nothing, or a blank, a sign and more -/
def tlR (R : List Int) : Prop := R = [] ∨ ∃ (s : Int) (R' : List Int), R = 32 :: s :: R' ∧ (s = 43 ∨ s = 45)
theorem tlR.nd {R : List Int} (h : tlR R) : nd R := fun c R' e => by
  rcases h with rfl | ⟨s, R2, rfl, _⟩
  · cases e
  · cases e
    decide
/-- the place behind a term: the end, or a sign -/
theorem tlR.sk {a : Nat} {R : List Int} (h : tlR R) (k : atL T tm a R) : (R = [] ∧ rskp T tm a = tm) ∨ ∃ (s : Int) (R' : List Int), R = 32 :: s :: R' ∧ (s = 43 ∨ s = 45) ∧ rskp T tm a = a + 1 ∧ T (a + 1) = s ∧ atL T tm (a + 1) (s :: R') := by
  rcases h with rfl | ⟨s, R', rfl, hs⟩
  · exact Or.inl ⟨rfl, (sk_e k).trans k.fn⟩
  · obtain ⟨_, _, k2⟩ := k.head
    exact Or.inr ⟨s, R', rfl, hs, (sk_s k).trans (sk_n k2 (by omega)), k2.head.1, k2⟩
/-- no sign c stands next, blanks left out -/
theorem tlR.tk {a : Nat} {R : List Int} {c : Int} (h : tlR R) (k : atL T tm a R) (hc : c ≠ 43 ∧ c ≠ 45) : rtk T tm c a = none := by
  rcases h.sk k with ⟨_, e⟩ | ⟨s, R', _, hs, e, e2, _⟩
  · exact tk_n e (Or.inl rfl)
  · exact tk_n e (Or.inr (by rw [e2]; omega))
end TRP
/-! What stands written is read again: powers and products. -/
section TRQ
variable {T : Nat → Int} {tm : Nat}
theorem rnv_sk {a0 a : Nat} (hs : rskp T tm a0 = a) (ha : rskp T tm a = a) : rnv T tm a0 = rnv T tm a := by
  unfold rnv
  rw [hs, ha]
theorem pw_num {v a0 a : Nat} {R : List Int} (hs : rskp T tm a0 = a) (h : atL T tm a (nmL v ++ R)) (hn : nd R) (hv : v < 1000000000000000000) (ht : rtk T tm 94 (a + nmN v) = none) (f d : Nat) (P : Option pz_P) (s : Int) : rpr0 T tm (f + 1) 0 d a0 = some (true, rskp T tm (a + nmN v)) ∧ zv0 T tm (f + 1) 0 d a0 P s = some (pz_k (v : Int)) := by
  obtain ⟨s1, s2, s3⟩ := nm_sk h
  obtain ⟨n1, n2⟩ := nm_ok (most := 9223372036854775807) h hn hv (by omega)
  obtain ⟨d1, _, _⟩ := nm_val h hn hv
  constructor
  · unfold rpr0
    rw [hs, if_neg (fun y => by omega), if_neg (fun y => by omega), n1]
    show some (rex T tm (a + nmN v)) = _
    unfold rex
    rw [ht]
  · unfold zv0
    rw [hs, if_neg (fun y => by omega), if_neg (fun y => by omega), rnv_sk hs s1, n2, d1]
    unfold zvx
    rw [ht]
theorem pw_x0 {a0 a : Nat} {R : List Int} (hs : rskp T tm a0 = a) (h : atL T tm a (120 :: R)) (ht : rtk T tm 94 (a + 1) = none) (f d : Nat) (P : Option pz_P) (s : Int) : rpr0 T tm (f + 1) 0 d a0 = some (true, rskp T tm (a + 1)) ∧ zv0 T tm (f + 1) 0 d a0 P s = some pz_x := by
  obtain ⟨h1, h2, _⟩ := h.head
  constructor
  · unfold rpr0
    rw [hs, if_pos ⟨h2, h1⟩]
    unfold rex
    rw [ht]
  · unfold zv0
    rw [hs, if_pos ⟨h2, h1⟩]
    unfold zvx
    rw [ht]
theorem pw_xe {a0 a e : Nat} {R : List Int} (hs : rskp T tm a0 = a) (h : atL T tm a (120 :: 94 :: (nmL e ++ R))) (hn : nd R) (he : e ≤ 12) (f d : Nat) (P : Option pz_P) (s : Int) : rpr0 T tm (f + 1) 0 d a0 = some (true, a + 1 + 1 + nmN e) ∧ zv0 T tm (f + 1) 0 d a0 P s = zvp (some pz_x) e := by
  obtain ⟨h1, h2, h3⟩ := h.head
  have ht := tk_y h3 (by decide)
  obtain ⟨_, _, h4⟩ := h3.head
  obtain ⟨n1, n2⟩ := nm_ok (most := 12) h4 hn (by omega) (by omega)
  constructor
  · unfold rpr0
    rw [hs, if_pos ⟨h2, h1⟩]
    unfold rex
    rw [ht]
    show some (rnm T tm 12 (a + 1 + 1)) = _
    rw [n1]
  · unfold zv0
    rw [hs, if_pos ⟨h2, h1⟩]
    unfold zvx
    rw [ht]
    show zvp (some pz_x) (rnv T tm (a + 1 + 1)).toNat = _
    rw [n2, Int.toNat_natCast]
noncomputable def xv (e : Nat) : Option pz_P := if 1 < e then zvp (some pz_x) e else some pz_x
/-- x to the e, as it stands written -/
theorem pw_x {a0 a e : Nat} {R : List Int} (hs : rskp T tm a0 = a) (h : atL T tm a (120 :: ((if 1 < e then 94 :: nmL e else []) ++ R))) (hr : tlR R) (he : e ≤ 12) (f d : Nat) (P : Option pz_P) (s : Int) : ∃ c, rpr0 T tm (f + 1) 0 d a0 = some (true, c) ∧ rskp T tm c = rskp T tm (a + 1 + (if 1 < e then nmN e + 1 else 0)) ∧ c ≤ tm ∧ zv0 T tm (f + 1) 0 d a0 P s = xv e := by
  unfold xv
  by_cases q : 1 < e
  · rw [if_pos q] at h ⊢
    rw [if_pos q]
    obtain ⟨k1, k2⟩ := pw_xe hs h hr.nd he f d P s
    obtain ⟨_, _, h3⟩ := h.head
    obtain ⟨_, _, h4⟩ := h3.head
    have h5 := (nm_val h4 hr.nd (by omega)).2.2
    refine ⟨_, k1, by rw [show a + 1 + (nmN e + 1) = a + 1 + 1 + nmN e by omega], ?_, k2⟩
    have := h5.1
    omega
  · rw [if_neg q] at h ⊢
    rw [if_neg q]
    obtain ⟨_, h2, h3⟩ := h.head
    have h3 : atL T tm (a + 1) R := h3
    obtain ⟨k1, k2⟩ := pw_x0 hs h (hr.tk h3 (by decide)) f d P s
    exact ⟨_, k1, by rw [Nat.add_zero]; exact rskp_idem (by omega), rskp_le (by omega), k2⟩
theorem tk_sk {a b : Nat} {c : Int} (h : rskp T tm a = rskp T tm b) : rtk T tm c a = rtk T tm c b := by
  unfold rtk
  rw [h]
theorem pr_x {a0 a e : Nat} {R : List Int} (hs : rskp T tm a0 = a) (h : atL T tm a (120 :: ((if 1 < e then 94 :: nmL e else []) ++ R))) (hr : tlR R) (he : e ≤ 12) (f d : Nat) (P : Option pz_P) (s : Int) : rpr0 T tm (f + 1 + 1) 1 d a0 = some (true, rskp T tm (a + 1 + (if 1 < e then nmN e + 1 else 0))) ∧ zv0 T tm (f + 1 + 1) 1 d a0 P s = zvm P (xv e) := by
  obtain ⟨c, k1, k2, k3, k4⟩ := pw_x hs h hr he f d none 1
  have hR : atL T tm (a + 1 + (if 1 < e then nmN e + 1 else 0)) R := by
    obtain ⟨_, _, h3⟩ := h.head
    have h4 := h3.app.1
    by_cases q : 1 < e
    · rw [if_pos q] at h4 ⊢
      rw [List.length_cons, nmL_len] at h4
      exact h4
    · rw [if_neg q] at h4 ⊢
      exact h4
  have kt : rtk T tm 42 c = none := (tk_sk k2).trans (hr.tk hR (by decide))
  constructor
  · unfold rpr0
    rw [k1]
    show (match rtk T tm 42 c with
      | none => some (true, rskp T tm c)
      | some e => rpr0 T tm (f + 1) 1 d e) = _
    rw [kt]
    show some (true, rskp T tm c) = _
    rw [k2]
  · unfold zv0
    rw [k1]
    show (match rtk T tm 42 c with
      | none => zvm P (zv0 T tm (f + 1) 0 d a0 none 1)
      | some e => zv0 T tm (f + 1) 1 d e (zvm P (zv0 T tm (f + 1) 0 d a0 none 1)) 1) = _
    rw [kt, k4]
theorem pr_n {v a0 a : Nat} {R : List Int} (hs : rskp T tm a0 = a) (h : atL T tm a (nmL v ++ R)) (hr : tlR R) (hv : v < 1000000000000000000) (f d : Nat) (P : Option pz_P) (s : Int) : rpr0 T tm (f + 1 + 1) 1 d a0 = some (true, rskp T tm (a + nmN v)) ∧ zv0 T tm (f + 1 + 1) 1 d a0 P s = zvm P (some (pz_k (v : Int))) := by
  have hR := (nm_val h hr.nd hv).2.2
  obtain ⟨k1, k4⟩ := pw_num hs h hr.nd hv (hr.tk hR (by decide)) f d none 1
  have hle : a + nmN v ≤ tm := by
    have := hR.1
    omega
  have k2 := rskp_idem (T := T) hle
  have kt : rtk T tm 42 (rskp T tm (a + nmN v)) = none := (tk_sk k2).trans (hr.tk hR (by decide))
  constructor
  · unfold rpr0
    rw [k1]
    show (match rtk T tm 42 (rskp T tm (a + nmN v)) with
      | none => some (true, rskp T tm (rskp T tm (a + nmN v)))
      | some e => rpr0 T tm (f + 1) 1 d e) = _
    rw [kt]
    show some (true, rskp T tm (rskp T tm (a + nmN v))) = _
    rw [k2]
  · unfold zv0
    rw [k1]
    show (match rtk T tm 42 (rskp T tm (a + nmN v)) with
      | none => zvm P (zv0 T tm (f + 1) 0 d a0 none 1)
      | some e => zv0 T tm (f + 1) 1 d e (zvm P (zv0 T tm (f + 1) 0 d a0 none 1)) 1) = _
    rw [kt, k4]
theorem pr_nx {v a0 a e : Nat} {R : List Int} (hs : rskp T tm a0 = a) (h : atL T tm a (nmL v ++ (42 :: 120 :: ((if 1 < e then 94 :: nmL e else []) ++ R)))) (hr : tlR R) (hv : v < 1000000000000000000) (he : e ≤ 12) (f d : Nat) (P : Option pz_P) (s : Int) : rpr0 T tm (f + 2 + 1) 1 d a0 = some (true, rskp T tm (a + nmN v + 1 + 1 + (if 1 < e then nmN e + 1 else 0))) ∧ zv0 T tm (f + 2 + 1) 1 d a0 P s = zvm (zvm P (some (pz_k (v : Int)))) (xv e) := by
  have hn : nd (42 :: 120 :: ((if 1 < e then 94 :: nmL e else []) ++ R)) := fun c R' q => by
    cases q
    decide
  have hR := (nm_val h hn hv).2.2
  have hsk := sk_n hR (by decide)
  have ht : rtk T tm 94 (a + nmN v) = none := tk_n hsk (Or.inr (by rw [hR.head.1]; decide))
  obtain ⟨k1, k4⟩ := pw_num hs h hn hv ht (f + 1) d none 1
  rw [hsk] at k1
  have k1 : rpr0 T tm (f + 2) 0 d a0 = some (true, a + nmN v) := k1
  have k4 : zv0 T tm (f + 2) 0 d a0 none 1 = some (pz_k (v : Int)) := k4
  have kt := tk_y hR (by decide)
  obtain ⟨_, _, h3⟩ := hR.head
  obtain ⟨y1, y2⟩ := pr_x (sk_n h3 (by decide)) h3 hr he f d (zvm P (some (pz_k (v : Int)))) 1
  constructor
  · unfold rpr0
    rw [k1]
    show (match rtk T tm 42 (a + nmN v) with
      | none => some (true, rskp T tm (a + nmN v))
      | some e => rpr0 T tm (f + 2) 1 d e) = _
    rw [kt]
    exact y1
  · unfold zv0
    rw [k1]
    show (match rtk T tm 42 (a + nmN v) with
      | none => zvm P (zv0 T tm (f + 2) 0 d a0 none 1)
      | some e => zv0 T tm (f + 2) 1 d e (zvm P (zv0 T tm (f + 2) 0 d a0 none 1)) 1) = _
    rw [kt, k4]
    exact y2
end TRQ
/-! What stands written is read again: terms, sums, the whole. -/
theorem mono_x : ∀ e, pw pz_x e = pz_mono e 1
  | 0 => rfl
  | e + 1 => by
    show pz_mul (pw pz_x e) pz_x = _
    rw [mono_x e]
    funext i
    show pz_c i (pz_mono e 1) pz_x = if i = e + 1 then 1 else 0
    rw [pz_mono_mul]
    unfold pz_x
    by_cases q : e ≤ i
    · rw [if_pos q, Int.one_mul]
      by_cases y : i = e + 1
      · rw [if_pos (by omega), if_pos y]
      · rw [if_neg (by omega), if_neg y]
    · rw [if_neg q, if_neg (by omega)]
theorem fit_mono {e : Nat} {c : Int} (he : e ≤ 12) (h : c.natAbs ≤ 999999999999999999) : fit13 (pz_mono e c) := ⟨fun j _ => by
  show (if j = e then c else 0).natAbs ≤ _
  split
  · exact h
  · exact Nat.zero_le _, fun i hi => if_neg (by omega)⟩
theorem xv_e {e : Nat} (h1 : 1 ≤ e) (he : e ≤ 12) : xv e = some (pz_mono e 1) := by
  unfold xv
  by_cases q : 1 < e
  · rw [if_pos q]
    show zvf (pw pz_x e) = _
    rw [mono_x e]
    exact zvf_y (fit_mono he (by decide))
  · rw [if_neg q, show e = 1 by omega]
    rfl
theorem k_mono (v : Int) (e : Nat) : pz_mul (pz_k v) (pz_mono e 1) = pz_mono e v := by
  funext i
  show pz_c i (pz_mono 0 v) (pz_mono e 1) = if i = e then v else 0
  rw [pz_mono_mul, if_pos (Nat.zero_le _), Nat.sub_zero]
  show v * (if i = e then 1 else 0) = _
  split
  · exact Int.mul_one _
  · exact Int.mul_zero _
section TRS
variable {T : Nat → Int} {tm : Nat}
/-- a term -/
theorem tm_rd {c : Int} {e a0 a : Nat} {R : List Int} (hc : c ≠ 0) (hb : c.natAbs ≤ 999999999999999999) (he : e ≤ 12) (hs : rskp T tm a0 = a) (h : atL T tm a (tmL c e ++ R)) (hr : tlR R) (f d : Nat) (s : Int) : rpr0 T tm (f + 3) 1 d a0 = some (true, rskp T tm (a + tmN c e)) ∧ zv0 T tm (f + 3) 1 d a0 (some pz_one) s = some (pz_mono e ((c.natAbs : Nat) : Int)) ∧ atL T tm (a + tmN c e) R := by
  have hR := h.app.1
  rw [tmL_len] at hR
  by_cases q : c.natAbs = 1 ∧ e ≠ 0
  · have hN : a + tmN c e = a + 1 + (if 1 < e then nmN e + 1 else 0) := by
      unfold tmN
      rw [if_pos q, if_pos (show 0 < e by omega)]
      omega
    unfold tmL at h
    rw [if_pos q, if_pos (show 0 < e by omega), List.nil_append] at h
    have h : atL T tm a (120 :: ((if 1 < e then 94 :: nmL e else []) ++ R)) := h
    obtain ⟨y1, y2⟩ := pr_x hs h hr he (f + 1) d (some pz_one) s
    rw [← hN] at y1
    refine ⟨y1, y2.trans ?_, hR⟩
    rw [xv_e (by omega) he]
    show zvf (pz_mul pz_one (pz_mono e 1)) = _
    rw [pz_one_mul, zvf_y (fit_mono he (by decide)), q.1]
    rfl
  · by_cases q0 : 0 < e
    · have hN : a + tmN c e = a + nmN c.natAbs + 1 + 1 + (if 1 < e then nmN e + 1 else 0) := by
        unfold tmN
        rw [if_neg q, if_pos q0]
        omega
      unfold tmL at h
      rw [if_neg q, if_pos q0, if_pos q0, List.append_assoc, List.append_assoc] at h
      have h : atL T tm a (nmL c.natAbs ++ (42 :: 120 :: ((if 1 < e then 94 :: nmL e else []) ++ R))) := h
      obtain ⟨y1, y2⟩ := pr_nx hs h hr (by omega) he f d (some pz_one) s
      rw [← hN] at y1
      refine ⟨y1, y2.trans ?_, hR⟩
      rw [xv_e (by omega) he]
      show zvm (zvf (pz_mul pz_one (pz_k ((c.natAbs : Nat) : Int)))) (some (pz_mono e 1)) = _
      rw [pz_one_mul, zvf_y (fit_k (by rw [Int.natAbs_natCast]; exact hb))]
      show zvf (pz_mul (pz_k ((c.natAbs : Nat) : Int)) (pz_mono e 1)) = _
      rw [k_mono]
      exact zvf_y (fit_mono he (by rw [Int.natAbs_natCast]; exact hb))
    · have e0 : e = 0 := by omega
      have hN : a + tmN c e = a + nmN c.natAbs := by
        unfold tmN
        rw [if_neg q, if_neg q0, if_neg (show ¬ 1 < e by omega)]
        omega
      unfold tmL at h
      rw [if_neg q, if_neg q0, if_neg q0, if_neg (show ¬ 1 < e by omega), List.append_nil, List.append_nil, List.append_nil] at h
      obtain ⟨y1, y2⟩ := pr_n hs h hr (by omega) (f + 1) d (some pz_one) s
      rw [← hN] at y1
      refine ⟨y1, y2.trans ?_, hR⟩
      show zvf (pz_mul pz_one (pz_k ((c.natAbs : Nat) : Int))) = _
      rw [pz_one_mul, zvf_y (fit_k (by rw [Int.natAbs_natCast]; exact hb)), e0]
      rfl
/-- the terms of the exponents below m, behind others -/
def rsL (f : Nat → Int) : Nat → List Int
  | 0 => []
  | m + 1 => if f m = 0 then rsL f m else 32 :: (if f m < 0 then 45 else 43) :: 32 :: (tmL (f m) m ++ rsL f m)
theorem rwL_rsL (f : Nat → Int) : ∀ m L, L ≠ [] → rwL f m L = L ++ rsL f m
  | 0, L, _ => (List.append_nil L).symm
  | m + 1, L, h => by
    show rwL f m (if f m = 0 then L else L ++ (sgL (f m) L.length ++ tmL (f m) m)) = L ++ (if f m = 0 then rsL f m else 32 :: (if f m < 0 then 45 else 43) :: 32 :: (tmL (f m) m ++ rsL f m))
    by_cases q : f m = 0
    · rw [if_pos q, if_pos q]
      exact rwL_rsL f m L h
    · rw [if_neg q, if_neg q, rwL_rsL f m _ (fun y => h (List.append_eq_nil_iff.mp y).1)]
      unfold sgL
      rw [if_neg (fun y => h (List.length_eq_zero_iff.mp y)), List.append_assoc, List.append_assoc]
      rfl
theorem rsL_tl (f : Nat → Int) : ∀ m, tlR (rsL f m)
  | 0 => Or.inl rfl
  | m + 1 => by
    show tlR (if f m = 0 then rsL f m else 32 :: (if f m < 0 then 45 else 43) :: 32 :: (tmL (f m) m ++ rsL f m))
    by_cases q : f m = 0
    · rw [if_pos q]
      exact rsL_tl f m
    · rw [if_neg q]
      refine Or.inr ⟨_, _, rfl, ?_⟩
      split
      · exact Or.inr rfl
      · exact Or.inl rfl
theorem rsL_nx (f : Nat → Int) : ∀ m, (rsL f m = [] ∧ ∀ j, j < m → f j = 0) ∨ ∃ k, k < m ∧ f k ≠ 0 ∧ (∀ j, k < j → j < m → f j = 0) ∧ rsL f m = 32 :: (if f k < 0 then 45 else 43) :: 32 :: (tmL (f k) k ++ rsL f k)
  | 0 => Or.inl ⟨rfl, fun j hj => absurd hj (Nat.not_lt_zero _)⟩
  | m + 1 => by
    have e : rsL f (m + 1) = if f m = 0 then rsL f m else 32 :: (if f m < 0 then 45 else 43) :: 32 :: (tmL (f m) m ++ rsL f m) := rfl
    by_cases q : f m = 0
    · rw [if_pos q] at e
      rcases rsL_nx f m with ⟨h1, h2⟩ | ⟨k, h1, h2, h3, h4⟩
      · refine Or.inl ⟨e.trans h1, fun j hj => ?_⟩
        by_cases y : j = m
        · rw [y]
          exact q
        · exact h2 j (by omega)
      · refine Or.inr ⟨k, by omega, h2, fun j a b => ?_, e.trans h4⟩
        by_cases y : j = m
        · rw [y]
          exact q
        · exact h3 j a (by omega)
    · rw [if_neg q] at e
      exact Or.inr ⟨m, by omega, q, fun j a b => absurd a (by omega), e⟩
theorem tmL_hd {c : Int} {e : Nat} (hc : c ≠ 0) : ∃ (x : Int) (R : List Int), tmL c e = x :: R ∧ ((48 ≤ x ∧ x ≤ 57) ∨ x = 120) := by
  unfold tmL
  by_cases q : c.natAbs = 1 ∧ e ≠ 0
  · rw [if_pos q, if_pos (show 0 < e by omega)]
    exact ⟨120, _, rfl, Or.inr rfl⟩
  · obtain ⟨x, R, h, h1, h2⟩ := nmL_hd c.natAbs
    rw [if_neg q, h]
    exact ⟨x, _, rfl, Or.inl ⟨h1, h2⟩⟩
def upF (f : Nat → Int) (k : Nat) : pz_P := fun j => if k ≤ j ∧ j < 13 then f j else 0
theorem fit_up {f : Nat → Int} (hf : ∀ j, j < 13 → (f j).natAbs ≤ 999999999999999999) (k : Nat) : fit13 (upF f k) := ⟨fun j hj => by
  show (if k ≤ j ∧ j < 13 then f j else 0).natAbs ≤ _
  split
  · exact hf j hj
  · exact Nat.zero_le _, fun i hi => if_neg (by omega)⟩
theorem up_z {f : Nat → Int} {k l : Nat} (h : k ≤ l) (hz : ∀ j, k ≤ j → j < l → f j = 0) : upF f k = upF f l := funext fun j => by
  unfold upF
  by_cases q : l ≤ j ∧ j < 13
  · rw [if_pos q, if_pos ⟨by omega, q.2⟩]
  · rw [if_neg q]
    by_cases y : k ≤ j ∧ j < 13
    · rw [if_pos y]
      exact hz j y.1 (by omega)
    · rw [if_neg y]
theorem up_s {f : Nat → Int} {e : Nat} (he : e ≤ 12) : (fun j => upF f (e + 1) j + (if f e < 0 then -1 else 1) * pz_mono e (((f e).natAbs : Nat) : Int) j) = upF f e := funext fun j => by
  show (if e + 1 ≤ j ∧ j < 13 then f j else 0) + (if f e < 0 then -1 else 1) * (if j = e then (((f e).natAbs : Nat) : Int) else 0) = if e ≤ j ∧ j < 13 then f j else 0
  by_cases q : j = e
  · subst q
    rw [if_neg (show ¬ (j + 1 ≤ j ∧ j < 13) by omega), if_pos rfl, if_pos (show j ≤ j ∧ j < 13 from ⟨Nat.le_refl _, by omega⟩)]
    by_cases y : f j < 0
    · rw [if_pos y]
      omega
    · rw [if_neg y]
      omega
  · rw [if_neg q, Int.mul_zero, Int.add_zero]
    by_cases y : e + 1 ≤ j ∧ j < 13
    · rw [if_pos y, if_pos ⟨by omega, y.2⟩]
    · rw [if_neg y, if_neg (by omega)]
/-- a sum from a term on -/
theorem sm_rd {f : Nat → Int} (hf : ∀ j, j < 13 → (f j).natAbs ≤ 999999999999999999) (d : Nat) : ∀ n e, e ≤ n → e ≤ 12 → f e ≠ 0 → ∀ a0 a F, rskp T tm a0 = a → atL T tm a (tmL (f e) e ++ rsL f e) → e + 4 ≤ F → rpr0 T tm F 2 d a0 = some (true, tm) ∧ zv0 T tm F 2 d a0 (some (upF f (e + 1))) (if f e < 0 then -1 else 1) = some (upF f 0) := by
  intro n
  induction n with
  | zero =>
    intro e h0
    intro he hne a0 a F hs h hF
    obtain rfl : e = 0 := by omega
    obtain ⟨F, rfl⟩ : ∃ y, F = y + 3 + 1 := ⟨F - 4, by omega⟩
    obtain ⟨y1, y2, y3⟩ := tm_rd hne (hf 0 (by decide)) he hs h (Or.inl rfl) F d 1
    have y3 : atL T tm (a + tmN (f 0) 0) [] := y3
    have hend : a + tmN (f 0) 0 = tm := y3.1
    rw [hend] at y1 y3
    have st : rskp T tm tm = tm := sk_e y3
    rw [st] at y1
    have k1 : rtk T tm 43 tm = none := tk_n st (Or.inl rfl)
    have k2 : rtk T tm 45 (rskp T tm tm) = none := by rw [st]; exact tk_n st (Or.inl rfl)
    constructor
    · unfold rpr0
      rw [y1]
      show (match rtk T tm 43 tm with
        | some e => rpr0 T tm (F + 3) 2 d e
        | none => match rtk T tm 45 (rskp T tm tm) with
          | some e => rpr0 T tm (F + 3) 2 d e
          | none => some (true, rskp T tm tm)) = _
      rw [k1, k2]
      show some (true, rskp T tm tm) = _
      rw [st]
    · unfold zv0
      rw [y1]
      show (match rtk T tm 43 tm with
        | some e => zv0 T tm (F + 3) 2 d e (zva (some (upF f (0 + 1))) (if f 0 < 0 then -1 else 1) (zv0 T tm (F + 3) 1 d a0 (some pz_one) 1)) 1
        | none => match rtk T tm 45 (rskp T tm tm) with
          | some e => zv0 T tm (F + 3) 2 d e (zva (some (upF f (0 + 1))) (if f 0 < 0 then -1 else 1) (zv0 T tm (F + 3) 1 d a0 (some pz_one) 1)) (-1)
          | none => zva (some (upF f (0 + 1))) (if f 0 < 0 then -1 else 1) (zv0 T tm (F + 3) 1 d a0 (some pz_one) 1)) = _
      rw [k1, k2, y2]
      show zvf (fun j => upF f (0 + 1) j + (if f 0 < 0 then -1 else 1) * pz_mono 0 (((f 0).natAbs : Nat) : Int) j) = _
      rw [up_s (by decide)]
      exact zvf_y (fit_up hf 0)
  | succ n ih =>
    intro e h0
    intro he hne a0 a F hs h hF
    obtain ⟨F, rfl⟩ : ∃ y, F = y + 3 + 1 := ⟨F - 4, by omega⟩
    obtain ⟨y1, y2, y3⟩ := tm_rd hne (hf e (by omega)) he hs h (rsL_tl f e) F d 1
    have hva : zva (some (upF f (e + 1))) (if f e < 0 then -1 else 1) (zv0 T tm (F + 3) 1 d a0 (some pz_one) 1) = some (upF f e) := by
      rw [y2]
      show zvf (fun j => upF f (e + 1) j + (if f e < 0 then -1 else 1) * pz_mono e (((f e).natAbs : Nat) : Int) j) = _
      rw [up_s he]
      exact zvf_y (fit_up hf e)
    rcases rsL_nx f e with ⟨h1, h2⟩ | ⟨k, hk, hnk, hz, hL⟩
    · rw [h1] at y3
      have hend : a + tmN (f e) e = tm := y3.1
      rw [hend] at y1 y3
      have st : rskp T tm tm = tm := sk_e y3
      rw [st] at y1
      have k1 : rtk T tm 43 tm = none := tk_n st (Or.inl rfl)
      have k2 : rtk T tm 45 (rskp T tm tm) = none := by rw [st]; exact tk_n st (Or.inl rfl)
      constructor
      · unfold rpr0
        rw [y1]
        show (match rtk T tm 43 tm with
          | some e => rpr0 T tm (F + 3) 2 d e
          | none => match rtk T tm 45 (rskp T tm tm) with
            | some e => rpr0 T tm (F + 3) 2 d e
            | none => some (true, rskp T tm tm)) = _
        rw [k1, k2]
        show some (true, rskp T tm tm) = _
        rw [st]
      · unfold zv0
        rw [y1]
        show (match rtk T tm 43 tm with
          | some e => zv0 T tm (F + 3) 2 d e _ 1
          | none => match rtk T tm 45 (rskp T tm tm) with
            | some e => zv0 T tm (F + 3) 2 d e _ (-1)
            | none => zva (some (upF f (e + 1))) (if f e < 0 then -1 else 1) (zv0 T tm (F + 3) 1 d a0 (some pz_one) 1)) = _
        rw [k1, k2, hva, up_z (k := 0) (Nat.zero_le e) (fun j _ b => h2 j b)]
    · rw [hL] at y3
      obtain ⟨_, _, z1⟩ := y3.head
      obtain ⟨z2, _, z3⟩ := z1.head
      have hsg : (if f k < 0 then (45 : Int) else 43) = 45 ∨ (if f k < 0 then (45 : Int) else 43) = 43 := by split <;> simp
      have hs1 : rskp T tm (a + tmN (f e) e) = a + tmN (f e) e + 1 := (sk_s y3).trans (sk_n z1 (by omega))
      rw [hs1] at y1
      obtain ⟨x9, R9, e9, e8⟩ := tmL_hd (e := k) hnk
      have z4 := z3.head.2.2
      have z5 : atL T tm (a + tmN (f e) e + 1 + 1 + 1) (x9 :: (R9 ++ rsL f k)) := by
        rw [e9] at z4
        exact z4
      have hs2 : rskp T tm (a + tmN (f e) e + 1 + 1) = a + tmN (f e) e + 1 + 1 + 1 := (sk_s z3).trans (sk_n z5 (by omega))
      obtain ⟨i1, i2⟩ := ih k (by omega) (by omega) hnk _ _ (F + 3) hs2 z4 (by omega)
      have hup : upF f e = upF f (k + 1) := (up_z (k := k + 1) (l := e) (by omega) (fun j a b => hz j (by omega) b)).symm
      rw [← hup] at i2
      have hs0 : rskp T tm (a + tmN (f e) e + 1) = a + tmN (f e) e + 1 := sk_n z1 (by omega)
      by_cases q : f k < 0
      · rw [if_pos q] at z1 z2 i2
        have k1 : rtk T tm 43 (a + tmN (f e) e + 1) = none := tk_n hs0 (Or.inr (by rw [z2]; decide))
        have k2 : rtk T tm 45 (rskp T tm (a + tmN (f e) e + 1)) = some (a + tmN (f e) e + 1 + 1) := by
          rw [hs0]
          exact tk_y z1 (by decide)
        constructor
        · unfold rpr0
          rw [y1]
          show (match rtk T tm 43 (a + tmN (f e) e + 1) with
            | some e => rpr0 T tm (F + 3) 2 d e
            | none => match rtk T tm 45 (rskp T tm (a + tmN (f e) e + 1)) with
              | some e => rpr0 T tm (F + 3) 2 d e
              | none => some (true, rskp T tm (a + tmN (f e) e + 1))) = _
          rw [k1, k2]
          exact i1
        · unfold zv0
          rw [y1]
          show (match rtk T tm 43 (a + tmN (f e) e + 1) with
            | some e' => zv0 T tm (F + 3) 2 d e' (zva (some (upF f (e + 1))) (if f e < 0 then -1 else 1) (zv0 T tm (F + 3) 1 d a0 (some pz_one) 1)) 1
            | none => match rtk T tm 45 (rskp T tm (a + tmN (f e) e + 1)) with
              | some e' => zv0 T tm (F + 3) 2 d e' (zva (some (upF f (e + 1))) (if f e < 0 then -1 else 1) (zv0 T tm (F + 3) 1 d a0 (some pz_one) 1)) (-1)
              | none => zva (some (upF f (e + 1))) (if f e < 0 then -1 else 1) (zv0 T tm (F + 3) 1 d a0 (some pz_one) 1)) = _
          rw [k1, k2, hva]
          exact i2
      · rw [if_neg q] at z1 z2 i2
        have k1 : rtk T tm 43 (a + tmN (f e) e + 1) = some (a + tmN (f e) e + 1 + 1) := tk_y z1 (by decide)
        constructor
        · unfold rpr0
          rw [y1]
          show (match rtk T tm 43 (a + tmN (f e) e + 1) with
            | some e => rpr0 T tm (F + 3) 2 d e
            | none => match rtk T tm 45 (rskp T tm (a + tmN (f e) e + 1)) with
              | some e => rpr0 T tm (F + 3) 2 d e
              | none => some (true, rskp T tm (a + tmN (f e) e + 1))) = _
          rw [k1]
          exact i1
        · unfold zv0
          rw [y1]
          show (match rtk T tm 43 (a + tmN (f e) e + 1) with
            | some e' => zv0 T tm (F + 3) 2 d e' (zva (some (upF f (e + 1))) (if f e < 0 then -1 else 1) (zv0 T tm (F + 3) 1 d a0 (some pz_one) 1)) 1
            | none => match rtk T tm 45 (rskp T tm (a + tmN (f e) e + 1)) with
              | some e' => zv0 T tm (F + 3) 2 d e' (zva (some (upF f (e + 1))) (if f e < 0 then -1 else 1) (zv0 T tm (F + 3) 1 d a0 (some pz_one) 1)) (-1)
              | none => zva (some (upF f (e + 1))) (if f e < 0 then -1 else 1) (zv0 T tm (F + 3) 1 d a0 (some pz_one) 1)) = _
          rw [k1, hva]
          exact i2
end TRS
/-! What stands written is read again: the whole text. -/
theorem rwL_z {f : Nat → Int} {L : List Int} {k : Nat} : ∀ m, (∀ j, k ≤ j → j < k + m → f j = 0) → rwL f (k + m) L = rwL f k L
  | 0, _ => rfl
  | m + 1, h => by
    show rwL f (k + m) (if f (k + m) = 0 then L else _) = _
    rw [if_pos (h (k + m) (by omega) (by omega))]
    exact rwL_z m (fun j a b => h j a (by omega))
theorem rPd_b (tm : Nat) : 16 ≤ rPd tm 8 + 2 * tm + 2 := by
  show 16 ≤ 1 + 8 * (2 * tm + 8) + 2 * tm + 2
  omega
section TRW
variable {T : Nat → Int} {tm : Nat}
theorem rd_of (h : rpr0 T tm (rdF tm) 3 8 0 = some (true, tm)) : rdErr T tm = -1 := by
  have e : rdR T tm = (true, tm) := by
    unfold rdR
    rw [h]
    rfl
  have s : rskp T tm tm = tm := by
    show rsk T (tm - tm) tm = tm
    rw [Nat.sub_self]
    rfl
  unfold rdErr
  rw [e, if_pos rfl, s, if_pos rfl]
theorem wr_rd {f : Nat → Int} (hf : ∀ j, j < 13 → (f j).natAbs ≤ 999999999999999999) (h : atL T tm 0 (wrL f)) : rdErr T tm = -1 ∧ rdV T tm = some (upF f 0) := by
  have htm : 1 ≤ tm := by
    have h1 := h.1
    unfold wrL at h1
    split at h1
    · have h2 : ([48] : List Int).length = 1 := rfl
      omega
    · rename_i q
      have h2 : (rwL f 13 []).length ≠ 0 := fun y => q (List.length_eq_zero_iff.mp y)
      omega
  obtain ⟨G, hG, hG2⟩ : ∃ G, rdF tm = G + 1 ∧ 16 ≤ G := ⟨rPd tm 8 + 2 * tm + 2, rfl, rPd_b tm⟩
  have key : rpr0 T tm (G + 1) 3 8 0 = some (true, tm) ∧ zv0 T tm (G + 1) 3 8 0 none 1 = some (upF f 0) := by
    have hl := fdg_le f 13
    rcases Nat.eq_zero_or_pos (fdg f 13) with q | q
    · have hz : ∀ j, j < 13 → f j = 0 := fun j hj => fdg_zero f 13 j (by omega) hj
      have e : rwL f 13 [] = [] := rwL_z (k := 0) 13 (fun j _ b => hz j (by omega))
      unfold wrL at h
      rw [if_pos e] at h
      have h : atL T tm 0 (nmL 0 ++ []) := h
      have hs : rskp T tm 0 = 0 := (nm_sk h).1
      obtain ⟨G2, rfl⟩ : ∃ y, G = y + 2 + 1 := ⟨G - 3, by omega⟩
      obtain ⟨y1, y2⟩ := pr_n hs h (Or.inl rfl) (by decide) G2 8 (some pz_one) 1
      have hR := (nm_val h (fun c R' y => by cases y) (by decide)).2.2
      have hend : 0 + nmN 0 = tm := hR.1
      have y1 : rpr0 T tm (G2 + 2) 1 8 0 = some (true, rskp T tm (0 + nmN 0)) := y1
      have y2 : zv0 T tm (G2 + 2) 1 8 0 (some pz_one) 1 = zvm (some pz_one) (some (pz_k ((0 : Nat) : Int))) := y2
      rw [hend] at hR
      have st : rskp T tm tm = tm := sk_e hR
      rw [hend, st] at y1
      have k1 : rtk T tm 43 tm = none := tk_n st (Or.inl rfl)
      have k2 : rtk T tm 45 (rskp T tm tm) = none := by rw [st]; exact tk_n st (Or.inl rfl)
      have k0 : rtk T tm 45 0 = none := tk_n hs (Or.inr (by have := (nm_sk h).2.1; omega))
      have hu : upF f 0 = pz_0 := funext fun j => by
        unfold upF
        split
        · rename_i c
          exact hz j c.2
        · rfl
      constructor
      · unfold rpr0
        rw [k0]
        show rpr0 T tm (G2 + 2 + 1) 2 8 (rskp T tm 0) = _
        rw [hs]
        unfold rpr0
        rw [y1]
        show (match rtk T tm 43 tm with
          | some e => rpr0 T tm (G2 + 2) 2 8 e
          | none => match rtk T tm 45 (rskp T tm tm) with
            | some e => rpr0 T tm (G2 + 2) 2 8 e
            | none => some (true, rskp T tm tm)) = _
        rw [k1, k2]
        show some (true, rskp T tm tm) = _
        rw [st]
      · unfold zv0
        rw [k0]
        show zv0 T tm (G2 + 2 + 1) 2 8 (rskp T tm 0) (some pz_0) 1 = _
        rw [hs]
        unfold zv0
        rw [y1]
        show (match rtk T tm 43 tm with
          | some e => zv0 T tm (G2 + 2) 2 8 e (zva (some pz_0) 1 (zv0 T tm (G2 + 2) 1 8 0 (some pz_one) 1)) 1
          | none => match rtk T tm 45 (rskp T tm tm) with
            | some e => zv0 T tm (G2 + 2) 2 8 e (zva (some pz_0) 1 (zv0 T tm (G2 + 2) 1 8 0 (some pz_one) 1)) (-1)
            | none => zva (some pz_0) 1 (zv0 T tm (G2 + 2) 1 8 0 (some pz_one) 1)) = _
        rw [k1, k2, y2]
        show zva (some pz_0) 1 (zvf (pz_mul pz_one (pz_k ((0 : Nat) : Int)))) = _
        rw [pz_one_mul, zvf_y (fit_k (by decide)), hu]
        show zvf (fun j => pz_0 j + 1 * pz_k ((0 : Nat) : Int) j) = _
        rw [show (fun j => pz_0 j + 1 * pz_k ((0 : Nat) : Int) j) = pz_0 from funext fun j => by
          show (0 : Int) + 1 * (if j = 0 then ((0 : Nat) : Int) else 0) = 0
          split <;> rfl]
        exact zvf_y fit_0
    · obtain ⟨e, he⟩ : ∃ e, fdg f 13 = e + 1 := ⟨fdg f 13 - 1, by omega⟩
      have hne : f e ≠ 0 := by
        have hn := fdg_ne f 13 (by omega)
        rw [he, Nat.add_sub_cancel] at hn
        exact hn
      have hz : ∀ j, e + 1 ≤ j → j < 13 → f j = 0 := fun j a b => fdg_zero f 13 j (by omega) b
      have eL : rwL f 13 [] = sgL (f e) 0 ++ (tmL (f e) e ++ rsL f e) := by
        have e1 := rwL_z (f := f) (L := []) (k := e + 1) (13 - (e + 1)) (fun j a b => hz j a (by omega))
        rw [show e + 1 + (13 - (e + 1)) = 13 by omega] at e1
        rw [e1]
        show rwL f e (if f e = 0 then [] else [] ++ (sgL (f e) 0 ++ tmL (f e) e)) = _
        obtain ⟨x9, R9, e9, _⟩ := tmL_hd (e := e) hne
        rw [if_neg hne, List.nil_append, rwL_rsL f e _ (fun y => by
          rw [e9] at y
          exact absurd (List.append_eq_nil_iff.mp y).2 (by simp)), List.append_assoc]
      obtain ⟨x9, R9, e9, e8⟩ := tmL_hd (e := e) hne
      have hw : wrL f = sgL (f e) 0 ++ (tmL (f e) e ++ rsL f e) := by
        unfold wrL
        rw [if_neg (fun y => by
          rw [eL, e9] at y
          exact absurd (List.append_eq_nil_iff.mp y).2 (by simp)), eL]
      rw [hw] at h
      have hup : upF f (e + 1) = pz_0 := funext fun j => by
        unfold upF
        split
        · rename_i c
          exact hz j c.1 c.2
        · rfl
      by_cases q : f e < 0
      · have hs0 : sgL (f e) 0 = [45] := by
          unfold sgL
          rw [if_pos rfl, if_pos q]
        rw [hs0] at h
        have h : atL T tm 0 (45 :: (tmL (f e) e ++ rsL f e)) := h
        have k0 : rtk T tm 45 0 = some (0 + 1) := tk_y h (by decide)
        obtain ⟨_, _, h1⟩ := h.head
        have h2 : atL T tm (0 + 1) (x9 :: (R9 ++ rsL f e)) := by
          have h3 := h1
          rw [e9] at h3
          exact h3
        obtain ⟨i1, i2⟩ := sm_rd hf 8 e e (Nat.le_refl _) (by omega) hne (0 + 1) (0 + 1) G (sk_n h2 (by omega)) h1 (by omega)
        rw [if_pos q, hup] at i2
        constructor
        · unfold rpr0
          rw [k0]
          exact i1
        · unfold zv0
          rw [k0]
          exact i2
      · have hs0 : sgL (f e) 0 = [] := by
          unfold sgL
          rw [if_pos rfl, if_neg q]
        rw [hs0, List.nil_append] at h
        have h2 : atL T tm 0 (x9 :: (R9 ++ rsL f e)) := by
          have h3 := h
          rw [e9] at h3
          exact h3
        have hs : rskp T tm 0 = 0 := sk_n h2 (by omega)
        have k0 : rtk T tm 45 0 = none := tk_n hs (Or.inr (by rw [h2.head.1]; omega))
        obtain ⟨i1, i2⟩ := sm_rd hf 8 e e (Nat.le_refl _) (by omega) hne 0 0 G hs h (by omega)
        rw [if_neg q, hup] at i2
        constructor
        · unfold rpr0
          rw [k0]
          show rpr0 T tm G 2 8 (rskp T tm 0) = _
          rw [hs]
          exact i1
        · unfold zv0
          rw [k0]
          show zv0 T tm G 2 8 (rskp T tm 0) (some pz_0) 1 = _
          rw [hs]
          exact i2
  constructor
  · refine rd_of ?_
    rw [hG]
    exact key.1
  · unfold rdV
    rw [hG]
    exact key.2
end TRW
/-! errors: the class finds none. -/
theorem fdg_mul0 {f k : Nat → Int} (h : fdg f 13 = 0 ∨ fdg k 13 = 0) : fdg (pz_mul (rw13 f) (rw13 k)) 25 = 0 := by
  have z : ∀ y : Nat → Int, fdg y 13 = 0 → rw13 y = pz_0 := fun y hy => funext fun j => by
    unfold rw13
    split
    · rename_i c
      exact fdg_zero y 13 j (by omega) c
    · rfl
  have e : pz_mul (rw13 f) (rw13 k) = pz_0 := by
    rcases h with h | h
    · rw [z f h]
      exact pz_mul_0L _
    · rw [z k h]
      exact funext fun j => pz_c_zeroR j _
  rw [e]
  exact fdg_of (Nat.zero_le _) (fun _ _ _ => rfl) (Or.inl rfl)
theorem fdg_mul1 {f k : Nat → Int} (h1 : 1 ≤ fdg f 13) (h2 : 1 ≤ fdg k 13) : fdg (pz_mul (rw13 f) (rw13 k)) 25 = fdg f 13 + fdg k 13 - 1 := by
  have l1 := fdg_le f 13
  have l2 := fdg_le k 13
  obtain ⟨p, hp⟩ : ∃ p, fdg f 13 = p + 1 := ⟨fdg f 13 - 1, by omega⟩
  obtain ⟨r, hr⟩ : ∃ r, fdg k 13 = r + 1 := ⟨fdg k 13 - 1, by omega⟩
  have b1 : pz_lt (rw13 f) (p + 1) := fun i hi => rw13_top i (by omega)
  have b2 : pz_lt (rw13 k) (r + 1) := fun i hi => rw13_top i (by omega)
  have n1 : rw13 f p ≠ 0 := by
    have hn := fdg_ne f 13 h1
    rw [hp, Nat.add_sub_cancel] at hn
    rw [rw13_in (by omega)]
    exact hn
  have n2 : rw13 k r ≠ 0 := by
    have hn := fdg_ne k 13 h2
    rw [hr, Nat.add_sub_cancel] at hn
    rw [rw13_in (by omega)]
    exact hn
  rw [hp, hr, show p + 1 + (r + 1) - 1 = p + r + 1 by omega]
  refine fdg_of (by omega) (fun i a _ => (b1.mul b2 (c := p + r + 1) (by omega)) i a) (Or.inr ?_)
  rw [Nat.add_sub_cancel]
  have e : pz_mul (rw13 f) (rw13 k) (p + r) = rw13 f p * rw13 k r := pz_c_lead p _ _ r b1 b2
  rw [e]
  exact fun y => (Int.mul_eq_zero.mp y).elim n1 n2
theorem b255 : ∀ y, y < 128 → (jn ((y : Nat) : Int) &&& Int32.ofInt 255).toInt = ((y : Nat) : Int) := by decide
/-- all signs are small -/
def smS (L : List Int) : Prop := ∀ c ∈ L, 0 ≤ c ∧ c < 128
theorem smS.app {A B : List Int} (a : smS A) (b : smS B) : smS (A ++ B) := fun c hc => (List.mem_append.mp hc).elim (a c) (b c)
theorem smS.cons {x : Int} {B : List Int} (a : 0 ≤ x ∧ x < 128) (b : smS B) : smS (x :: B) := fun c hc => by
  rcases List.mem_cons.mp hc with e | e
  · rw [e]
    exact a
  · exact b c e
theorem smS.nil : smS [] := fun c hc => by cases hc
theorem dgl_s (v : Nat) : ∀ m, smS (dgl v m)
  | 0 => smS.nil
  | m + 1 => smS.cons (by have := Nat.mod_lt (v / 10 ^ m) (show 0 < 10 by decide); omega) (dgl_s v m)
theorem tmL_s (c : Int) (e : Nat) : smS (tmL c e) := by
  unfold tmL
  refine smS.app ?_ (smS.app ?_ ?_)
  · split
    · exact smS.nil
    · refine smS.app (dgl_s _ _) ?_
      split
      · exact smS.cons (by decide) smS.nil
      · exact smS.nil
  · split
    · exact smS.cons (by decide) smS.nil
    · exact smS.nil
  · split
    · exact smS.cons (by decide) (dgl_s _ _)
    · exact smS.nil
theorem sgL_s (c : Int) (w : Nat) : smS (sgL c w) := by
  unfold sgL
  split
  · split
    · exact smS.cons (by decide) smS.nil
    · exact smS.nil
  · refine smS.cons (by decide) (smS.cons ?_ (smS.cons (by decide) smS.nil))
    split <;> decide
theorem rwL_s (f : Nat → Int) : ∀ m L, smS L → smS (rwL f m L)
  | 0, _, h => h
  | m + 1, L, h => rwL_s f m _ (by
    split
    · exact h
    · exact h.app ((sgL_s _ _).app (tmL_s _ _)))
theorem wrL_s (f : Nat → Int) : smS (wrL f) := by
  unfold wrL
  split
  · exact smS.cons (by decide) smS.nil
  · exact rwL_s f 13 [] smS.nil
section MAE
variable {g h : mj_H} {n D a b : Nat} {V : Nat → Int} {X : Nat → Nat → Int}
theorem mX_addsDegrees (m : jM g n V X h) (ka : cK a = 2) (kb : cK b = 2) (hb_a : sml (X a)) (hb_b : sml (X b)) : mj_Ok (D + 4) 15 [.ref 19, .ref a, .ref b] h (fun z => ∃ (V2 : Nat → Int) (X2 : Nat → Nat → Int) (h2 : mj_H) (y : Int), jM g n V2 X2 h2 ∧ dF V V2 ∧ xF (fun _ => False) X X2 ∧ y = 1 ∧ z = (.inl (some (.int (jn y))), h2)) := by
  refine mj_Ok.of (M := mj_m15) rfl rfl rfl ?_
  refine mj_T.pl rfl rfl rfl rfl ?_
  refine mT_get m 11 cq_d19 (by decide) rfl rfl ?_
  refine mj_T.pl rfl rfl rfl rfl ?_
  refine jT.lc 1 rfl rfl ?_
  refine mj_T.call rfl rfl (Nat.le_of_ble_eq_true rfl) (Nat.le_of_ble_eq_true rfl) (mV_of m 13 cq_d20 (by decide) rfl (by decide) rfl _) rfl (mj_Ok.up (by omega) (mP_load1 (D := 0) m cq_d20 ka (by decide +kernel) (by exact hb_a) (fun i hi => by have := mK_z.2.2.2.2.1 i hi; omega))) (fun v g1 hq => ?_) (fun i g1 hq => ?_)
  rotate_left
  · obtain ⟨_, _, hq⟩ := hq; cases hq
  obtain ⟨_, m2, hq⟩ := hq
  cases hq
  refine mj_T.eq (pc2 := 9) (st2 := []) ?_ rfl rfl rfl rfl
  refine mj_T.pl rfl rfl rfl rfl ?_
  refine mT_get m2 11 cq_d19 (by decide) rfl rfl ?_
  refine mj_T.pl rfl rfl rfl rfl ?_
  refine jT.lc 1 rfl rfl ?_
  refine mj_T.call rfl rfl (Nat.le_of_ble_eq_true rfl) (Nat.le_of_ble_eq_true rfl) (mV_of m2 13 cq_d50 (by decide) rfl (by decide) rfl _) rfl (mj_Ok.up (by omega) (mP_load1 (D := 0) m2 cq_d50 kb (by decide +kernel) (by rw [show (xup X 20 2 ((fdg (X a) 13 : Int) - 1)) b = X b from (funext fun j => xup_ne _ _ (Or.inl (kR_ne kb).1))]; exact hb_b) (fun i hi => by have := mK_z.2.2.2.2.1 i hi; omega))) (fun v g3 hq => ?_) (fun i g3 hq => ?_)
  rotate_left
  · obtain ⟨_, _, hq⟩ := hq; cases hq
  obtain ⟨_, m4, hq⟩ := hq
  cases hq
  rw [show (xup X 20 2 ((fdg (X a) 13 : Int) - 1)) b = X b from (funext fun j => xup_ne _ _ (Or.inl (kR_ne kb).1))] at m4
  refine mj_T.eq (pc2 := 18) (st2 := []) ?_ rfl rfl rfl rfl
  iterate 2 refine mj_T.pl rfl rfl rfl rfl ?_
  refine mT_get m4 11 cq_d19 (by decide) rfl rfl ?_
  refine mj_T.pl rfl rfl rfl rfl ?_
  refine mT_get m4 11 cq_d19 (by decide) rfl rfl ?_
  refine mj_T.pl rfl rfl rfl rfl ?_
  refine mT_get m4 11 cq_d19 (by decide) rfl rfl ?_
  refine mj_T.call rfl rfl (Nat.le_of_ble_eq_true rfl) (Nat.le_of_ble_eq_true rfl) (mV_of m4 11 cq_d19 (by decide) rfl (by decide) rfl _) rfl (mD_times2 (D := D) m4 ka kb hb_a hb_b) (fun v g1 hq => ?_) (fun i g1 hq => ?_)
  rotate_left
  · obtain ⟨_, _, _, _, hq⟩ := hq; cases hq
  obtain ⟨z1, z2, _, m9, hq⟩ := hq
  cases hq
  have hd : dF V (pfl (scr (pfl (pfl V 20 (X a) 13) 50 (X b) 13) z1 z2) 110 (pz_mul (rw13 (X a)) (rw13 (X b))) 25) := (dF.pfl (by omega)).tr ((dF.pfl (by omega)).tr ((dF.scr _ z1 z2).tr (dF.pfl (by omega))))
  have hx : xF (fun _ => False) X (xup (xup (xup X 20 2 ((fdg (X a) 13 : Int) - 1)) 50 2 ((fdg (X b) 13 : Int) - 1)) 110 2 ((fdg (pz_mul (rw13 (X a)) (rw13 (X b))) 25 : Int) - 1)) := (xF.deg (by omega)).tr ((xF.deg (by omega)).tr (xF.deg (by omega)))
  have la := fdg_le (X a) 13
  have lb := fdg_le (X b) 13
  have lp := fdg_le (pz_mul (rw13 (X a)) (rw13 (X b))) 25
  generalize hXX : (xup (xup (xup X 20 2 ((fdg (X a) 13 : Int) - 1)) 50 2 ((fdg (X b) 13 : Int) - 1)) 110 2 ((fdg (pz_mul (rw13 (X a)) (rw13 (X b))) 25 : Int) - 1)) = X9 at m9 hx
  have v20 : X9 20 2 = (fdg (X a) 13 : Int) - 1 := by rw [← hXX, xup_ne _ _ (Or.inl (by decide)), xup_ne _ _ (Or.inl (by decide)), xup_at]
  have v50 : X9 50 2 = (fdg (X b) 13 : Int) - 1 := by rw [← hXX, xup_ne _ _ (Or.inl (by decide)), xup_at]
  have v110 : X9 110 2 = (fdg (pz_mul (rw13 (X a)) (rw13 (X b))) 25 : Int) - 1 := by rw [← hXX, xup_at]
  clear hXX
  refine mj_T.eq (pc2 := 34) (st2 := [.int (jn 1)]) ?_ rfl rfl rfl rfl
  have t74 : ∀ z : Int, -2 ≤ z ∧ z ≤ 24 → ((fdg (pz_mul (rw13 (X a)) (rw13 (X b))) 25 : Nat) : Int) - 1 = z → mj_T (D + 3) mj_m15 74 [some (.ref 19), some (.ref a), some (.ref b), none] [.int (jn z)] g1 (fun z => ∃ (V2 : Nat → Int) (X2 : Nat → Nat → Int) (h2 : mj_H) (y : Int), jM g n V2 X2 h2 ∧ dF V V2 ∧ xF (fun _ => False) X X2 ∧ y = 1 ∧ z = (.inl (some (.int (jn y))), h2)) := fun z hz he => by
    refine mj_T.pl (loc' := [some (.ref 19), some (.ref a), some (.ref b), some (.int (jn z))]) rfl rfl rfl rfl ?_
    refine mj_T.pl rfl rfl rfl rfl ?_
    refine mT_get m9 11 cq_d19 (by decide) rfl rfl ?_
    refine mT_get (v := .int (jn ((fdg (pz_mul (rw13 (X a)) (rw13 (X b))) 25 : Int) - 1))) m9 13 cq_d110 (by decide) rfl (congrArg (fun z : Int => some (Value.int (jn z))) v110) ?_
    refine mj_T.pl rfl rfl rfl rfl ?_
    refine mj_T.icmp (a := ((fdg (pz_mul (rw13 (X a)) (rw13 (X b))) 25 : Int) - 1)) (b := z) rfl ⟨by omega, by omega⟩ ⟨by omega, by omega⟩ (fun hne => ?_) (fun _ => ?_)
    · exfalso
      simp only [jc, Bool.not_eq_true', Bool.not_eq_false', decide_eq_true_eq, decide_eq_false_iff_not] at hne
      omega
    · iterate 2 refine mj_T.pl rfl rfl rfl rfl ?_
      exact mj_T.ret rfl rfl rfl ⟨_, _, _, 1, m9, hd, hx, rfl, rfl⟩
  have t55 : (fdg (X a) 13 = 0 ∨ fdg (X b) 13 = 0) → mj_T (D + 3) mj_m15 55 [some (.ref 19), some (.ref a), some (.ref b), none] [] g1 (fun z => ∃ (V2 : Nat → Int) (X2 : Nat → Nat → Int) (h2 : mj_H) (y : Int), jM g n V2 X2 h2 ∧ dF V V2 ∧ xF (fun _ => False) X X2 ∧ y = 1 ∧ z = (.inl (some (.int (jn y))), h2)) := by
    intro hzz
    iterate 2 refine mj_T.pl rfl rfl rfl rfl ?_
    exact t74 (-1) ⟨by decide, by decide⟩ (by rw [fdg_mul0 hzz]; rfl)
  iterate 2 refine mj_T.pl rfl rfl rfl rfl ?_
  refine mT_get m9 11 cq_d19 (by decide) rfl rfl ?_
  refine mT_get (v := .int (jn ((fdg (X a) 13 : Int) - 1))) m9 13 cq_d20 (by decide) rfl (congrArg (fun z : Int => some (Value.int (jn z))) v20) ?_
  refine mj_T.if0 (a := (fdg (X a) 13 : Int) - 1) rfl ⟨by omega, by omega⟩ (fun qa => t55 (Or.inl (by simp only [jc, Bool.not_eq_true', Bool.not_eq_false', decide_eq_true_eq, decide_eq_false_iff_not] at qa; omega))) (fun qa => ?_)
  refine mj_T.pl rfl rfl rfl rfl ?_
  refine mT_get m9 11 cq_d19 (by decide) rfl rfl ?_
  refine mT_get (v := .int (jn ((fdg (X b) 13 : Int) - 1))) m9 13 cq_d50 (by decide) rfl (congrArg (fun z : Int => some (Value.int (jn z))) v50) ?_
  refine mj_T.if0 (a := (fdg (X b) 13 : Int) - 1) rfl ⟨by omega, by omega⟩ (fun qb => ?_) (fun qb => t55 (Or.inr (by simp only [jc, Bool.not_eq_true', Bool.not_eq_false', decide_eq_true_eq, decide_eq_false_iff_not] at qb; omega)))
  refine mj_T.pl rfl rfl rfl rfl ?_
  refine mT_get m9 11 cq_d19 (by decide) rfl rfl ?_
  refine mT_get (v := .int (jn ((fdg (X a) 13 : Int) - 1))) m9 13 cq_d20 (by decide) rfl (congrArg (fun z : Int => some (Value.int (jn z))) v20) ?_
  refine mj_T.pl rfl rfl rfl rfl ?_
  refine mT_get m9 11 cq_d19 (by decide) rfl rfl ?_
  refine mT_get (v := .int (jn ((fdg (X b) 13 : Int) - 1))) m9 13 cq_d50 (by decide) rfl (congrArg (fun z : Int => some (Value.int (jn z))) v50) ?_
  refine mj_T.iadd rfl ?_
  simp only [jc, Bool.not_eq_true', Bool.not_eq_false', decide_eq_true_eq, decide_eq_false_iff_not] at qa qb
  exact t74 _ ⟨by omega, by omega⟩ (by rw [fdg_mul1 (by omega) (by omega)]; omega)
end MAE
section MEE
variable {g h : mj_H} {n u : Nat} {V : Nat → Int} {X : Nat → Nat → Int} {N : Nat → Int} {H : Nat → Nat → Int}
theorem ex_inner (A : AS N u H) {a : Nat} (ha : a < 6) {Q : mj_R → Prop} {w : Int} (hend : ∀ (l3 : Option Value) (h : mj_H), cS g n N u H h → mj_T 59 mj_m148 69 [some (.ref 1), some (.int (jn w)), some (.int (jn (a : Int))), l3] [] h Q) : ∀ (k b : Nat), b + k = 6 → ∀ (h : mj_H), cS g n N u H h → mj_T 59 mj_m148 20 [some (.ref 1), some (.int (jn w)), some (.int (jn (a : Int))), some (.int (jn (b : Int)))] [] h Q := by
  intro k
  induction k with
  | zero =>
    intro b hb h s
    obtain ⟨V, X, m, b0, d, c⟩ := id s
    iterate 2 refine mj_T.pl rfl rfl rfl rfl ?_
    refine mT_get m 19 cq_d1 (by decide) rfl rfl ?_
    refine mT_get m 10 cq_d2 (by decide) rfl rfl ?_
    refine mE_len m rfl ?_
    refine mj_T.icmp (a := (b : Int)) (b := 6) rfl ⟨by omega, by omega⟩ ⟨by decide, by decide⟩ (fun _ => hend _ h s) (fun q => ?_)
    simp only [jc, Bool.not_eq_true', Bool.not_eq_false', decide_eq_true_eq, decide_eq_false_iff_not] at q
    omega
  | succ k ih =>
    intro b hb h s
    obtain ⟨V, X, m, b0, d, c⟩ := id s
    iterate 2 refine mj_T.pl rfl rfl rfl rfl ?_
    refine mT_get m 19 cq_d1 (by decide) rfl rfl ?_
    refine mT_get m 10 cq_d2 (by decide) rfl rfl ?_
    refine mE_len m rfl ?_
    refine mj_T.icmp (a := (b : Int)) (b := 6) rfl ⟨by omega, by omega⟩ ⟨by decide, by decide⟩ (fun q => ?_) (fun _ => ?_)
    · simp only [jc, Bool.not_eq_true', Bool.not_eq_false', decide_eq_true_eq, decide_eq_false_iff_not] at q
      omega
    refine mj_T.pl rfl rfl rfl rfl ?_
    refine mT_get m 19 cq_d1 (by decide) rfl rfl ?_
    refine mj_T.pl rfl rfl rfl rfl ?_
    refine mT_get m 19 cq_d1 (by decide) rfl rfl ?_
    refine mT_get m 10 cq_d2 (by decide) rfl rfl ?_
    refine mj_T.pl rfl rfl rfl rfl ?_
    refine mE_rows m ha rfl ?_
    refine mj_T.pl rfl rfl rfl rfl ?_
    refine mT_get m 19 cq_d1 (by decide) rfl rfl ?_
    refine mT_get m 10 cq_d2 (by decide) rfl rfl ?_
    refine mj_T.pl rfl rfl rfl rfl ?_
    refine mE_rows m (i := b) (by omega) rfl ?_
    have sa := c.sm A.1 (a := (a : Int)) ⟨by omega, by omega⟩
    have sb := c.sm A.1 (a := (b : Int)) ⟨by omega, by omega⟩
    rw [Int.toNat_natCast] at sa sb
    refine mj_T.call rfl rfl (Nat.le_of_ble_eq_true rfl) (Nat.le_of_ble_eq_true rfl) (mV_of m 11 cq_d19 (by decide) rfl (by decide) rfl _) rfl (mj_Ok.up (by decide) (mX_addsDegrees (D := 0) m (mK_rt a ha) (mK_rt b (by omega)) sa sb)) (fun v h1 hq => ?_) (fun i h1 hq => by obtain ⟨_, _, _, _, _, _, _, _, hq⟩ := hq; cases hq)
    obtain ⟨V2, X2, _, y, m2, df, xf, rfl, hq⟩ := hq
    cases hq
    have xf2 := xf.mono (S' := fun x => x = 481) (fun a h => h.elim)
    have s1 : cS g n N u H h1 := ⟨V2, X2, m2, b0.dF df, d.xF xf2, c.sb (sBn.xF xf2)⟩
    refine mj_T.eq (pc2 := 57) (st2 := [.int (jn 1)]) ?_ rfl rfl rfl rfl
    have t63 : mj_T 59 mj_m148 63 [some (.ref 1), some (.int (jn w)), some (.int (jn (a : Int))), some (.int (jn (b : Int)))] [] h1 Q := by
      refine mj_T.iinc (a := (b : Int)) rfl rfl ?_
      refine mj_T.eq (loc2 := [some (.ref 1), some (.int (jn w)), some (.int (jn (a : Int))), some (.int (jn ((b + 1 : Nat) : Int)))]) ?_ rfl (by rw [show ((b + 1 : Nat) : Int) = (b : Int) + 1 by omega]; rfl) rfl rfl
      refine mj_T.pl rfl rfl rfl rfl ?_
      exact ih (b + 1) (by omega) h1 s1
    exact mj_T.if0 (a := 1) rfl ⟨by decide, by decide⟩ (fun _ => t63) (fun q => by simp [jc] at q)
theorem ex_outer (A : AS N u H) {Q : mj_R → Prop} {w : Int} (hend : ∀ (l2 l3 : Option Value) (h : mj_H), cS g n N u H h → mj_T 59 mj_m148 75 [some (.ref 1), some (.int (jn w)), l2, l3] [] h Q) : ∀ (k a : Nat), a + k = 6 → ∀ (l3 : Option Value) (h : mj_H), cS g n N u H h → mj_T 59 mj_m148 4 [some (.ref 1), some (.int (jn w)), some (.int (jn (a : Int))), l3] [] h Q := by
  intro k
  induction k with
  | zero =>
    intro a ha l3 h s
    obtain ⟨V, X, m, b0, d, c⟩ := id s
    iterate 2 refine mj_T.pl rfl rfl rfl rfl ?_
    refine mT_get m 19 cq_d1 (by decide) rfl rfl ?_
    refine mT_get m 10 cq_d2 (by decide) rfl rfl ?_
    refine mE_len m rfl ?_
    refine mj_T.icmp (a := (a : Int)) (b := 6) rfl ⟨by omega, by omega⟩ ⟨by decide, by decide⟩ (fun _ => hend _ _ h s) (fun q => ?_)
    simp only [jc, Bool.not_eq_true', Bool.not_eq_false', decide_eq_true_eq, decide_eq_false_iff_not] at q
    omega
  | succ k ih =>
    intro a ha l3 h s
    obtain ⟨V, X, m, b0, d, c⟩ := id s
    iterate 2 refine mj_T.pl rfl rfl rfl rfl ?_
    refine mT_get m 19 cq_d1 (by decide) rfl rfl ?_
    refine mT_get m 10 cq_d2 (by decide) rfl rfl ?_
    refine mE_len m rfl ?_
    refine mj_T.icmp (a := (a : Int)) (b := 6) rfl ⟨by omega, by omega⟩ ⟨by decide, by decide⟩ (fun q => ?_) (fun _ => ?_)
    · simp only [jc, Bool.not_eq_true', Bool.not_eq_false', decide_eq_true_eq, decide_eq_false_iff_not] at q
      omega
    iterate 2 refine mj_T.pl rfl rfl rfl rfl ?_
    refine mj_T.iadd (a := (a : Int)) (b := 1) rfl ?_
    rw [show (a : Int) + 1 = ((a + 1 : Nat) : Int) by omega]
    refine mj_T.pl (loc' := [some (.ref 1), some (.int (jn w)), some (.int (jn (a : Int))), some (.int (jn ((a + 1 : Nat) : Int)))]) rfl rfl rfl rfl ?_
    refine ex_inner A (by omega) (fun l3 h1 s1 => ?_) (5 - a) (a + 1) (by omega) h s
    refine mj_T.iinc (a := (a : Int)) rfl rfl ?_
    refine mj_T.eq (loc2 := [some (.ref 1), some (.int (jn w)), some (.int (jn ((a + 1 : Nat) : Int))), l3]) ?_ rfl (by rw [show ((a + 1 : Nat) : Int) = (a : Int) + 1 by omega]; rfl) rfl rfl
    refine mj_T.pl rfl rfl rfl rfl ?_
    exact ih (a + 1) (by omega) l3 h1 s1
theorem ex_texts (A : AS N u H) {w : Int} : ∀ (k a : Nat), a + k = 6 → ∀ (l3 : Option Value) (h : mj_H), cS g n N u H h → mj_T 59 mj_m148 77 [some (.ref 1), some (.int (jn w)), some (.int (jn (a : Int))), l3] [] h (fun z => ∃ (h2 : mj_H), cS g n N u H h2 ∧ z = (.inl (some (.int (jn w))), h2)) := by
  intro k
  induction k with
  | zero =>
    intro a ha l3 h s
    obtain ⟨V, X, m, b0, d, c⟩ := id s
    iterate 2 refine mj_T.pl rfl rfl rfl rfl ?_
    refine mT_get m 19 cq_d1 (by decide) rfl rfl ?_
    refine mT_get m 10 cq_d2 (by decide) rfl rfl ?_
    refine mE_len m rfl ?_
    refine mj_T.icmp (a := (a : Int)) (b := 6) rfl ⟨by omega, by omega⟩ ⟨by decide, by decide⟩ (fun _ => ?_) (fun q => ?_)
    · refine mj_T.pl rfl rfl rfl rfl ?_
      exact mj_T.ret rfl rfl rfl ⟨h, s, rfl⟩
    simp only [jc, Bool.not_eq_true', Bool.not_eq_false', decide_eq_true_eq, decide_eq_false_iff_not] at q
    omega
  | succ k ih =>
    intro a ha l3 h s
    obtain ⟨V, X, m, b0, d, c, jx⟩ := s.nr A
    have jx : rjR X := jx
    iterate 2 refine mj_T.pl rfl rfl rfl rfl ?_
    refine mT_get m 19 cq_d1 (by decide) rfl rfl ?_
    refine mT_get m 10 cq_d2 (by decide) rfl rfl ?_
    refine mE_len m rfl ?_
    refine mj_T.icmp (a := (a : Int)) (b := 6) rfl ⟨by omega, by omega⟩ ⟨by decide, by decide⟩ (fun q => ?_) (fun _ => ?_)
    · simp only [jc, Bool.not_eq_true', Bool.not_eq_false', decide_eq_true_eq, decide_eq_false_iff_not] at q
      omega
    refine mj_T.pl rfl rfl rfl rfl ?_
    refine mT_get m 19 cq_d1 (by decide) rfl rfl ?_
    refine mj_T.pl rfl rfl rfl rfl ?_
    refine mT_get m 19 cq_d1 (by decide) rfl rfl ?_
    refine mT_get m 10 cq_d2 (by decide) rfl rfl ?_
    refine mj_T.pl rfl rfl rfl rfl ?_
    refine mE_rows m (i := a) (by omega) rfl ?_
    have sa0 := c.sm A.1 (a := (a : Int)) ⟨by omega, by omega⟩
    rw [Int.toNat_natCast] at sa0
    refine mj_T.call rfl rfl (Nat.le_of_ble_eq_true rfl) (Nat.le_of_ble_eq_true rfl) (mV_of m 17 cq_d17 (by decide) rfl (by decide) rfl _) rfl (mj_Ok.up (by decide) (mX_82 (D := 0) m isT_17 (mK_rt a (by omega)) sa0)) (fun v h2 hq => ?_) (fun i h2 hq => by obtain ⟨_, _, _, _, _, hq⟩ := hq; cases hq)
    obtain ⟨X2, _, m2, w2, e2, hq⟩ := hq
    cases hq
    have w3 := w2.1
    rw [wrL_len] at w3
    have w4 := wrN_b (X (4 + a))
    have x2 : 0 ≤ X2 17 1 ∧ X2 17 1 ≤ 340 := ⟨by omega, by omega⟩
    have hAt : atL (fun j => (jn (X2 (17 + 1) j) &&& Int32.ofInt 255).toInt) (X2 17 1).toNat 0 (wrL (X (4 + a))) := by
      refine ⟨by rw [wrL_len]; omega, fun j c hj => ?_⟩
      rw [Nat.zero_add]
      show (jn (X2 (17 + 1) j) &&& Int32.ofInt 255).toInt = c
      have hc := wrL_s (X (4 + a)) c (List.mem_of_getElem? hj)
      rw [w2.2 j c hj]
      obtain ⟨y, rfl⟩ := Int.eq_ofNat_of_zero_le hc.1
      exact b255 y (by omega)
    obtain ⟨r1, r2⟩ := wr_rd (fun j hj => sa0 j hj) hAt
    have c2 : CR X2 N u H := c.txt (fun c c1 c2 c3 c4 => e2 c c3 c4) ⟨by
      rw [e2 15 (by decide) (by decide)]
      exact c.tl.1, x2⟩
    have d2 : DG X2 := d.of (fun p kp => e2 p (by have := cK_13 kp; omega) (by have := cK_13 kp; omega))
    have hBt := m2.text (Or.inr rfl) x2
    refine mj_T.pl rfl rfl rfl rfl ?_
    refine mT_get m2 19 cq_d1 (by decide) rfl rfl ?_
    refine mj_T.pl rfl rfl rfl rfl ?_
    refine mT_get m2 19 cq_d1 (by decide) rfl rfl ?_
    refine mj_T.call rfl rfl (Nat.le_of_ble_eq_true rfl) (Nat.le_of_ble_eq_true rfl) (mV_of m2 14 cq_d455 (by decide) rfl (by decide) rfl _) rfl (mj_Ok.up (by decide) (rt_accepts m2 b0 d2 (Or.inr (Or.inr rfl)) hBt (by omega) (fun j _ => i255 _))) (fun v h3 hq => ?_) (fun i h3 hq => by obtain ⟨_, _, _, _, _, _, _, _, hq⟩ := hq; cases hq)
    obtain ⟨p, h3', Y3, t3, Z3, hjE, ⟨V3, X3, m3, ⟨b3, d3, sb3⟩, ⟨x1, x2', x3, x4⟩, yr⟩, hU, hq⟩ := hq
    have hh : h3 = h3' := congrArg Prod.snd hq
    subst hh
    have c1 : CR (rX1t X2 17 (X2 17 1).toNat) N u H := by
      have o : ∀ a, a ≠ 455 → a ≠ 17 → rX1t X2 17 (X2 17 1).toNat a = X2 a := fun a h1 h2 => rX1t_o X2 17 _ h1 h2
      refine CR.of17 (by rw [o 1 (by decide) (by decide)]) (by rw [o 1 (by decide) (by decide)]) (fun a ha => o a (by omega) (by omega)) ⟨by rw [o 15 (by decide) (by decide)]; exact c2.tl.1, ?_⟩ c2
      show 0 ≤ ((X2 17 1).toNat : Int) ∧ ((X2 17 1).toNat : Int) ≤ 340
      omega
    have c3 := c1.sb sb3
    have s3 : cS g n N u H h3 := ⟨V3, X3, m3, b3, d3, c3⟩
    obtain ⟨E, hE⟩ : ∃ E, rdErr (fun j => (jn (X2 (17 + 1) j) &&& Int32.ofInt 255).toInt) (X2 17 1).toNat = E := ⟨_, rfl⟩
    rw [hE] at hjE hU x3 hq
    have t154 : mj_T 59 mj_m148 154 [some (.ref 1), some (.int (jn w)), some (.int (jn (a : Int))), l3] [] h3 (fun z => ∃ (h2 : mj_H), cS g n N u H h2 ∧ z = (.inl (some (.int (jn w))), h2)) := by
      refine mj_T.iinc (a := (a : Int)) rfl rfl ?_
      refine mj_T.eq (loc2 := [some (.ref 1), some (.int (jn w)), some (.int (jn ((a + 1 : Nat) : Int))), l3]) ?_ rfl (by rw [show ((a + 1 : Nat) : Int) = (a : Int) + 1 by omega]; rfl) rfl rfl
      refine mj_T.pl rfl rfl rfl rfl ?_
      exact ih (a + 1) (by omega) l3 h3 s3
    have hE1 : E = -1 := hE.symm.trans r1
    rw [if_pos hE1] at hq
    cases hq
    refine mj_T.if0 (a := 1) rfl ⟨by decide, by decide⟩ (fun q => by simp [jc] at q) (fun _ => ?_)
    obtain ⟨z457, hu⟩ := hU hE1
    have k457 := (yr 457 z457).2
    have hua : t3 = 0 ∧ ∀ j, j < 13 → Y3 457 j = upF (X (4 + a)) 0 j := by
      obtain ⟨_, ⟨P9, p1, _, p3, p4⟩ | ⟨p1, _⟩⟩ := hu
      · rw [r2] at p1
        cases p1
        exact ⟨p3, p4⟩
      · rw [r2] at p1
        cases p1
    have ht0 := hua.1
    refine mj_T.pl rfl rfl rfl rfl ?_
    refine mT_get m3 19 cq_d1 (by decide) rfl rfl ?_
    refine mT_get (v := .int (jn t3)) m3 14 cq_d455 (by decide) rfl (by rw [← x4]; rfl) ?_
    refine mj_T.if0 (a := t3) rfl ⟨by omega, by omega⟩ (fun q => by simp only [jc, Bool.not_eq_true', Bool.not_eq_false', decide_eq_true_eq, decide_eq_false_iff_not] at q; omega) (fun _ => ?_)
    refine mj_T.pl rfl rfl rfl rfl ?_
    refine mT_get m3 19 cq_d1 (by decide) rfl rfl ?_
    have kans : mj_Ok 1 47 [.ref 455] h3 (fun z => z = (.inl (some (.ref 457)), h3)) := by
      refine mj_Ok.of (M := mj_m47) (loc := [some (.ref 455)]) rfl rfl rfl ?_
      refine mj_T.pl rfl rfl rfl rfl ?_
      refine mT_get m3 14 cq_d455 (by decide) rfl rfl ?_
      refine mj_T.pl rfl rfl rfl rfl ?_
      refine mT_aald (i := 0) m3 6 cq_456.1 (by decide) rfl rfl (by decide) ⟨by decide, by rw [cq_456.2.1]; decide⟩ ?_
      exact mj_T.ret rfl rfl rfl rfl
    refine mj_T.call rfl rfl (Nat.le_of_ble_eq_true rfl) (Nat.le_of_ble_eq_true rfl) (mV_of m3 14 cq_d455 (by decide) rfl (by decide) rfl _) rfl (mj_Ok.up (by decide) kans) (fun v h4 hq => ?_) (fun i h4 hq => by cases hq)
    cases hq
    refine mj_T.eq (pc2 := 136) (st2 := [.ref 457]) ?_ rfl rfl rfl rfl
    refine mj_T.pl rfl rfl rfl rfl ?_
    refine mT_get m3 19 cq_d1 (by decide) rfl rfl ?_
    refine mT_get m3 10 cq_d2 (by decide) rfl rfl ?_
    refine mj_T.pl rfl rfl rfl rfl ?_
    refine mE_rows m3 (i := a) (by omega) rfl ?_
    have sa := c3.sm A.1 (a := (a : Int)) ⟨by omega, by omega⟩
    rw [Int.toNat_natCast] at sa
    have s457 : sml (X3 457) := sml_cg (fun j hj => (k457.2 j hj).symm) k457.1
    refine mj_T.call rfl rfl (Nat.le_of_ble_eq_true rfl) (Nat.le_of_ble_eq_true rfl) rfl rfl (mj_Ok.up (by decide) (mS_same (D := 0) m3 (isRw.k (Or.inl ⟨by decide, by decide⟩)) (mK_rt a (by omega)) s457 sa)) (fun v h5 hq => ?_) (fun i h5 hq => by rcases hq with ⟨_, hq⟩ | ⟨_, hq⟩ <;> cases hq)
    rcases hq with ⟨_, hq⟩ | ⟨hns, hq⟩
    · cases hq
      refine mj_T.eq (pc2 := 148) (st2 := [.int (jn 1)]) ?_ rfl rfl rfl rfl
      exact mj_T.if0 (a := 1) rfl ⟨by decide, by decide⟩ (fun _ => t154) (fun q => by simp [jc] at q)
    · refine absurd (fun j hj => ?_) hns
      have q1 := k457.2 j hj
      have q2 := hua.2 j hj
      have q3 : upF (X (4 + a)) 0 j = X (4 + a) j := if_pos ⟨Nat.zero_le _, hj⟩
      have q4 := c3.rw (a := (a : Int)) ⟨by omega, by omega⟩ j hj
      have q5 := c.rw (a := (a : Int)) ⟨by omega, by omega⟩ j hj
      rw [Int.toNat_natCast] at q4 q5
      omega
theorem pX_errors0 (A : AS N u H) (s : cS g n N u H h) : mj_Ok 60 148 [.ref 1] h (fun z => ∃ (h2 : mj_H), cS g n N u H h2 ∧ z = (.inl (some (.int (jn 0))), h2)) := by
  refine mj_Ok.of (M := mj_m148) (loc := [some (.ref 1), none, none, none]) rfl rfl rfl ?_
  iterate 4 refine mj_T.pl rfl rfl rfl rfl ?_
  refine ex_outer A (w := 0) (fun l2 l3 h1 s1 => ?_) 6 0 (by decide) none h s
  iterate 2 refine mj_T.pl rfl rfl rfl rfl ?_
  exact ex_texts A (w := 0) 6 0 (by decide) l3 h1 s1
theorem cv_148 (A : AS N u H) (s : cC N u H h) : mj_Ok 60 148 [.ref 1] h (fun r => r.1 = .inl (some (.int (jn 0)))) := (pX_errors0 A s).to (fun r q => by
  obtain ⟨h2, _, rfl⟩ := q
  rfl)
theorem cz_148v (A : AS N u H) (s : cC N u H h) : mj_Ok 60 148 [.ref 1] h (fun r => r.1 = .inl (some (.int (jn (0 : Int)))) ∧ yZ (sameQ N u H) r.2) := (cv_148 A s).and (yr_148 A s)
theorem rx_errorsX {hr : mj_H} {tm er : Int} {T : Nat → Int} (hI : jIx N u H tm er T hr) : mj_Ok 40 309 [.ref 0] hr (fun r => r.1 = .inl (some (.int (jn (0 : Int)))) ∧ rZ (sameQ N u H) tm er T r) := (rx_errors hI).to (fun r q => by
  obtain ⟨h2, rfl, k⟩ := q
  exact ⟨rfl, N, u, H, ⟨rfl, rfl, rfl⟩, k⟩)
end MEE
/-! The row of Sturm: what it is, up to factors above 0; there is only one. -/
/-- the same up to factors above 0 -/
def pM (x y : pz_P) : Prop := ∃ a b : Int, 0 < a ∧ 0 < b ∧ pz_sc a x = pz_sc b y
theorem pM.rf (x : pz_P) : pM x x := ⟨1, 1, by decide, by decide, rfl⟩
theorem pM.sy {x y : pz_P} (h : pM x y) : pM y x := by
  obtain ⟨a, b, ha, hb, h⟩ := h
  exact ⟨b, a, hb, ha, h.symm⟩
theorem pM.tr {x y z : pz_P} (h : pM x y) (k : pM y z) : pM x z := by
  obtain ⟨a, b, ha, hb, h⟩ := h
  obtain ⟨c, d, hc, hd, k⟩ := k
  refine ⟨c * a, b * d, Int.mul_pos hc ha, Int.mul_pos hb hd, ?_⟩
  rw [← pz_sc_sc, h, pz_sc_sc, Int.mul_comm c b, ← pz_sc_sc, k, pz_sc_sc]
theorem pM.at {x y : pz_P} (h : pM x y) : ∃ a b : Int, 0 < a ∧ 0 < b ∧ ∀ i, a * x i = b * y i := by
  obtain ⟨a, b, ha, hb, h⟩ := h
  exact ⟨a, b, ha, hb, fun i => congrFun h i⟩
theorem pM.z {x y : pz_P} (h : pM x y) {i : Nat} (hx : x i = 0) : y i = 0 := by
  obtain ⟨a, b, ha, hb, h⟩ := h.at
  have := h i
  rw [hx, Int.mul_zero] at this
  rcases Int.mul_eq_zero.mp this.symm with q | q
  · omega
  · exact q
theorem pM.lt {x y : pz_P} (h : pM x y) {d : Nat} (hx : pz_lt x d) : pz_lt y d := fun i hi => h.z (hx i hi)
theorem pM.sg {x y : pz_P} (h : pM x y) (i : Nat) : jsg (x i) = jsg (y i) := by
  obtain ⟨a, b, ha, hb, h⟩ := h.at
  have e := congrArg jsg (h i)
  rw [← jsg_mul2, ← jsg_mul2, jsg_pos ha, jsg_pos hb, Int.one_mul, Int.one_mul] at e
  exact e
theorem pM.deg {x y : pz_P} (h : pM x y) {a b : Nat} (x0 : x a ≠ 0) (x1 : pz_lt x (a + 1)) (y0 : y b ≠ 0) (y1 : pz_lt y (b + 1)) : a = b := by
  rcases Nat.lt_trichotomy a b with c | c | c
  · exact absurd (h.lt x1 b (by omega)) y0
  · exact c
  · exact absurd (h.sy.lt y1 a (by omega)) x0
theorem pM.dv {x y : pz_P} (h : pM x y) : pM (drv x) (drv y) := by
  obtain ⟨a, b, ha, hb, h⟩ := h.at
  refine ⟨a, b, ha, hb, funext fun i => ?_⟩
  show a * (x (i + 1) * ((i + 1 : Nat) : Int)) = b * (y (i + 1) * ((i + 1 : Nat) : Int))
  rw [← Int.mul_assoc, ← Int.mul_assoc, h]
theorem pM.scl {x : pz_P} {a : Int} (ha : 0 < a) : pM (pz_sc a x) x := ⟨1, a, by decide, ha, by rw [pz_sc_sc, Int.one_mul]⟩
/-- Z is what follows X and Y in a row of Sturm -/
def sN (X Y Z : pz_P) : Prop := ∃ (a c : Int) (Q : pz_P) (K : Nat), 0 < a ∧ 0 < c ∧ pz_lt Q K ∧ ∀ i, a * X i + c * Z i = pz_mul Q Y i
theorem sN.z {X Y Z Z' : pz_P} (h : sN X Y Z) (k : pM Z Z') : sN X Y Z' := by
  obtain ⟨a, c, Q, K, ha, hc, hQ, h⟩ := h
  obtain ⟨p, q, hp, hq, k⟩ := k.at
  refine ⟨p * a, c * q, pz_sc p Q, K, Int.mul_pos hp ha, Int.mul_pos hc hq, hQ.sc p, fun i => ?_⟩
  rw [pz_mul_scL]
  show _ = p * pz_mul Q Y i
  rw [← h i, Int.mul_add, Int.mul_assoc p, Int.mul_assoc c, ← k i]
  have e : c * (p * Z i) = p * (c * Z i) := by ac_rfl
  rw [e]
theorem sN.xy {X Y Z X' Y' : pz_P} (h : sN X Y Z) (hX : pM X X') (hY : pM Y Y') : sN X' Y' Z := by
  obtain ⟨a, c, Q, K, ha, hc, hQ, h⟩ := h
  obtain ⟨p, q, hp, hq, hX⟩ := hX.at
  obtain ⟨s, t, hs, ht, hY⟩ := hY.at
  -- a q X' + c p Z = p (a X + c Z); s Y = t Y'
  refine ⟨s * (a * q), s * (c * p), pz_sc (p * t) Q, K, Int.mul_pos hs (Int.mul_pos ha hq), Int.mul_pos hs (Int.mul_pos hc hp), hQ.sc _, fun i => ?_⟩
  have e1 : pz_mul (pz_sc (p * t) Q) Y' i = p * (s * pz_mul Q Y i) := by
    have e : pz_sc t Y' = pz_sc s Y := funext fun i => (hY i).symm
    have e2 := congrFun (congrArg (pz_mul Q) e) i
    rw [pz_mul_scR, pz_mul_scR] at e2
    rw [pz_mul_scL]
    show p * t * pz_mul Q Y' i = _
    rw [Int.mul_assoc]
    exact congrArg (p * ·) e2
  rw [e1, ← h i]
  have e3 : s * (a * q) * X' i = p * (s * (a * X i)) := by
    rw [show s * (a * q) * X' i = s * a * (q * X' i) by ac_rfl, ← hX i]
    ac_rfl
  have e4 : s * (c * p) * Z i = p * (s * (c * Z i)) := by ac_rfl
  rw [e3, e4, Int.mul_add, Int.mul_add]
theorem sN.one {X Y Z X' Y' Z' : pz_P} {d : Nat} (h : sN X Y Z) (k : sN X' Y' Z') (hX : pM X X') (hY : pM Y Y') (y0 : Y d ≠ 0) (y1 : pz_lt Y (d + 1)) (z1 : pz_lt Z d) (z2 : pz_lt Z' d) : pM Z Z' := by
  have k := k.xy hX.sy hY.sy
  obtain ⟨a, c, Q, K, ha, hc, hQ, h⟩ := h
  obtain ⟨a', c', Q', K', ha', hc', hQ', k⟩ := k
  have e : ∀ i, pz_mul (pz_add (pz_sc a' Q) (pz_sc (-a) Q')) Y i = a' * c * Z i - a * c' * Z' i := fun i => by
    rw [pz_mul_addL, pz_mul_scL, pz_mul_scL]
    show a' * pz_mul Q Y i + -a * pz_mul Q' Y i = _
    rw [← h i, ← k i, Int.neg_mul, Int.mul_add, Int.mul_add, show a * (a' * X i) = a' * (a * X i) by ac_rfl, Int.mul_assoc, Int.mul_assoc]
    omega
  have hlt : pz_lt (pz_mul (pz_add (pz_sc a' Q) (pz_sc (-a) Q')) Y) (0 + d) := fun i hi => by
    rw [e i, z1 i (by omega), z2 i (by omega), Int.mul_zero, Int.mul_zero]
    rfl
  have h0 := pz_deg_of y1 y0 0 (K + K') _ (pz_lt.add ((hQ.sc a').mono (by omega)) ((hQ'.sc (-a)).mono (by omega))) hlt
  refine ⟨a' * c, a * c', Int.mul_pos ha' hc, Int.mul_pos ha hc', funext fun i => ?_⟩
  have e1 := e i
  rw [pz_lt.zero _ h0, pz_mul_0L] at e1
  have e1 : (0 : Int) = a' * c * Z i - a * c' * Z' i := e1
  show a' * c * Z i = a * c' * Z' i
  omega
/-- out of a division -/
theorem sN.erp {X Y F Q : pz_P} {K : Nat} {c w : Int} (hQ : pz_lt Q K) (hw : 0 < w) (hc : 0 < c) (h : ∀ i, c * X i = pz_mul Q Y i + w * F i) : sN X Y (fun i => -F i) := ⟨c, w, Q, K, hc, hw, hQ, fun i => by
  rw [h i, Int.mul_neg]
  omega⟩
theorem sN.ern {X Y F Q : pz_P} {K : Nat} {c w : Int} (hQ : pz_lt Q K) (hw : 0 < w) (hc : c < 0) (h : ∀ i, c * X i = pz_mul Q Y i + w * F i) : sN X Y F := ⟨-c, w, pz_sc (-1) Q, K, by omega, hw, hQ.sc _, fun i => by
  rw [pz_mul_scL]
  show -c * X i + w * F i = -1 * pz_mul Q Y i
  rw [Int.neg_mul, h i]
  omega⟩
theorem sN.const {X Y : pz_P} {N : Nat} (hX : pz_lt X N) (h0 : Y 0 ≠ 0) (hz : ∀ i, 0 < i → Y i = 0) : sN X Y pz_0 := by
  have hm : ∀ i, pz_mul X Y i = Y 0 * X i := fun i => by
    show pz_c i X Y = Y 0 * X i
    rw [pz_c_zs, zs_one (p := i) (by omega) (fun j hj hn => by rw [hz (i - j) (by omega), Int.mul_zero]), Nat.sub_self, Int.mul_comm]
  rcases Int.lt_or_gt_of_ne h0 with c | c
  · refine ⟨-(Y 0), 1, pz_sc (-1) X, N, by omega, by decide, hX.sc _, fun i => ?_⟩
    rw [pz_mul_scL]
    show -(Y 0) * X i + 1 * 0 = -1 * pz_mul X Y i
    rw [hm i, Int.neg_mul]
    omega
  · refine ⟨Y 0, 1, X, N, c, by decide, hX, fun i => ?_⟩
    show Y 0 * X i + 1 * 0 = pz_mul X Y i
    rw [hm i]
    omega
/-- the rows 0 to k of a row of Sturm of A, with their degrees -/
def SPr (A : pz_P) (k : Nat) (R : Nat → pz_P) (d : Nat → Nat) : Prop := (∀ i, i ≤ k → R i (d i) ≠ 0 ∧ pz_lt (R i) (d i + 1)) ∧ (∀ i, i < k → d (i + 1) < d i) ∧ pM (R 0) A ∧ (1 ≤ k → pM (R 1) (drv A)) ∧ ∀ i, i + 2 ≤ k → sN (R i) (R (i + 1)) (R (i + 2))
/-- and nothing comes behind them -/
def SRw (A : pz_P) (k : Nat) (R : Nat → pz_P) (d : Nat → Nat) : Prop := SPr A k R d ∧ (k = 0 → ∀ i, drv A i = 0) ∧ (1 ≤ k → sN (R (k - 1)) (R k) pz_0)
theorem SPr.di {A : pz_P} {k : Nat} {R : Nat → pz_P} {d : Nat → Nat} (h : SPr A k R d) : ∀ i, i ≤ k → d i + i ≤ d 0
  | 0, _ => Nat.le_refl _
  | i + 1, hi => by
    have a := h.di i (by omega)
    have b := h.2.1 i (by omega)
    omega
theorem SPr.pm {A : pz_P} {k k' : Nat} {R R' : Nat → pz_P} {d d' : Nat → Nat} (h : SPr A k R d) (h' : SPr A k' R' d') : ∀ i, i ≤ k → i ≤ k' → pM (R i) (R' i)
  | 0, _, _ => h.2.2.1.tr h'.2.2.1.sy
  | 1, a, b => (h.2.2.2.1 a).tr (h'.2.2.2.1 b).sy
  | i + 2, a, b => by
    have p0 := SPr.pm h h' i (by omega) (by omega)
    have p1 := SPr.pm h h' (i + 1) (by omega) (by omega)
    obtain ⟨y0, y1⟩ := h.1 (i + 1) (by omega)
    obtain ⟨w0, w1⟩ := h'.1 (i + 1) (by omega)
    have e := p1.deg y0 y1 w0 w1
    have dd : d (i + 2) < d (i + 1) := h.2.1 (i + 1) (by omega)
    have dd' : d' (i + 2) < d' (i + 1) := h'.2.1 (i + 1) (by omega)
    exact sN.one (h.2.2.2.2 i a) (h'.2.2.2.2 i b) p0 p1 y0 y1 ((h.1 (i + 2) a).2.mono (by omega)) ((h'.1 (i + 2) b).2.mono (by omega))
theorem SRw.len {A : pz_P} {k k' : Nat} {R R' : Nat → pz_P} {d d' : Nat → Nat} (h : SRw A k R d) (h' : SRw A k' R' d') : ¬ k < k' := fun c => by
  have hz : ∀ i, R' (k + 1) i = 0 := by
    cases k with
    | zero =>
      have p := h'.1.2.2.2.1 (by omega)
      exact fun i => p.sy.z (h.2.1 rfl i)
    | succ j =>
      have p0 := SPr.pm h.1 h'.1 j (by omega) (by omega)
      have p1 := SPr.pm h.1 h'.1 (j + 1) (by omega) (by omega)
      obtain ⟨y0, y1⟩ := h.1.1 (j + 1) (by omega)
      obtain ⟨w0, w1⟩ := h'.1.1 (j + 1) (by omega)
      have e := p1.deg y0 y1 w0 w1
      have dd' : d' (j + 2) < d' (j + 1) := h'.1.2.1 (j + 1) (by omega)
      have q0 := h.2.2 (by omega)
      rw [Nat.add_sub_cancel] at q0
      have q := sN.one q0 (h'.1.2.2.2.2 j (by omega)) p0 p1 y0 y1 (fun _ _ => rfl) ((h'.1.1 (j + 2) (by omega)).2.mono (by omega))
      exact fun i => q.z rfl
  exact (h'.1.1 (k + 1) (by omega)).1 (hz _)
theorem SRw.one {A : pz_P} {k k' : Nat} {R R' : Nat → pz_P} {d d' : Nat → Nat} (h : SRw A k R d) (h' : SRw A k' R' d') : k = k' ∧ ∀ i, i ≤ k → pM (R i) (R' i) ∧ d i = d' i := by
  have e : k = k' := by
    have a := h.len h'
    have b := h'.len h
    omega
  refine ⟨e, fun i hi => ?_⟩
  have p := SPr.pm h.1 h'.1 i hi (by omega)
  obtain ⟨y0, y1⟩ := h.1.1 i hi
  obtain ⟨w0, w1⟩ := h'.1.1 i (by omega)
  exact ⟨p, p.deg y0 y1 w0 w1⟩
theorem SPr.cg {A : pz_P} {k : Nat} {R R' : Nat → pz_P} {d d' : Nat → Nat} (h : SPr A k R d) (hR : ∀ i, i ≤ k → R' i = R i) (hd : ∀ i, i ≤ k → d' i = d i) : SPr A k R' d' := by
  obtain ⟨h1, h2, h3, h4, h5⟩ := h
  refine ⟨fun i hi => ?_, fun i hi => ?_, ?_, fun hk => ?_, fun i hi => ?_⟩
  · rw [hR i hi, hd i hi]
    exact h1 i hi
  · rw [hd i (by omega), hd (i + 1) (by omega)]
    exact h2 i hi
  · rw [hR 0 (by omega)]
    exact h3
  · rw [hR 1 hk]
    exact h4 hk
  · rw [hR i (by omega), hR (i + 1) (by omega), hR (i + 2) hi]
    exact h5 i hi
theorem SPr.next {A : pz_P} {k : Nat} {R : Nat → pz_P} {d : Nat → Nat} (h : SPr A (k + 1) R d) (hs : sN (R k) (R (k + 1)) (R (k + 2))) (h0 : R (k + 2) (d (k + 2)) ≠ 0) (h1 : pz_lt (R (k + 2)) (d (k + 2) + 1)) (h2 : d (k + 2) < d (k + 1)) : SPr A (k + 2) R d := by
  obtain ⟨g1, g2, g3, g4, g5⟩ := h
  refine ⟨fun i hi => ?_, fun i hi => ?_, g3, fun _ => g4 (by omega), fun i hi => ?_⟩
  · by_cases c : i = k + 2
    · rw [c]
      exact ⟨h0, h1⟩
    · exact g1 i (by omega)
  · by_cases c : i = k + 1
    · rw [c]
      exact h2
    · exact g2 i (by omega)
  · by_cases c : i = k
    · rw [c]
      exact hs
    · exact g5 i (by omega)
/-- of another polynomial that is the same up to factors above 0 -/
theorem SRw.to {A A' : pz_P} {k : Nat} {R : Nat → pz_P} {d : Nat → Nat} (h : SRw A k R d) (hA : pM A A') : SRw A' k R d := ⟨⟨h.1.1, h.1.2.1, h.1.2.2.1.tr hA, fun q => (h.1.2.2.2.1 q).tr hA.dv, h.1.2.2.2.2⟩, fun q i => hA.dv.z (h.2.1 q i), h.2.2⟩
/-- the changes of sign among the first, and the last sign that is not 0 -/
def chg (s : Nat → Int) : Nat → Nat × Int
  | 0 => (0, 0)
  | k + 1 => if s k = 0 then chg s k else ((if (chg s k).2 * s k < 0 then (chg s k).1 + 1 else (chg s k).1), s k)
theorem chg_s (s : Nat → Int) (k : Nat) : chg s (k + 1) = if s k = 0 then chg s k else ((if (chg s k).2 * s k < 0 then (chg s k).1 + 1 else (chg s k).1), s k) := rfl
theorem chg_cg {s s' : Nat → Int} : ∀ k, (∀ i, i < k → s' i = s i) → chg s' k = chg s k
  | 0, _ => rfl
  | k + 1, h => by
    rw [chg_s, chg_s, chg_cg k (fun i hi => h i (by omega)), h k (by omega)]
theorem chg_le (s : Nat → Int) : ∀ k, (chg s k).1 ≤ k
  | 0 => Nat.le_refl 0
  | k + 1 => by
    have a := chg_le s k
    rw [chg_s]
    split
    · omega
    · show (if (chg s k).2 * s k < 0 then (chg s k).1 + 1 else (chg s k).1) ≤ k + 1
      split <;> omega
theorem chg_rg {s : Nat → Int} : ∀ k, (∀ i, i < k → -1 ≤ s i ∧ s i ≤ 1) → -1 ≤ (chg s k).2 ∧ (chg s k).2 ≤ 1
  | 0, _ => ⟨(by decide : (-1 : Int) ≤ 0), (by decide : (0 : Int) ≤ 1)⟩
  | k + 1, h => by
    have a := chg_rg k (fun i hi => h i (by omega))
    rw [chg_s]
    split
    · exact a
    · exact h k (by omega)
/-- signs beyond all roots, and at a fraction -/
def sfar (R : Nat → pz_P) (d : Nat → Nat) (w : Int) (i : Nat) : Int := jsg (R i (d i)) * (if w < 0 ∧ d i % 2 = 1 then -1 else 1)
def sat (R : Nat → pz_P) (x y : Int) (i : Nat) : Int := jsg (vlz (R i) x y)
theorem hpv_sc {f : Nat → Int} {x a : Int} : ∀ m v, hpv (fun e => a * f e) x m (a * v) = a * hpv f x m v
  | 0, _ => rfl
  | m + 1, v => by
    show hpv (fun e => a * f e) x m (a * v * x + a * f m) = _
    rw [show a * v * x + a * f m = a * (v * x + f m) by rw [Int.mul_add, Int.mul_assoc]]
    exact hpv_sc m _
theorem fdg_sc {f : Nat → Int} {a : Int} (ha : a ≠ 0) : ∀ k, fdg (fun e => a * f e) k = fdg f k
  | 0 => rfl
  | k + 1 => by
    rw [fdg_succ, fdg_succ, fdg_sc ha k]
    by_cases c : f k = 0
    · rw [if_pos c, if_pos (by rw [c, Int.mul_zero])]
    · rw [if_neg c, if_neg (Int.mul_ne_zero ha c)]
theorem vlz_sc {f : pz_P} {x y a : Int} (ha : a ≠ 0) : vlz (pz_sc a f) x y = a * vlz f x y := by
  unfold vlz
  have e : fdg (pz_sc a f) 13 = fdg f 13 := fdg_sc ha 13
  have e2 : (fun e => pz_sc a f e * y ^ ((fdg f 13 - 1) - e)) = fun e => a * (f e * y ^ ((fdg f 13 - 1) - e)) := funext fun e => Int.mul_assoc _ _ _
  rw [e, e2]
  have e3 := hpv_sc (f := fun e => f e * y ^ ((fdg f 13 - 1) - e)) (x := x) (a := a) (fdg f 13) 0
  rw [Int.mul_zero] at e3
  exact e3
theorem pM.vl {f f' : pz_P} (h : pM f f') (x y : Int) : jsg (vlz f x y) = jsg (vlz f' x y) := by
  obtain ⟨a, b, ha, hb, h⟩ := h
  have e : jsg (vlz (pz_sc a f) x y) = jsg (vlz (pz_sc b f') x y) := by rw [h]
  rw [vlz_sc (by omega), vlz_sc (by omega), ← jsg_mul2, ← jsg_mul2, jsg_pos ha, jsg_pos hb, Int.one_mul, Int.one_mul] at e
  exact e
theorem SRw.far {A : pz_P} {k k' : Nat} {R R' : Nat → pz_P} {d d' : Nat → Nat} (h : SRw A k R d) (h' : SRw A k' R' d') (w : Int) : chg (sfar R d w) (k + 1) = chg (sfar R' d' w) (k' + 1) := by
  obtain ⟨e, o⟩ := h.one h'
  rw [← e]
  refine chg_cg (k + 1) (fun i hi => ?_)
  obtain ⟨p, q⟩ := o i (by omega)
  unfold sfar
  rw [p.sg, q]
theorem SRw.sat {A : pz_P} {k k' : Nat} {R R' : Nat → pz_P} {d d' : Nat → Nat} (h : SRw A k R d) (h' : SRw A k' R' d') (x y : Int) : chg (sat R x y) (k + 1) = chg (sat R' x y) (k' + 1) := by
  obtain ⟨e, o⟩ := h.one h'
  rw [← e]
  refine chg_cg (k + 1) (fun i hi => ?_)
  exact ((o i (by omega)).1.vl x y)
abbrev A_sturmLength (N : Nat → Int) (a : Int) : Int → Int → Prop := an [(0 ≤ a ∧ a ≤ 5, 1), (1 ≤ fdg (rwN N a) 13, 2)] (fun z => ∃ (k : Nat) (R : Nat → pz_P) (d : Nat → Nat), SRw (rwN N a) k R d ∧ z = ((k + 1 : Nat) : Int))
abbrev A_realRoots (N : Nat → Int) (a : Int) : Int → Int → Prop := an [(0 ≤ a ∧ a ≤ 5, 1), (1 ≤ fdg (rwN N a) 13, 2)] (fun z => ∃ (k : Nat) (R : Nat → pz_P) (d : Nat → Nat), SRw (rwN N a) k R d ∧ z = ((chg (sfar R d (-1)) (k + 1)).1 : Int) - ((chg (sfar R d 1) (k + 1)).1 : Int))
abbrev A_changes (N : Nat → Int) (a x y : Int) : Int → Int → Prop := an [(0 ≤ a ∧ a ≤ 5, 1), (okfr x y, 2), (1 ≤ fdg (rwN N a) 13, 3)] (fun z => ∃ (k : Nat) (R : Nat → pz_P) (d : Nat → Nat), SRw (rwN N a) k R d ∧ z = ((chg (sat R x y) (k + 1)).1 : Int))
abbrev A_rootsBetween (N : Nat → Int) (a x y x2 y2 : Int) : Int → Int → Prop := an [(0 ≤ a ∧ a ≤ 5, 1), ((okfr x y ∧ okfr x2 y2) ∧ x * y2 < x2 * y, 2), (1 ≤ fdg (rwN N a) 13, 3), (vlz (rwN N a) x y ≠ 0 ∧ vlz (rwN N a) x2 y2 ≠ 0, 4)] (fun z => ∃ (k : Nat) (R : Nat → pz_P) (d : Nat → Nat), SRw (rwN N a) k R d ∧ z = ((chg (sat R x y) (k + 1)).1 : Int) - ((chg (sat R x2 y2) (k + 1)).1 : Int))
section AST
variable {N : Nat → Int} {c1 z1 c2 z2 : Int}
theorem A_sturmLength.ag {a : Int} (x : A_sturmLength N a c1 z1) (y : A_sturmLength N a c2 z2) : c1 = c2 ∧ (c1 = 0 → z1 = z2) := an.ag (fun _ _ a b => by
  obtain ⟨k, R, d, h, e⟩ := a
  obtain ⟨k', R', d', h', e'⟩ := b
  rw [e, e', (h.one h').1]) (by simp) x y
theorem A_realRoots.ag {a : Int} (x : A_realRoots N a c1 z1) (y : A_realRoots N a c2 z2) : c1 = c2 ∧ (c1 = 0 → z1 = z2) := an.ag (fun _ _ a b => by
  obtain ⟨k, R, d, h, e⟩ := a
  obtain ⟨k', R', d', h', e'⟩ := b
  rw [e, e', h.far h' (-1), h.far h' 1]) (by simp) x y
theorem A_changes.ag {a p q : Int} (x : A_changes N a p q c1 z1) (y : A_changes N a p q c2 z2) : c1 = c2 ∧ (c1 = 0 → z1 = z2) := an.ag (fun _ _ a b => by
  obtain ⟨k, R, d, h, e⟩ := a
  obtain ⟨k', R', d', h', e'⟩ := b
  rw [e, e', h.sat h' p q]) (by simp) x y
theorem A_rootsBetween.ag {a p q r s : Int} (x : A_rootsBetween N a p q r s c1 z1) (y : A_rootsBetween N a p q r s c2 z2) : c1 = c2 ∧ (c1 = 0 → z1 = z2) := an.ag (fun _ _ a b => by
  obtain ⟨k, R, d, h, e⟩ := a
  obtain ⟨k', R', d', h', e'⟩ := b
  rw [e, e', h.sat h' p q, h.sat h' r s]) (by simp) x y
end AST
/-! goOn once more: it leaves the row of Sturm. -/
theorem ipw_p {c : Int} (h : 0 < c) : ∀ n : Nat, 0 < c ^ n
  | 0 => by
    rw [Int.pow_zero]
    decide
  | n + 1 => by
    rw [Int.pow_succ]
    exact Int.mul_pos (ipw_p h n) h
theorem ipw_n {c : Int} (h : c < 0) : ∀ n : Nat, (n % 2 = 0 → 0 < c ^ n) ∧ (n % 2 = 1 → c ^ n < 0)
  | 0 => ⟨fun _ => by
    rw [Int.pow_zero]
    decide, fun q => absurd q (by decide)⟩
  | n + 1 => by
    obtain ⟨a, b⟩ := ipw_n h n
    rw [Int.pow_succ]
    exact ⟨fun q => Int.mul_pos_of_neg_of_neg (b (by omega)) h, fun q => Int.mul_neg_of_pos_of_neg (a (by omega)) h⟩
theorem RI.erv {A B X Y : pz_P} {m n dx dy : Nat} {la ps : Int} (r : RI A B m n X Y dx dy la ps) (h1 : 1 ≤ dy) (i : Nat) : er X Y dy (dx - dy) (dx - dy + 1) i = la * ps ^ (dx - dy) * rdv X Y dx dy la ps i := by
  have e := (r.div h1).2
  obtain ⟨r1, r2, r3, r4, r5, r6, r7, r8⟩ := r
  have val : ∀ s : Int, itd (itd (la * ps ^ (dx - dy) * s) la 1) ps (dx - dy) = s := fun s => by
    have q1 : itd (la * ps ^ (dx - dy) * s) la 1 = ps ^ (dx - dy) * s := by
      have := itd_mul (d := la) (by omega) (ps ^ (dx - dy) * s) 1
      rw [Int.pow_one, ← Int.mul_assoc] at this
      exact this
    rw [q1]
    exact itd_mul (by omega) s _
  rcases e with e | e
  · have e1 : er X Y dy (dx - dy) (dx - dy + 1) i = la * ps ^ (dx - dy) * SB (n - (dy - 1)) (m - (dy - 1)) n A B i := e i
    unfold rdv
    rw [e1, val]
  · have e1 : er X Y dy (dx - dy) (dx - dy + 1) i = -(la * ps ^ (dx - dy) * SB (n - (dy - 1)) (m - (dy - 1)) n A B i) := e i
    unfold rdv
    rw [e1, itd_neg, itd_neg, val, Int.mul_neg]
theorem RI.sN {A B X Y F : pz_P} {m n dy gap : Nat} {la ps : Int} (r : RI A B m n X Y (dy + gap) dy la ps) (h1 : 1 ≤ dy) (p1 : (0 < Y dy ∨ gap % 2 ≠ 0) → ∀ i, F i = -(rdv X Y (dy + gap) dy la ps i)) (p2 : ¬ (0 < Y dy ∨ gap % 2 ≠ 0) → ∀ i, F i = rdv X Y (dy + gap) dy la ps i) : sN X Y F := by
  have g1 : dy + gap - dy = gap := by omega
  have ev : ∀ i, er X Y dy gap (gap + 1) i = la * ps ^ gap * rdv X Y (dy + gap) dy la ps i := fun i => by
    have := r.erv h1 i
    rw [g1] at this
    exact this
  obtain ⟨r1, r2, r3, r4, r5, r6, r7, r8⟩ := r
  obtain ⟨Q, hQl, hQ⟩ := er_rel (F := X) (B := Y) (db := dy) (gap := gap) r2 (fun i hi => r1 i (by omega)) (gap + 1) (Nat.le_refl _)
  have hw : 0 < la * ps ^ gap := Int.mul_pos r6 (ipw_p r7 gap)
  have hh : ∀ i, Y dy ^ (gap + 1) * X i = pz_mul Q Y i + (la * ps ^ gap) * rdv X Y (dy + gap) dy la ps i := fun i => by
    have e : Y dy ^ (gap + 1) * X i = pz_mul Q Y i + er X Y dy gap (gap + 1) i := congrFun hQ i
    rw [ev i] at e
    exact e
  by_cases c : 0 < Y dy ∨ gap % 2 ≠ 0
  · have hc : 0 < Y dy ^ (gap + 1) := by
      rcases Int.lt_or_gt_of_ne r3 with q | q
      · exact (ipw_n q (gap + 1)).1 (by omega)
      · exact ipw_p q _
    have k := sN.erp hQl hw hc hh
    have e : (fun i => -(rdv X Y (dy + gap) dy la ps i)) = F := funext fun i => (p1 c i).symm
    rw [e] at k
    exact k
  · have hc : Y dy ^ (gap + 1) < 0 := (ipw_n (by omega) (gap + 1)).2 (by omega)
    have k := sN.ern hQl hw hc hh
    have e : rdv X Y (dy + gap) dy la ps = F := funext fun i => (p2 c i).symm
    rw [e] at k
    exact k
/-- the degree that a polynomial of the row tells; the polynomial -/
def sdg (X : Nat → Nat → Int) (i : Nat) : Nat := (X (sro i) 2).toNat
noncomputable def srw (V : Nat → Int) (i : Nat) : pz_P := pcs V (sro i)
/-- the rows 0 to k stand there -/
def SJ (A : pz_P) (k : Nat) (V : Nat → Int) (X : Nat → Nat → Int) : Prop := SPr A k (srw V) (sdg X) ∧ (∀ i, i ≤ k → 0 ≤ X (sro i) 2 ∧ sdg X i < cL (sro i + 3)) ∧ ∀ i, i ≤ k → ∀ e, (srw V i e).natAbs ≤ if i < 2 then bM else bdf (25 - 2 * sdg X i)
/-- the whole row stands there -/
def GSt (A : pz_P) (V : Nat → Int) (X : Nat → Nat → Int) : Prop := ∃ k : Nat, k ≤ 12 ∧ X 172 2 = ((k + 1 : Nat) : Int) ∧ SRw A k (srw V) (sdg X) ∧ SJ A k V X
theorem SJ.cg {A : pz_P} {k : Nat} {V V1 : Nat → Int} {X X1 : Nat → Nat → Int} (h : SJ A k V X) (hV : ∀ i, i ≤ k → srw V1 i = srw V i) (hX : ∀ i, i ≤ k → X1 (sro i) 2 = X (sro i) 2) : SJ A k V1 X1 := by
  have hd : ∀ i, i ≤ k → sdg X1 i = sdg X i := fun i hi => by
    unfold sdg
    rw [hX i hi]
  refine ⟨h.1.cg hV hd, fun i hi => ?_, fun i hi e => ?_⟩
  · rw [hd i hi, hX i hi]
    exact h.2.1 i hi
  · rw [hd i hi, hV i hi]
    exact h.2.2 i hi e
theorem SJ.x172 {A : pz_P} {k : Nat} {V : Nat → Int} {X : Nat → Nat → Int} {v : Int} (hk : k < 14) (h : SJ A k V X) : SJ A k V (xup X 172 2 v) := h.cg (fun _ _ => rfl) (fun i hi => congrFun (xup_oth (by have := (sro_2 (i := i) (by omega)).1; omega)) 2)
theorem SJ.k12 {A : pz_P} {k : Nat} {V : Nat → Int} {X : Nat → Nat → Int} (h : SJ A k V X) : k ≤ 12 := by
  have a := h.1.di k (Nat.le_refl _)
  have b := (h.2.1 0 (Nat.zero_le _)).2
  rw [(sro_k (t := 0) (by decide)).2, if_pos (by decide)] at b
  omega
theorem SJ.zero {A : pz_P} {t : Nat} {V : Nat → Int} {X : Nat → Nat → Int} (h : SJ A (t + 1) V X) (hk : X 172 2 = ((t + 2 : Nat) : Int)) (hs : sN (srw V t) (srw V (t + 1)) pz_0) : GSt A V X := ⟨t + 1, h.k12, hk, ⟨h.1, fun q => absurd q (by omega), fun _ => hs⟩, h⟩
theorem SJ.const {A : pz_P} {t : Nat} {V : Nat → Int} {X : Nat → Nat → Int} (h : SJ A (t + 1) V X) (hk : X 172 2 = ((t + 2 : Nat) : Int)) (h0 : X (sro (t + 1)) 2 = ((0 : Nat) : Int)) : GSt A V X := by
  obtain ⟨y0, y1⟩ := h.1.1 (t + 1) (Nat.le_refl _)
  have e : sdg X (t + 1) = 0 := by
    unfold sdg
    rw [h0]
    rfl
  rw [e] at y0 y1
  exact h.zero hk (sN.const (h.1.1 t (by omega)).2 y0 (fun i hi => y1 i (by omega)))
theorem SJ.next {A : pz_P} {t rr dy : Nat} {V V3 : Nat → Int} {X X3 : Nat → Nat → Int} (h : SJ A (t + 1) V X) (fV : ∀ i, i ≤ t + 1 → srw V3 i = srw V i) (fX : ∀ i, i ≤ t + 1 → X3 (sro i) 2 = X (sro i) 2) (h3 : X3 (sro (t + 2)) 2 = (rr : Int)) (hlt : rr < dy) (hdy : X (sro (t + 1)) 2 = (dy : Int)) (hcl : rr < cL (sro (t + 2) + 3)) (h0 : srw V3 (t + 2) rr ≠ 0) (hz : ∀ i, rr < i → srw V3 (t + 2) i = 0) (hs : sN (srw V t) (srw V (t + 1)) (srw V3 (t + 2))) (hb : ∀ e, (srw V3 (t + 2) e).natAbs ≤ bdf (26 - 2 * dy)) : SJ A (t + 2) V3 X3 := by
  have k := h.cg fV fX
  have e3 : sdg X3 (t + 2) = rr := by
    unfold sdg
    rw [h3]
    rfl
  have e2 : sdg X3 (t + 1) = dy := by
    unfold sdg
    rw [fX (t + 1) (Nat.le_refl _), hdy]
    rfl
  refine ⟨k.1.next ?_ ?_ ?_ ?_, fun i hi => ?_, fun i hi e => ?_⟩
  · rw [fV t (by omega), fV (t + 1) (by omega)]
    exact hs
  · rw [e3]
    exact h0
  · rw [e3]
    exact fun i hi => hz i (by omega)
  · rw [e3, e2]
    exact hlt
  · by_cases c : i = t + 2
    · rw [c, e3, h3]
      exact ⟨by omega, hcl⟩
    · exact k.2.1 i (by omega)
  · by_cases c : i = t + 2
    · rw [c, e3, if_neg (by omega)]
      exact Nat.le_trans (hb e) (bdf_mono (by omega))
    · exact k.2.2 i (by omega) e
section MGS
variable {g h : mj_H} {n D : Nat} {V : Nat → Int} {X : Nat → Nat → Int}
theorem mR_st_loop {A0 A B : pz_P} {ma na : Nat} (hm : ma ≤ 12) (hn : na ≤ 12) (bA : ∀ e, (A e).natAbs ≤ bM) (bB : ∀ e, (B e).natAbs ≤ bM) : ∀ u t, t + u = 12 → ∀ (V1 : Nat → Int) (X1 : Nat → Nat → Int) (h1 : mj_H) (dx dy : Nat), jM g n V1 X1 h1 → RB A B ma na (pcs V1 (sro t)) (pcs V1 (sro (t + 1))) dx dy (V1 174) (V1 176) → SJ A0 (t + 1) V1 X1 → X1 (sro t) 2 = (dx : Int) → X1 (sro (t + 1)) 2 = (dy : Int) → dy + t ≤ 12 → X1 172 2 = ((t + 2 : Nat) : Int) → (∀ j, j < 14 → V1 (sro j + 1) = 0) → V1 81 = 0 → GFr V X V1 X1 → DG X1 → mj_T (D + 5) mj_m70 39 [some (.ref 172), some (.int (jn ((t + 2 : Nat) : Int)))] [] h1 (fun z => ∃ V2 X2 h2, jM g n V2 X2 h2 ∧ GSt A0 V2 X2 ∧ (∀ j, j < 14 → V2 (sro j + 1) = 0) ∧ V2 81 = 0 ∧ GFr V X V2 X2 ∧ DG X2 ∧ z = (.inl none, h2))
  | 0, t, htu, V1, X1, hh1, dx, dy, m, r, sj, ip, iq, hdt, hk, hb, h81, fr, dg => by
    have hL : cL 173 = 14 := mK_r.2.2.2.1
    have hdq : dy < cL (sro (t + 1) + 3) := by rw [(sro_k (t := t + 1) (by omega)).2]; split <;> omega
    iterate 2 refine mj_T.pl rfl rfl rfl rfl ?_
    refine mT_get m 16 cq_d172 (by decide) rfl rfl ?_
    refine mT_alen m 5 cq_d173 (by decide) rfl ?_
    refine mj_T.icmp (a := (((t + 2) : Nat) : Int)) (b := ((cL 173 : Nat) : Int)) rfl ⟨by omega, by omega⟩ ⟨by omega, by omega⟩ (fun c1 => ?_) (fun c1 => ?_)
    · simp only [jc, decide_eq_true_eq, decide_eq_false_iff_not, hL] at c1
      refine mj_T.ret rfl rfl rfl ?_
      have d0 : dy = 0 := by omega
      subst d0
      exact ⟨V1, X1, _, m, sj.const hk iq, hb, h81, fr, dg, rfl⟩
    · exfalso
      simp only [jc, decide_eq_true_eq, decide_eq_false_iff_not, hL] at c1
      omega
  | u + 1, t, htu, V1, X1, hh1, dx, dy, m, r, sj, ip, iq, hdt, hk, hb, h81, fr, dg => by
    have hL : cL 173 = 14 := mK_r.2.2.2.1
    have hdq : dy < cL (sro (t + 1) + 3) := by rw [(sro_k (t := t + 1) (by omega)).2]; split <;> omega
    iterate 2 refine mj_T.pl rfl rfl rfl rfl ?_
    refine mT_get m 16 cq_d172 (by decide) rfl rfl ?_
    refine mT_alen m 5 cq_d173 (by decide) rfl ?_
    refine mj_T.icmp (a := (((t + 2) : Nat) : Int)) (b := ((cL 173 : Nat) : Int)) rfl ⟨by omega, by omega⟩ ⟨by omega, by omega⟩ (fun c1 => ?_) (fun c1 => ?_)
    · exfalso
      simp only [jc, decide_eq_true_eq, decide_eq_false_iff_not, hL] at c1
      omega
    · simp only [jc, decide_eq_true_eq, decide_eq_false_iff_not, hL] at c1
      have ht : t + 2 < 14 := by omega
      have hL2 : cL (sro (t + 2) + 3) = 12 - t := by rw [(sro_k (t := t + 2) (by omega)).2, if_neg (by omega)]; omega
      refine mj_T.pl rfl rfl rfl rfl ?_
      refine mT_get m 16 cq_d172 (by decide) rfl rfl ?_
      iterate 2 refine mj_T.pl rfl rfl rfl rfl ?_
      refine mj_T.isub (a := (((t + 2) : Nat) : Int)) (b := 1) rfl ?_
      rw [show ((t + 2 : Nat) : Int) - 1 = ((t + 1 : Nat) : Int) by omega]
      refine mT_aald m 5 cq_d173 (by decide) rfl rfl (by omega) ⟨by omega, by omega⟩ ?_
      refine mj_T.eq (st2 := [.ref (sro (t + 1))]) ?_ rfl rfl rfl rfl
      refine mT_get (v := .int (jn ((dy : Nat) : Int))) m 13 (sro_k (t := t + 1) (by omega)).1 (by decide) rfl (congrArg (fun z : Int => some (Value.int (jn z))) (iq)) ?_
      refine mj_T.if0 (a := ((dy : Nat) : Int)) rfl ⟨by omega, by omega⟩ (fun c2 => ?_) (fun c2 => ?_)
      · simp only [jc, Bool.not_eq_true', Bool.not_eq_false', decide_eq_true_eq, decide_eq_false_iff_not] at c2
        refine mj_T.ret rfl rfl rfl ?_
        have d0 : dy = 0 := by omega
        subst d0
        exact ⟨V1, X1, _, m, sj.const hk iq, hb, h81, fr, dg, rfl⟩
      · simp only [jc, Bool.not_eq_true', Bool.not_eq_false', decide_eq_true_eq, decide_eq_false_iff_not] at c2
        iterate 2 refine mj_T.pl rfl rfl rfl rfl ?_
        refine mT_get m 16 cq_d172 (by decide) rfl rfl ?_
        iterate 2 refine mj_T.pl rfl rfl rfl rfl ?_
        refine mj_T.isub (a := (((t + 2) : Nat) : Int)) (b := 2) rfl ?_
        rw [show ((t + 2 : Nat) : Int) - 2 = ((t : Nat) : Int) by omega]
        refine mT_aald m 5 cq_d173 (by decide) rfl rfl (by omega) ⟨by omega, by omega⟩ ?_
        refine mj_T.eq (st2 := [.ref (sro t), .ref 172]) ?_ rfl rfl rfl rfl
        refine mj_T.pl rfl rfl rfl rfl ?_
        refine mT_get m 16 cq_d172 (by decide) rfl rfl ?_
        iterate 2 refine mj_T.pl rfl rfl rfl rfl ?_
        refine mj_T.isub (a := (((t + 2) : Nat) : Int)) (b := 1) rfl ?_
        rw [show ((t + 2 : Nat) : Int) - 1 = ((t + 1 : Nat) : Int) by omega]
        refine mT_aald m 5 cq_d173 (by decide) rfl rfl (by omega) ⟨by omega, by omega⟩ ?_
        refine mj_T.eq (st2 := [.ref (sro (t + 1)), .ref (sro t), .ref 172]) ?_ rfl rfl rfl rfl
        refine mj_T.pl rfl rfl rfl rfl ?_
        refine mT_get m 16 cq_d172 (by decide) rfl rfl ?_
        refine mj_T.pl rfl rfl rfl rfl ?_
        refine mT_aald m 5 cq_d173 (by decide) rfl rfl (by omega) ⟨by omega, by omega⟩ ?_
        refine mj_T.eq (st2 := [.ref (sro (t + 2)), .ref (sro (t + 1)), .ref (sro t), .ref 172]) ?_ rfl rfl rfl rfl
        have h1 : 1 ≤ dy := by omega
        have hgap : ∃ gap, dx = dy + gap := ⟨dx - dy, by have := r.1.2.2.2.1; omega⟩
        obtain ⟨gap, hgap⟩ := hgap
        subst hgap
        have g1 : dy + gap - dy = gap := by omega
        have hcap : ∀ i, i < cL (sro (t + 2) + 3) → jnl ((rdv (pcs V1 (sro t)) (pcs V1 (sro (t + 1))) (dy + gap) dy (V1 174) (V1 176)) i).natAbs ≤ cL (sro (t + 2) + 4 + 2 * i + 1) := fun i hi => by
          rw [mK_z.2.2.2.2.2.2.1 (t + 2) (by omega) i (by rw [if_neg (by omega)]; omega), if_neg (by omega)]
          exact r.rcap hm hn bA bB h1 i (by omega)
        have hlq := r.rlq h1
        have hk60 := r.rk60 bA bB hm hn h1
        have hfit := r.fit h1
        rw [g1] at hlq hk60 hfit
        refine mj_T.call rfl rfl (Nat.le_of_ble_eq_true rfl) (Nat.le_of_ble_eq_true rfl) (mV_of m 16 cq_d172 (by decide) rfl (by decide) rfl _) rfl (mj_Ok.up (by omega) (mR_next (D := D) (gap := gap) (dy := dy) (al := bdf (25 - 2 * (dy + gap))) (be := bdf (26 - 2 * (dy + gap))) m ((sro_k (t := t) (by omega)).1) ((sro_k (t := t + 1) (by omega)).1) ((sro_k (t := t + 2) (by omega)).1) (sro_2 (by omega)).1 (sro_2 (by omega)).1 (sro_2 (by omega)).1 (((sro_2 (i := t + 1) (by omega)).2.2 (t + 2) (by omega)).1 (by omega)) ip iq hdq (by have := r.2.1; omega) (hb t (by omega)) h81 r.2.2.1 r.2.2.2.1 (bdf_pos _) hfit (jB_15 (m := 70) (Nat.lt_of_le_of_lt (bdf_mono (show 26 - 2 * (dy + gap) ≤ 26 by omega)) (by decide +kernel)) (by decide)) r.r174.1 r.r174.2 hcap hlq (r.rl60 h1) hk60)) (fun v g3 hq => ?_) (fun i g3 hq => ?_)
        rotate_left
        · obtain ⟨_, _, _, _, _, _, _, _, _, _, _, _, _, hq⟩ := hq; cases hq
        obtain ⟨V3, X3, _, m4, hpm, hs1, hs2, hX3, e174, e176, f_V, fX, f80, hq⟩ := hq
        cases hq
        have s20 := (sro_2 (i := t + 2) (by omega))
        have s12 : sro (t + 1) ≠ sro (t + 2) := ((sro_2 (i := t + 1) (by omega)).2.2 (t + 2) (by omega)).1 (by omega)
        have hr240 := s20.2.1 (by omega)
        have hfq := mP_far ((sro_k (t := t + 1) (by omega)).1) ((sro_k (t := t + 2) (by omega)).1) s12
        have hps := mP_pos ((sro_k (t := t + 2) (by omega)).1)
        have hps2 := mP_pos ((sro_k (t := t + 1) (by omega)).1)
        have s11 := (sro_2 (i := t + 1) (by omega)).1
        have eq_3 : pcs V3 (sro (t + 1)) = pcs V1 (sro (t + 1)) := funext fun e => by
          unfold pcs
          by_cases c : e < cL (sro (t + 1) + 3)
          · rw [if_pos c, if_pos c, f_V _ (by omega) (by omega) (by omega) (by omega) (by omega) (by omega) (by omega)]
          · rw [if_neg c, if_neg c]
        have fS : ∀ i, i ≤ t + 1 → sro i ≠ sro (t + 2) := fun i hi => ((sro_2 (i := i) (by omega)).2.2 (t + 2) (by omega)).1 (by omega)
        have fP : ∀ i, i ≤ t + 1 → srw V3 i = srw V1 i := fun i hi => funext fun e => by
          have s1i := (sro_2 (i := i) (by omega)).1
          have hfi := mP_far ((sro_k (t := i) (by omega)).1) ((sro_k (t := t + 2) (by omega)).1) (fS i hi)
          have hpi := mP_pos ((sro_k (t := i) (by omega)).1)
          show pcs V3 (sro i) e = pcs V1 (sro i) e
          unfold pcs
          by_cases c : e < cL (sro i + 3)
          · rw [if_pos c, if_pos c, f_V _ (by omega) (by omega) (by omega) (by omega) (by omega) (by omega) (by omega)]
          · rw [if_neg c, if_neg c]
        have fX2 : ∀ i, i ≤ t + 1 → X3 (sro i) 2 = X1 (sro i) 2 := fun i hi => congrFun (fX (sro i) (by have := (sro_2 (i := i) (by omega)).1; omega) (fS i hi)) 2
        have hb3 : ∀ j, j < 14 → V3 (sro j + 1) = 0 := fun j hj => by
          have q1 := (sro_2 hj).1
          have q2 := ((sro_2 hj).2.2 (t + 2) (by omega)).2 (by omega)
          have q3 := mP_pos (sro_k hj).1
          have q4 := (mK_p (sro_k hj).1).2.2.1
          rw [f_V _ (by omega) (by omega) (by omega) (by omega) (by omega) (by omega) (by omega)]
          exact hb j hj
        have h813 : V3 81 = 0 := (f_V 81 (by decide) (by decide) (by decide) (by decide) (by decide) (by decide) (by omega)).trans h81
        have fr3 : (∀ a, a ≠ 80 → a ≠ sro (t + 2) → X3 a = X1 a) → GFr V X V3 X3 := fun fX => by
          refine ⟨fun x x1 x2 x3 x4 x5 x6 x7 => ?_, fun a a1 a2 a3 => ?_⟩
          · rw [f_V x (by omega) x2 x3 x4 x5 x6 (by omega)]
            exact fr.1 x x1 x2 x3 x4 x5 x6 x7
          · rw [fX a a1 (by omega)]
            exact fr.2 a a1 a2 a3
        have dg3 : DG X3 := fun a ka => by
          by_cases c : a = sro (t + 2)
          · subst c
            have := fdg_le (rdv (pcs V1 (sro t)) (pcs V1 (sro (t + 1))) (dy + gap) dy (V1 174) (V1 176)) (cL (sro (t + 2) + 3))
            rw [hX3]
            omega
          · by_cases d : a = 80
            · subst d
              have p83 : cL (80 + 3) = 13 := mK_z.2.2.1
              omega
            · rw [fX a d c]
              exact dg a ka
        have hz0 : fdg (rdv (pcs V1 (sro t)) (pcs V1 (sro (t + 1))) (dy + gap) dy (V1 174) (V1 176)) (cL (sro (t + 2) + 3)) = 0 → ∀ e, (rdv (pcs V1 (sro t)) (pcs V1 (sro (t + 1))) (dy + gap) dy (V1 174) (V1 176)) e = 0 := fun q e => by
          by_cases c : e < cL (sro (t + 2) + 3)
          · exact fdg_zero (rdv (pcs V1 (sro t)) (pcs V1 (sro (t + 1))) (dy + gap) dy (V1 174) (V1 176)) _ e (by omega) c
          · exact r.rlow e (by omega)
        refine mj_T.eq (pc2 := 88) (st2 := []) ?_ rfl rfl rfl rfl
        refine mj_T.pl rfl rfl rfl rfl ?_
        refine mT_get m4 16 cq_d172 (by decide) rfl rfl ?_
        refine mj_T.pl rfl rfl rfl rfl ?_
        refine mT_aald m4 5 cq_d173 (by decide) rfl rfl (by omega) ⟨by omega, by omega⟩ ?_
        refine mj_T.eq (st2 := [.ref (sro (t + 2))]) ?_ rfl rfl rfl rfl
        refine mT_get (v := .int (jn ((fdg (rdv (pcs V1 (sro t)) (pcs V1 (sro (t + 1))) (dy + gap) dy (V1 174) (V1 176)) (cL (sro (t + 2) + 3)) : Int) - 1))) m4 13 (sro_k (t := t + 2) (by omega)).1 (by decide) rfl (congrArg (fun z : Int => some (Value.int (jn z))) (hX3)) ?_
        refine mj_T.if0 (a := ((fdg (rdv (pcs V1 (sro t)) (pcs V1 (sro (t + 1))) (dy + gap) dy (V1 174) (V1 176)) (cL (sro (t + 2) + 3)) : Int) - 1)) rfl ⟨by have := fdg_le (rdv (pcs V1 (sro t)) (pcs V1 (sro (t + 1))) (dy + gap) dy (V1 174) (V1 176)) (cL (sro (t + 2) + 3)); omega, by have := fdg_le (rdv (pcs V1 (sro t)) (pcs V1 (sro (t + 1))) (dy + gap) dy (V1 174) (V1 176)) (cL (sro (t + 2) + 3)); omega⟩ (fun c5 => ?_) (fun c5 => ?_)
        · simp only [jc, Bool.not_eq_true', Bool.not_eq_false', decide_eq_true_eq, decide_eq_false_iff_not] at c5
          iterate 3 refine mj_T.pl rfl rfl rfl rfl ?_
          refine mj_T.iadd (a := (((t + 2) : Nat) : Int)) (b := 1) rfl ?_
          refine mT_put (v := ((((t + 2) : Nat) : Int) + 1)) m4 16 cq_d172 (by decide) rfl (by simp [jMf, xup]) (by simp [jMf]) rfl (fun h6 m7 => ?_)
          refine mj_T.iinc rfl rfl ?_
          rw [show (((t + 2) : Nat) : Int) + 1 = (((t + 2) + 1 : Nat) : Int) by omega]
          refine mj_T.eq (loc2 := [some (.ref 172), some (.int (jn ((((t + 2) + 1) : Nat) : Int)))]) ?_ rfl rfl rfl rfl
          refine mj_T.pl rfl rfl rfl rfl ?_
          have hfl := fdg_le (rdv (pcs V1 (sro t)) (pcs V1 (sro (t + 1))) (dy + gap) dy (V1 174) (V1 176)) (cL (sro (t + 2) + 3))
          have hfn := fdg_ne (rdv (pcs V1 (sro t)) (pcs V1 (sro (t + 1))) (dy + gap) dy (V1 174) (V1 176)) (cL (sro (t + 2) + 3)) (by omega)
          have hlt : fdg (rdv (pcs V1 (sro t)) (pcs V1 (sro (t + 1))) (dy + gap) dy (V1 174) (V1 176)) (cL (sro (t + 2) + 3)) - 1 < dy := by
            rcases Nat.lt_or_ge (fdg (rdv (pcs V1 (sro t)) (pcs V1 (sro (t + 1))) (dy + gap) dy (V1 174) (V1 176)) (cL (sro (t + 2) + 3)) - 1) dy with q | q
            · exact q
            · exact absurd (r.rlow _ q) hfn
          have hpF : pm (pcs V3 (sro (t + 2))) (rdv (pcs V1 (sro t)) (pcs V1 (sro (t + 1))) (dy + gap) dy (V1 174) (V1 176)) := by
            have hl : ∀ i, ¬ i < cL (sro (t + 2) + 3) → (rdv (pcs V1 (sro t)) (pcs V1 (sro (t + 1))) (dy + gap) dy (V1 174) (V1 176)) i = 0 := fun i hi => r.rlow i (by omega)
            rcases hpm with q | q
            · refine Or.inl fun i => ?_
              by_cases c : i < cL (sro (t + 2) + 3)
              · rw [pcs_in c, q i c]
              · rw [pcs_out c, hl i c]
            · refine Or.inr fun i => ?_
              by_cases c : i < cL (sro (t + 2) + 3)
              · rw [pcs_in c, q i c]
              · rw [pcs_out c, hl i c]
                rfl
          have hFz : ∀ i, fdg (rdv (pcs V1 (sro t)) (pcs V1 (sro (t + 1))) (dy + gap) dy (V1 174) (V1 176)) (cL (sro (t + 2) + 3)) - 1 < i → pcs V3 (sro (t + 2)) i = 0 := fun i hi => by
            have q0 : (rdv (pcs V1 (sro t)) (pcs V1 (sro (t + 1))) (dy + gap) dy (V1 174) (V1 176)) i = 0 := by
              by_cases c : i < cL (sro (t + 2) + 3)
              · exact fdg_zero (rdv (pcs V1 (sro t)) (pcs V1 (sro (t + 1))) (dy + gap) dy (V1 174) (V1 176)) _ i (by omega) c
              · exact r.rlow i (by omega)
            rcases hpF with q | q
            · rw [q i, q0]
            · rw [q i, q0]
              rfl
          have hFn : pcs V3 (sro (t + 2)) (fdg (rdv (pcs V1 (sro t)) (pcs V1 (sro (t + 1))) (dy + gap) dy (V1 174) (V1 176)) (cL (sro (t + 2) + 3)) - 1) ≠ 0 := by
            rcases hpF with q | q
            · rw [q]
              exact hfn
            · rw [q]
              omega
          have r3 : RB A B ma na (pcs V3 (sro (t + 1))) (pcs V3 (sro (t + 2))) dy (fdg (rdv (pcs V1 (sro t)) (pcs V1 (sro (t + 1))) (dy + gap) dy (V1 174) (V1 176)) (cL (sro (t + 2) + 3)) - 1) (V3 174) (V3 176) := by
            rw [eq_3, e174, e176]
            exact r.next hm hn bA bB h1 hpF hlt hFz hFn
          have hsn : sN (srw V1 t) (srw V1 (t + 1)) (srw V3 (t + 2)) := r.1.sN h1 (fun c i => by
            by_cases ci : i < cL (sro (t + 2) + 3)
            · show pcs V3 (sro (t + 2)) i = _
              rw [pcs_in ci, hs1 c i ci]
            · show pcs V3 (sro (t + 2)) i = _
              rw [pcs_out ci, r.rlow i (by omega)]
              rfl) (fun c i => by
            by_cases ci : i < cL (sro (t + 2) + 3)
            · show pcs V3 (sro (t + 2)) i = _
              rw [pcs_in ci, hs2 c i ci]
            · show pcs V3 (sro (t + 2)) i = _
              rw [pcs_out ci, r.rlow i (by omega)])
          have hbF : ∀ e, (srw V3 (t + 2) e).natAbs ≤ bdf (26 - 2 * dy) := fun e => by
            have q0 := r.div hm hn bA bB h1 e
            rcases hpF with q | q
            · show (pcs V3 (sro (t + 2)) e).natAbs ≤ _
              rw [q e]
              exact q0
            · show (pcs V3 (sro (t + 2)) e).natAbs ≤ _
              rw [q e, Int.natAbs_neg]
              exact q0
          have sj3 : SJ A0 (t + 2) V3 X3 := sj.next fP fX2 (rr := fdg (rdv (pcs V1 (sro t)) (pcs V1 (sro (t + 1))) (dy + gap) dy (V1 174) (V1 176)) (cL (sro (t + 2) + 3)) - 1) (dy := dy) (hX3.trans (by omega)) hlt iq (by omega) hFn hFz hsn hbF
          refine mR_st_loop hm hn bA bB u (t + 1) (by omega) V3 _ _ _ _ m7 r3 (sj3.x172 (by omega)) ?_ ?_ (by omega) ?_ hb3 h813 ?_ (dg3.oth (by decide +kernel))
          · exact (congrFun ((xup_oth (by omega)).trans (fX (sro (t + 1)) (by omega) s12)) 2).trans iq
          · exact (congrFun (xup_oth (b := sro (t + 2)) (by omega)) 2).trans (hX3.trans (by omega))
          · rw [xup_at]
            omega
          · have f4 := fr3 fX
            exact ⟨f4.1, fun a a1 a2 a3 => (xup_oth a2).trans (f4.2 a a1 a2 a3)⟩
        · simp only [jc, Bool.not_eq_true', Bool.not_eq_false', decide_eq_true_eq, decide_eq_false_iff_not] at c5
          have hz9 : ∀ i, (rdv (pcs V1 (sro t)) (pcs V1 (sro (t + 1))) (dy + gap) dy (V1 174) (V1 176)) i = 0 := fun i => hz0 (by omega) i
          have hsn : sN (srw V1 t) (srw V1 (t + 1)) pz_0 := r.1.sN h1 (fun _ i => by
            rw [hz9 i]
            rfl) (fun _ i => by
            rw [hz9 i]
            rfl)
          refine mj_T.ret rfl rfl rfl ⟨V3, X3, _, m4, (sj.cg fP fX2).zero ((congrFun (fX 172 (by decide) (by omega)) 2).trans hk) ?_, hb3, h813, fr3 fX, dg3, rfl⟩
          rw [fP t (by omega), fP (t + 1) (by omega)]
          exact hsn
theorem mR_goSt (m : jM g n V X h) (dg : DG X) {A0 : pz_P} (sj0 : SJ A0 1 V X) {ma na : Nat} (hX0 : X 180 2 = (ma : Int)) (hA : ∀ i, ma < i → pcs V 180 i = 0) (hm : ma ≤ 12) (bA : ∀ e, (pcs V 180 e).natAbs ≤ bM) (hb : ∀ j, j < 14 → V (sro j + 1) = 0) (h81 : V 81 = 0) (hX1 : X 210 2 = (na : Int)) (hB : ∀ i, na < i → pcs V 210 i = 0) (hB0 : pcs V 210 na ≠ 0) (hn : na ≤ 12) (hmn : na ≤ ma) (bB : ∀ e, (pcs V 210 e).natAbs ≤ bM) : mj_Ok (D + 6) 70 [.ref 172] h (fun z => ∃ V2 X2 h2, jM g n V2 X2 h2 ∧ GSt A0 V2 X2 ∧ (∀ j, j < 14 → V2 (sro j + 1) = 0) ∧ V2 81 = 0 ∧ GFr V X V2 X2 ∧ DG X2 ∧ z = (.inl none, h2)) := by
  have hL : cL 173 = 14 := mK_r.2.2.2.1
  have h175 : 3 ≤ cL (174 + 1) := by decide +kernel
  have h177 : 3 ≤ cL (176 + 1) := by decide +kernel
  refine mj_Ok.of (M := mj_m70) rfl rfl rfl ?_
  iterate 2 refine mj_T.pl rfl rfl rfl rfl ?_
  refine mT_get m 16 cq_d172 (by decide) rfl rfl ?_
  refine mj_T.pl rfl rfl rfl rfl ?_
  refine mT_aald m 5 cq_d173 (by decide) rfl rfl (by omega) ⟨by omega, by omega⟩ ?_
  refine mj_T.eq (st2 := [.ref 210, .ref 172]) ?_ rfl rfl rfl rfl
  refine mT_get (v := .int (jn ((na : Nat) : Int))) m 13 cq_d210 (by decide) rfl (congrArg (fun z : Int => some (Value.int (jn z))) ((by first | exact hX1 | exact (congrFun (xup_oth (by decide)) 2).trans hX1))) ?_
  refine mj_T.if0 (a := ((na : Nat) : Int)) rfl ⟨by omega, by omega⟩ (fun c1 => ?_) (fun c1 => ?_)
  · simp only [jc, Bool.not_eq_true', Bool.not_eq_false', decide_eq_true_eq, decide_eq_false_iff_not] at c1
    refine mj_T.pl rfl rfl rfl rfl ?_
    refine mT_put (v := 2) m 16 cq_d172 (by decide) rfl (by simp [jMf, xup]) (by simp [jMf]) rfl (fun h2 m3 => ?_)
    refine mj_T.pl rfl rfl rfl rfl ?_
    refine mT_get m3 16 cq_d172 (by decide) rfl rfl ?_
    refine jT.lc 1 rfl rfl ?_
    refine mj_T.call rfl rfl (Nat.le_of_ble_eq_true rfl) (Nat.le_of_ble_eq_true rfl) (mV_of m3 18 cq_d174 (by decide) rfl (by decide) rfl _) rfl (mj_Ok.up (by omega) (mW_setLong (D := 0) (v := ((1 : Nat) : Int)) m3 cq_d174 ⟨by decide, by decide⟩ (Nat.le_trans (jnl_R (v := 1) (by decide)) h175))) (fun v g4 hq => ?_) (fun i g4 hq => ?_)
    rotate_left
    · obtain ⟨_, _, hq⟩ := hq; cases hq
    obtain ⟨_, m5, hq⟩ := hq
    cases hq
    have m5 := m5.to (V' := (jvu V 174 ((1 : Nat) : Int))) (by rfl) rfl
    refine mj_T.eq (pc2 := 29) (st2 := []) ?_ rfl rfl rfl rfl
    refine mj_T.pl rfl rfl rfl rfl ?_
    refine mT_get m5 16 cq_d172 (by decide) rfl rfl ?_
    refine jT.lc 1 rfl rfl ?_
    refine mj_T.call rfl rfl (Nat.le_of_ble_eq_true rfl) (Nat.le_of_ble_eq_true rfl) (mV_of m5 18 cq_d176 (by decide) rfl (by decide) rfl _) rfl (mj_Ok.up (by omega) (mW_setLong (D := 0) (v := ((1 : Nat) : Int)) m5 cq_d176 ⟨by decide, by decide⟩ (Nat.le_trans (jnl_R (v := 1) (by decide)) h177))) (fun v g6 hq => ?_) (fun i g6 hq => ?_)
    rotate_left
    · obtain ⟨_, _, hq⟩ := hq; cases hq
    obtain ⟨_, m7, hq⟩ := hq
    cases hq
    have m7 := m7.to (V' := (jvu (jvu V 174 ((1 : Nat) : Int)) 176 ((1 : Nat) : Int))) (by rfl) rfl
    refine mj_T.eq (pc2 := 37) (st2 := []) ?_ rfl rfl rfl rfl
    refine mj_T.pl rfl rfl rfl rfl ?_
    refine mj_T.pl (loc' := [some (.ref 172), some (.int (jn 2))]) rfl rfl rfl rfl ?_
    obtain ⟨V1, hV1⟩ : ∃ V1, V1 = (jvu (jvu V 174 ((1 : Nat) : Int)) 176 ((1 : Nat) : Int)) := ⟨_, rfl⟩
    rw [← hV1] at m7
    have p0 : pcs V1 180 = pcs V 180 := by rw [hV1, pcs_jvu (by decide), pcs_jvu (by decide)]
    have p1 : pcs V1 210 = pcs V 210 := by rw [hV1, pcs_jvu (by decide), pcs_jvu (by decide)]
    have o1 : V1 174 = 1 := by rw [hV1, jvu_ne _ _ _ (by decide), jvu_at]; rfl
    have o2 : V1 176 = 1 := by rw [hV1, jvu_at]; rfl
    have oo : ∀ x, x ≠ 174 → x ≠ 176 → V1 x = V x := fun x x1 x2 => by rw [hV1, jvu_ne _ _ _ x2, jvu_ne _ _ _ x1]
    have hb1 : ∀ j, j < 14 → V1 (sro j + 1) = 0 := fun j hj => by
      have := (sro_2 hj).1
      rw [oo _ (by omega) (by omega)]
      exact hb j hj
    have h811 : V1 81 = 0 := (oo 81 (by decide) (by decide)).trans h81
    have fr1 : GFr V X V1 (xup X 172 2 2) := ⟨fun x _ _ _ _ x5 x6 _ => oo x x5 x6, fun a _ a2 _ => xup_oth a2⟩
    refine mj_T.eq (loc2 := [some (.ref 172), some (.int (jn ((0 + 2 : Nat) : Int)))]) ?_ rfl rfl rfl rfl
    refine mR_st_loop (D := D) hm hn bA bB 12 0 (by omega) V1 _ _ ma na m7 ?_ ?_ ((congrFun (xup_oth (by decide)) 2).trans hX0) ((congrFun (xup_oth (by decide)) 2).trans hX1) (by omega) (xup_at _ _ _ _) hb1 h811 fr1 (dg.oth (by decide +kernel))
    · show RB (pcs V 180) (pcs V 210) ma na (pcs V1 180) (pcs V1 210) ma na (V1 174) (V1 176)
      rw [p0, p1, o1, o2]
      exact RB.start hA hB hB0 hmn hm bA bB
    · refine SJ.x172 (by decide) (sj0.cg (fun i hi => ?_) (fun _ _ => rfl))
      rcases Nat.lt_or_ge i 1 with c | c
      · obtain rfl : i = 0 := by omega
        exact p0
      · obtain rfl : i = 1 := by omega
        exact p1
  · exfalso
    simp only [jc, Bool.not_eq_true', Bool.not_eq_false', decide_eq_true_eq, decide_eq_false_iff_not] at c1
    omega
theorem mR_goSt0 (m : jM g n V X h) (dg : DG X) {A0 : pz_P} (sj0 : SJ A0 0 V X) (hd0 : ∀ i, drv A0 i = 0) {ma : Nat} (hX0 : X 180 2 = (ma : Int)) (hA : ∀ i, ma < i → pcs V 180 i = 0) (hm : ma ≤ 12) (bA : ∀ e, (pcs V 180 e).natAbs ≤ bM) (hb : ∀ j, j < 14 → V (sro j + 1) = 0) (h81 : V 81 = 0) (hX1 : X 210 2 = -1) (hB : ∀ i, pcs V 210 i = 0) (hA0 : pcs V 180 ma ≠ 0) : mj_Ok (D + 6) 70 [.ref 172] h (fun z => ∃ V2 X2 h2, jM g n V2 X2 h2 ∧ GSt A0 V2 X2 ∧ (∀ j, j < 14 → V2 (sro j + 1) = 0) ∧ V2 81 = 0 ∧ GFr V X V2 X2 ∧ DG X2 ∧ z = (.inl none, h2)) := by
  have hmc : ma < cL (sro 0 + 3) := by rw [(sro_k (t := 0) (by decide)).2]; split <;> omega
  have hL : cL 173 = 14 := mK_r.2.2.2.1
  have h175 : 3 ≤ cL (174 + 1) := by decide +kernel
  have h177 : 3 ≤ cL (176 + 1) := by decide +kernel
  refine mj_Ok.of (M := mj_m70) rfl rfl rfl ?_
  iterate 2 refine mj_T.pl rfl rfl rfl rfl ?_
  refine mT_get m 16 cq_d172 (by decide) rfl rfl ?_
  refine mj_T.pl rfl rfl rfl rfl ?_
  refine mT_aald m 5 cq_d173 (by decide) rfl rfl (by omega) ⟨by omega, by omega⟩ ?_
  refine mj_T.eq (st2 := [.ref 210, .ref 172]) ?_ rfl rfl rfl rfl
  refine mT_get (v := .int (jn (-1))) m 13 cq_d210 (by decide) rfl (congrArg (fun z : Int => some (Value.int (jn z))) ((by first | exact hX1 | exact (congrFun (xup_oth (by decide)) 2).trans hX1))) ?_
  refine mj_T.if0 (a := (-1)) rfl ⟨by omega, by omega⟩ (fun c1 => ?_) (fun c1 => ?_)
  · exfalso
    simp only [jc, Bool.not_eq_true', Bool.not_eq_false', decide_eq_true_eq, decide_eq_false_iff_not] at c1
    omega
  · simp only [jc, Bool.not_eq_true', Bool.not_eq_false', decide_eq_true_eq, decide_eq_false_iff_not] at c1
    iterate 2 refine mj_T.pl rfl rfl rfl rfl ?_
    refine mT_put (v := 1) m 16 cq_d172 (by decide) rfl (by simp [jMf, xup]) (by simp [jMf]) rfl (fun h2 m3 => ?_)
    refine mj_T.pl rfl rfl rfl rfl ?_
    refine mT_get m3 16 cq_d172 (by decide) rfl rfl ?_
    refine jT.lc 1 rfl rfl ?_
    refine mj_T.call rfl rfl (Nat.le_of_ble_eq_true rfl) (Nat.le_of_ble_eq_true rfl) (mV_of m3 18 cq_d174 (by decide) rfl (by decide) rfl _) rfl (mj_Ok.up (by omega) (mW_setLong (D := 0) (v := ((1 : Nat) : Int)) m3 cq_d174 ⟨by decide, by decide⟩ (Nat.le_trans (jnl_R (v := 1) (by decide)) h175))) (fun v g4 hq => ?_) (fun i g4 hq => ?_)
    rotate_left
    · obtain ⟨_, _, hq⟩ := hq; cases hq
    obtain ⟨_, m5, hq⟩ := hq
    cases hq
    have m5 := m5.to (V' := (jvu V 174 ((1 : Nat) : Int))) (by rfl) rfl
    refine mj_T.eq (pc2 := 29) (st2 := []) ?_ rfl rfl rfl rfl
    refine mj_T.pl rfl rfl rfl rfl ?_
    refine mT_get m5 16 cq_d172 (by decide) rfl rfl ?_
    refine jT.lc 1 rfl rfl ?_
    refine mj_T.call rfl rfl (Nat.le_of_ble_eq_true rfl) (Nat.le_of_ble_eq_true rfl) (mV_of m5 18 cq_d176 (by decide) rfl (by decide) rfl _) rfl (mj_Ok.up (by omega) (mW_setLong (D := 0) (v := ((1 : Nat) : Int)) m5 cq_d176 ⟨by decide, by decide⟩ (Nat.le_trans (jnl_R (v := 1) (by decide)) h177))) (fun v g6 hq => ?_) (fun i g6 hq => ?_)
    rotate_left
    · obtain ⟨_, _, hq⟩ := hq; cases hq
    obtain ⟨_, m7, hq⟩ := hq
    cases hq
    have m7 := m7.to (V' := (jvu (jvu V 174 ((1 : Nat) : Int)) 176 ((1 : Nat) : Int))) (by rfl) rfl
    refine mj_T.eq (pc2 := 37) (st2 := []) ?_ rfl rfl rfl rfl
    refine mj_T.pl rfl rfl rfl rfl ?_
    refine mj_T.pl (loc' := [some (.ref 172), some (.int (jn 2))]) rfl rfl rfl rfl ?_
    obtain ⟨V1, hV1⟩ : ∃ V1, V1 = (jvu (jvu V 174 ((1 : Nat) : Int)) 176 ((1 : Nat) : Int)) := ⟨_, rfl⟩
    rw [← hV1] at m7
    have p0 : pcs V1 180 = pcs V 180 := by rw [hV1, pcs_jvu (by decide), pcs_jvu (by decide)]
    have p1 : pcs V1 210 = pcs V 210 := by rw [hV1, pcs_jvu (by decide), pcs_jvu (by decide)]
    have o1 : V1 174 = 1 := by rw [hV1, jvu_ne _ _ _ (by decide), jvu_at]; rfl
    have o2 : V1 176 = 1 := by rw [hV1, jvu_at]; rfl
    have oo : ∀ x, x ≠ 174 → x ≠ 176 → V1 x = V x := fun x x1 x2 => by rw [hV1, jvu_ne _ _ _ x2, jvu_ne _ _ _ x1]
    have hb1 : ∀ j, j < 14 → V1 (sro j + 1) = 0 := fun j hj => by
      have := (sro_2 hj).1
      rw [oo _ (by omega) (by omega)]
      exact hb j hj
    have h811 : V1 81 = 0 := (oo 81 (by decide) (by decide)).trans h81
    have fr1 : GFr V X V1 (xup X 172 2 1) := ⟨fun x _ _ _ _ x5 x6 _ => oo x x5 x6, fun a _ a2 _ => xup_oth a2⟩
    iterate 2 refine mj_T.pl rfl rfl rfl rfl ?_
    refine mT_get m7 16 cq_d172 (by decide) rfl rfl ?_
    refine mT_alen m7 5 cq_d173 (by decide) rfl ?_
    refine mj_T.icmp (a := 2) (b := ((cL 173 : Nat) : Int)) rfl ⟨by omega, by omega⟩ ⟨by omega, by omega⟩ (fun c8 => ?_) (fun c8 => ?_)
    · exfalso
      simp only [jc, decide_eq_true_eq, decide_eq_false_iff_not, hL] at c8
      omega
    · simp only [jc, decide_eq_true_eq, decide_eq_false_iff_not, hL] at c8
      refine mj_T.pl rfl rfl rfl rfl ?_
      refine mT_get m7 16 cq_d172 (by decide) rfl rfl ?_
      iterate 2 refine mj_T.pl rfl rfl rfl rfl ?_
      refine mj_T.isub (a := 2) (b := 1) rfl ?_
      rw [show (2 : Int) - 1 = ((1 : Nat) : Int) by decide]
      refine mT_aald m7 5 cq_d173 (by decide) rfl rfl (by omega) ⟨by omega, by omega⟩ ?_
      refine mj_T.eq (st2 := [.ref 210]) ?_ rfl rfl rfl rfl
      refine mT_get (v := .int (jn (-1))) m7 13 cq_d210 (by decide) rfl (congrArg (fun z : Int => some (Value.int (jn z))) ((by first | exact hX1 | exact (congrFun (xup_oth (by decide)) 2).trans hX1))) ?_
      refine mj_T.if0 (a := (-1)) rfl ⟨by omega, by omega⟩ (fun c9 => ?_) (fun c9 => ?_)
      · simp only [jc, Bool.not_eq_true', Bool.not_eq_false', decide_eq_true_eq, decide_eq_false_iff_not] at c9
        have sj1 : SJ A0 0 V1 (xup X 172 2 1) := SJ.x172 (by decide) (sj0.cg (fun i hi => by
          obtain rfl : i = 0 := by omega
          exact p0) (fun _ _ => rfl))
        exact mj_T.ret rfl rfl rfl ⟨V1, _, _, m7, ⟨0, by decide, xup_at _ _ _ _, ⟨sj1.1, fun _ => hd0, fun q => absurd q (by decide)⟩, sj1⟩, hb1, h811, fr1, dg.oth (by decide +kernel), rfl⟩
      · exfalso
        simp only [jc, Bool.not_eq_true', Bool.not_eq_false', decide_eq_true_eq, decide_eq_false_iff_not] at c9
        omega
end MGS
/-! Sturm.begin and changesFar of the class, exactly; sturmLength, realRoots. -/
/-- a row divided by its content -/
def ppc (f : Nat → Int) : pz_P := fun i => if i < 13 then (f i).tdiv (cgd f 13 : Int) else 0
theorem ppc_ok {f : Nat → Int} {m : Nat} (hf : sml f) (hm : fdg f 13 = m + 1) : 0 < (cgd f 13 : Int) ∧ (cgd f 13 : Int) ≤ 999999999999999999 ∧ (∀ i, i < 13 → f i = (cgd f 13 : Int) * ppc f i) ∧ pz_lt (ppc f) (m + 1) ∧ ppc f m ≠ 0 ∧ (∀ i, (ppc f i).natAbs ≤ 999999999999999999) ∧ pM (ppc f) (rw13 f) := by
  have hle := fdg_le f 13
  have hne := fdg_ne f 13 (by omega)
  rw [hm, Nat.add_sub_cancel] at hne
  have hc0 : cgd f 13 ≠ 0 := fun q => hne (cgd_0 q m (by omega))
  have hcb : cgd f 13 ≤ 999999999999999999 := cgd_bd 13 (fun i hi => hf i hi)
  have hdv : ∀ i, i < 13 → (cgd f 13 : Int) ∣ f i := fun i hi => by
    refine Int.natAbs_dvd_natAbs.mp ?_
    rw [Int.natAbs_natCast]
    exact cgd_dvd f 13 i hi
  have he : ∀ i, i < 13 → f i = (cgd f 13 : Int) * ppc f i := fun i hi => by
    unfold ppc
    rw [if_pos hi]
    exact (Int.mul_tdiv_cancel' (hdv i hi)).symm
  refine ⟨by omega, by omega, he, fun i hi => ?_, fun q => ?_, fun i => ?_, ?_⟩
  · unfold ppc
    by_cases c : i < 13
    · rw [if_pos c, fdg_zero f 13 i (by omega) c, Int.zero_tdiv]
    · rw [if_neg c]
  · have e1 := he m (by omega)
    rw [q, Int.mul_zero] at e1
    exact hne e1
  · unfold ppc
    split
    · rename_i c
      exact Nat.le_trans (Int.natAbs_tdiv_le_natAbs _ _) (hf i c)
    · exact Nat.zero_le _
  · refine ⟨(cgd f 13 : Int), 1, by omega, by decide, ?_⟩
    rw [pz_sc_one]
    funext i
    show (cgd f 13 : Int) * ppc f i = rw13 f i
    unfold rw13
    by_cases c : i < 13
    · rw [if_pos c, he i c]
    · rw [if_neg c]
      unfold ppc
      rw [if_neg c, Int.mul_zero]
theorem SJ.mk0 {A : pz_P} {V : Nat → Int} {X : Nat → Nat → Int} {mm : Nat} (e0 : X (sro 0) 2 = (mm : Int)) (hm : mm ≤ 12) (h0 : srw V 0 mm ≠ 0) (hz : ∀ i, mm < i → srw V 0 i = 0) (hp : pM (srw V 0) A) (hb : ∀ e, (srw V 0 e).natAbs ≤ bM) : SJ A 0 V X := by
  have e : sdg X 0 = mm := by
    unfold sdg
    rw [e0]
    rfl
  refine ⟨⟨fun i hi => ?_, fun i hi => absurd hi (by omega), hp, fun q => absurd q (by omega), fun i hi => absurd hi (by omega)⟩, fun i hi => ?_, fun i hi w => ?_⟩
  · obtain rfl : i = 0 := by omega
    rw [e]
    exact ⟨h0, fun j hj => hz j (by omega)⟩
  · obtain rfl : i = 0 := by omega
    rw [e, e0, (sro_k (t := 0) (by decide)).2, if_pos (by decide)]
    exact ⟨by omega, by omega⟩
  · obtain rfl : i = 0 := by omega
    rw [if_pos (by decide)]
    exact hb w
theorem SJ.mk1 {A : pz_P} {V : Nat → Int} {X : Nat → Nat → Int} {na : Nat} (j : SJ A 0 V X) (e1 : X (sro 1) 2 = (na : Int)) (hn : na < sdg X 0) (h0 : srw V 1 na ≠ 0) (hz : ∀ i, na < i → srw V 1 i = 0) (hp : pM (srw V 1) (drv A)) (hb : ∀ e, (srw V 1 e).natAbs ≤ bM) : SJ A 1 V X := by
  have e : sdg X 1 = na := by
    unfold sdg
    rw [e1]
    rfl
  have c := (j.2.1 0 (Nat.le_refl _)).2
  rw [(sro_k (t := 0) (by decide)).2, if_pos (by decide)] at c
  refine ⟨⟨fun i hi => ?_, fun i hi => ?_, j.1.2.2.1, fun _ => hp, fun i hi => absurd hi (by omega)⟩, fun i hi => ?_, fun i hi w => ?_⟩
  · rcases Nat.lt_or_ge i 1 with c1 | c1
    · exact j.1.1 i (by omega)
    · obtain rfl : i = 1 := by omega
      rw [e]
      exact ⟨h0, fun j hj => hz j (by omega)⟩
  · obtain rfl : i = 0 := by omega
    show sdg X 1 < sdg X 0
    rw [e]
    exact hn
  · rcases Nat.lt_or_ge i 1 with c1 | c1
    · exact j.2.1 i (by omega)
    · obtain rfl : i = 1 := by omega
      rw [e, e1, (sro_k (t := 1) (by decide)).2, if_pos (by decide)]
      exact ⟨by omega, by omega⟩
  · rcases Nat.lt_or_ge i 1 with c1 | c1
    · exact j.2.2 i (by omega) w
    · obtain rfl : i = 1 := by omega
      rw [if_pos (by decide)]
      exact hb w
theorem chg_lt {s : Nat → Int} {i : Nat} {v : Int} (hv : s i = v) (h : v * (chg s i).2 < 0) : ((chg s (i + 1)).1 : Int) = ((chg s i).1 : Int) + 1 ∧ (chg s (i + 1)).2 = v := by
  have hne : v ≠ 0 := fun e => by
    rw [e, Int.zero_mul] at h
    omega
  rw [chg_s, hv, if_neg hne, if_pos (by rw [Int.mul_comm]; exact h)]
  exact ⟨by show (((chg s i).1 + 1 : Nat) : Int) = _; omega, rfl⟩
theorem chg_ge {s : Nat → Int} {i : Nat} {v : Int} (hv : s i = v) (hne : v ≠ 0) (h : ¬ v * (chg s i).2 < 0) : ((chg s (i + 1)).1 : Int) = ((chg s i).1 : Int) + 0 ∧ (chg s (i + 1)).2 = v := by
  rw [chg_s, hv, if_neg hne, if_neg (by rw [Int.mul_comm]; exact h)]
  exact ⟨by omega, rfl⟩
theorem chg_z {s : Nat → Int} {i : Nat} (hv : s i = 0) : ((chg s (i + 1)).1 : Int) = ((chg s i).1 : Int) + 0 ∧ (chg s (i + 1)).2 = (chg s i).2 := by
  rw [chg_s, if_pos hv]
  exact ⟨by omega, rfl⟩
theorem sg_mul {u v : Int} (hu : -1 ≤ u ∧ u ≤ 1) (hv : -1 ≤ v ∧ v ≤ 1) : -1 ≤ u * v ∧ u * v ≤ 1 := by
  have c : u = -1 ∨ u = 0 ∨ u = 1 := by omega
  rcases c with c | c | c <;> subst c <;> omega
theorem sfar_rg (R : Nat → pz_P) (d : Nat → Nat) (w : Int) (i : Nat) : -1 ≤ sfar R d w i ∧ sfar R d w i ≤ 1 := by
  have := jsg_range (R i (d i))
  unfold sfar
  split <;> omega
theorem SJ.lead {A : pz_P} {k : Nat} {V : Nat → Int} {X : Nat → Nat → Int} (j : SJ A k V X) {i : Nat} (hi : i ≤ k) : V (sro i + 4 + 2 * sdg X i) = srw V i (sdg X i) := by
  unfold srw
  rw [pcs_in (j.2.1 i hi).2]
theorem SJ.dg {A : pz_P} {k : Nat} {V : Nat → Int} {X : Nat → Nat → Int} (j : SJ A k V X) {i : Nat} (hi : i ≤ k) : X (sro i) 2 = ((sdg X i : Nat) : Int) := by
  have := (j.2.1 i hi).1
  unfold sdg
  omega
theorem SJ.d12 {A : pz_P} {k : Nat} {V : Nat → Int} {X : Nat → Nat → Int} (j : SJ A k V X) {i : Nat} (hi : i ≤ k) : sdg X i + i ≤ 12 := by
  have a := j.1.di i hi
  have b := (j.2.1 0 (Nat.zero_le _)).2
  rw [(sro_k (t := 0) (by decide)).2, if_pos (by decide)] at b
  omega
theorem bdf_60 (d : Nat) : bdf (25 - 2 * d) < jB ^ 60 := Nat.lt_of_le_of_lt (bdf_mono (by omega)) (show bdf 25 < jB ^ 60 by decide +kernel)
theorem SJ.bd {A : pz_P} {k : Nat} {V : Nat → Int} {X : Nat → Nat → Int} (j : SJ A k V X) {i : Nat} (hi : i ≤ k) (e : Nat) : (srw V i e).natAbs ≤ bdf (25 - 2 * sdg X i) := by
  refine Nat.le_trans (j.2.2 i hi e) ?_
  split
  · rw [← bdf_one]
    exact bdf_mono (by have := j.d12 hi; omega)
  · exact Nat.le_refl _
theorem SJ.l60 {A : pz_P} {k : Nat} {V : Nat → Int} {X : Nat → Nat → Int} (j : SJ A k V X) {i : Nat} (hi : i ≤ k) (e : Nat) : jnl (srw V i e).natAbs ≤ 60 := jnl_le_lt.mpr (Nat.lt_of_le_of_lt (j.bd hi e) (bdf_60 _))
theorem sfar_at {A : pz_P} {k : Nat} {V : Nat → Int} {X : Nat → Nat → Int} (j : SJ A k V X) {i : Nat} (hi : i ≤ k) {s v : Int} (hs : s = 1 ∨ s = -1) (h : (((sdg X i : Nat) : Int).tmod 2 = 0 ∧ v = jsg (V (sro i + 4 + 2 * sdg X i)) * 1) ∨ (¬ ((sdg X i : Nat) : Int).tmod 2 = 0 ∧ v = jsg (V (sro i + 4 + 2 * sdg X i)) * s)) : sfar (srw V) (sdg X) s i = v ∧ v ≠ 0 := by
  have ht : ((sdg X i : Nat) : Int).tmod 2 = ((sdg X i % 2 : Nat) : Int) := rfl
  have hl := j.lead hi
  have hn := (j.1.1 i hi).1
  have hg := jsg_ne hn
  unfold sfar
  rw [hl, ht] at h
  rcases h with ⟨q, e⟩ | ⟨q, e⟩
  · rw [if_neg (by omega), e]
    exact ⟨rfl, by omega⟩
  · rcases hs with r | r
    · subst r
      rw [if_neg (by omega), e]
      exact ⟨rfl, by omega⟩
    · subst r
      rw [if_pos ⟨by decide, by omega⟩, e]
      exact ⟨rfl, by omega⟩
section MSB
variable {g h : mj_H} {n D r u : Nat} {V : Nat → Int} {X : Nat → Nat → Int} {N : Nat → Int} {H : Nat → Nat → Int}
theorem mR_goStC (m : jM g n V X h) (dg : DG X) {A0 : pz_P} {ma : Nat} (hX0 : X 180 2 = (ma : Int)) (hA : ∀ i, ma < i → pcs V 180 i = 0) (hm : ma ≤ 12) (bA : ∀ e, (pcs V 180 e).natAbs ≤ bM) (b : by0 V) (hA0 : pcs V 180 ma ≠ 0) (hc : (X 210 2 = -1 ∧ (∀ i, pcs V 210 i = 0) ∧ SJ A0 0 V X ∧ ∀ i, drv A0 i = 0) ∨ ∃ na : Nat, X 210 2 = (na : Int) ∧ (∀ i, na < i → pcs V 210 i = 0) ∧ pcs V 210 na ≠ 0 ∧ na ≤ 12 ∧ na ≤ ma ∧ (∀ e, (pcs V 210 e).natAbs ≤ bM) ∧ SJ A0 1 V X) : mj_Ok (D + 6) 70 [.ref 172] h (fun z => ∃ (V2 : Nat → Int) (X2 : Nat → Nat → Int) (h2 : mj_H), jM g n V2 X2 h2 ∧ GSt A0 V2 X2 ∧ by0 V2 ∧ GFr V X V2 X2 ∧ DG X2 ∧ z = (.inl none, h2)) := by
  have h81 : V 81 = 0 := b.p cq_d80
  rcases hc with ⟨c1, c2, c3, c4⟩ | ⟨na, c1, c2, c3, c4, c5, c6, c7⟩
  · refine (mR_goSt0 (D := D) m dg c3 c4 hX0 hA hm bA b.row h81 c1 c2 hA0).to fun z hz => ?_
    obtain ⟨V2, X2, h2, m2, ge, hb, h8, fr, d2, e⟩ := hz
    exact ⟨V2, X2, h2, m2, ge, b.goOn hb h8 fr, fr, d2, e⟩
  · refine (mR_goSt (D := D) m dg c7 hX0 hA hm bA b.row h81 c1 c2 c3 c4 c5 c6).to fun z hz => ?_
    obtain ⟨V2, X2, h2, m2, ge, hb, h8, fr, d2, e⟩ := hz
    exact ⟨V2, X2, h2, m2, ge, b.goOn hb h8 fr, fr, d2, e⟩
theorem mR_sbegin (m : jM g n V X h) (b : by0 V) (dg : DG X) (kr : cK r = 2) (hs : sml (X r)) (hr0 : 1 ≤ fdg (X r) 13) : mj_Ok (D + 7) 68 [.ref 172, .ref r, .long (jl (cgd (X r) 13 : Int))] h (fun z => ∃ (V2 : Nat → Int) (X2 : Nat → Nat → Int) (h2 : mj_H), jM g n V2 X2 h2 ∧ GSt (rw13 (X r)) V2 X2 ∧ by0 V2 ∧ FX X X2 ∧ DG X2 ∧ z = (.inl none, h2)) := by
  have hL : cL 173 = 14 := mK_r.2.2.2.1
  have p180 : cL (180 + 3) = 13 := (mK_r.2.2.2.2.2.1 0 (by decide)).2
  have p210 : cL (210 + 3) = 13 := (mK_r.2.2.2.2.2.1 1 (by decide)).2
  have hfl := fdg_le (X r) 13
  obtain ⟨mm, hmm⟩ : ∃ mm, fdg (X r) 13 = mm + 1 := ⟨fdg (X r) 13 - 1, by omega⟩
  obtain ⟨a0, a1, a2, a3, a4, a5, a6⟩ := ppc_ok hs hmm
  have hfa : fdg (ppc (X r)) 13 = mm + 1 := fdg_top (by omega) (fun i hi => a3 i (by omega)) a4
  refine mj_Ok.of (M := mj_m68) rfl rfl rfl ?_
  refine mj_T.pl rfl rfl rfl rfl ?_
  refine mT_get m 16 cq_d172 (by decide) rfl rfl ?_
  refine mj_T.pl rfl rfl rfl rfl ?_
  refine mT_aald m 5 cq_d173 (by decide) rfl rfl (by omega) ⟨by omega, by omega⟩ ?_
  refine mj_T.eq (st2 := [.ref 180]) ?_ rfl rfl rfl rfl
  iterate 2 refine mj_T.pl rfl rfl rfl rfl ?_
  refine mj_T.call rfl rfl (Nat.le_of_ble_eq_true rfl) (Nat.le_of_ble_eq_true rfl) (mV_of m 13 cq_d180 (by decide) rfl (by decide) rfl _) rfl (mj_Ok.up (by omega) (mP_load (D := 0) m cq_d180 kr p180 ⟨by omega, by omega⟩ hs (fun i hi => by rw [cap180 i hi]; omega))) (fun v g1 hq => ?_) (fun i g1 hq => ?_)
  rotate_left
  · obtain ⟨_, _, hq⟩ := hq; cases hq
  obtain ⟨_, m1, hq⟩ := hq
  cases hq
  have hfA : fdg (fun e => (X r e).tdiv (cgd (X r) 13 : Int)) 13 = mm + 1 := by
    rw [← hfa]
    exact fdg_congr 13 (fun i hi => by show _ = ppc (X r) i; unfold ppc; rw [if_pos hi])
  rw [hfA, show ((mm + 1 : Nat) : Int) - 1 = (mm : Int) by omega] at m1
  obtain ⟨V1, hV1⟩ : ∃ V1, V1 = pfl V 180 (fun e => (X r e).tdiv (cgd (X r) 13 : Int)) 13 := ⟨_, rfl⟩
  rw [← hV1] at m1
  have eA : pcs V1 180 = ppc (X r) := funext fun i => by
    unfold pcs ppc
    rw [p180, hV1]
    by_cases c : i < 13
    · rw [if_pos c, if_pos c, pfl_at _ _ _ c]
    · rw [if_neg c, if_neg c]
  have b1 : by0 V1 := by
    rw [hV1]
    exact b.wr cq_d180 (by omega)
  refine mj_T.eq (pc2 := 11) (st2 := []) ?_ rfl rfl rfl rfl
  refine mj_T.pl rfl rfl rfl rfl ?_
  refine mj_T.call rfl rfl (Nat.le_of_ble_eq_true rfl) (Nat.le_of_ble_eq_true rfl) (mV_of m1 16 cq_d172 (by decide) rfl (by decide) rfl _) rfl (mj_Ok.up (by omega) (mR_der (D := 0) (d := mm + 1) m1 (by rw [xup_at]; omega) (by omega) (by rw [eA]; exact fun i _ => a5 i) (by rw [eA]; exact a3))) (fun v g2 hq => ?_) (fun i g2 hq => ?_)
  rotate_left
  · obtain ⟨_, _, hq⟩ := hq; cases hq
  obtain ⟨_, m2, hq⟩ := hq
  cases hq
  rw [eA] at m2
  obtain ⟨V2, hV2⟩ : ∃ V2, V2 = pfl V1 210 (drv (ppc (X r))) 13 := ⟨_, rfl⟩
  rw [← hV2] at m2
  have eA2 : pcs V2 180 = ppc (X r) := by
    rw [← eA]
    funext i
    unfold pcs
    rw [p180, hV2]
    by_cases c : i < 13
    · rw [if_pos c, if_pos c, pfl_off _ _ _ (by omega)]
    · rw [if_neg c, if_neg c]
  have eB2 : pcs V2 210 = drv (ppc (X r)) := funext fun i => by
    unfold pcs
    rw [p210, hV2]
    by_cases c : i < 13
    · rw [if_pos c, pfl_at _ _ _ c]
    · rw [if_neg c]
      unfold drv
      rw [a3 (i + 1) (by omega), Int.zero_mul]
  have b2 : by0 V2 := by
    rw [hV2]
    exact b1.wr cq_d210 (by omega)
  have hle := fdg_le (drv (ppc (X r))) 13
  have dgx : DG (xup (xup X 180 2 (mm : Int)) 210 2 ((fdg (drv (ppc (X r))) 13 : Int) - 1)) := (dg.deg (by omega)).deg (by omega)
  have x180 : (xup (xup X 180 2 (mm : Int)) 210 2 ((fdg (drv (ppc (X r))) 13 : Int) - 1)) 180 2 = (mm : Int) := (congrFun (xup_oth (by decide)) 2).trans (xup_at _ _ _ _)
  have hDz : ∀ i, mm ≤ i → drv (ppc (X r)) i = 0 := fun i hi => by
    unfold drv
    rw [a3 (i + 1) (by omega), Int.zero_mul]
  have bA : ∀ e, (ppc (X r) e).natAbs ≤ bM := fun e => Nat.le_trans (a5 e) (by decide)
  have sj0 : SJ (rw13 (X r)) 0 V2 (xup (xup X 180 2 (mm : Int)) 210 2 ((fdg (drv (ppc (X r))) 13 : Int) - 1)) := SJ.mk0 x180 (by omega) (by show pcs V2 180 mm ≠ 0; rw [eA2]; exact a4) (fun i hi => by show pcs V2 180 i = 0; rw [eA2]; exact a3 i (by omega)) (by show pM (pcs V2 180) _; rw [eA2]; exact a6) (fun e => by show (pcs V2 180 e).natAbs ≤ _; rw [eA2]; exact bA e)
  have hcase : ((xup (xup X 180 2 (mm : Int)) 210 2 ((fdg (drv (ppc (X r))) 13 : Int) - 1)) 210 2 = -1 ∧ (∀ i, pcs V2 210 i = 0) ∧ SJ (rw13 (X r)) 0 V2 (xup (xup X 180 2 (mm : Int)) 210 2 ((fdg (drv (ppc (X r))) 13 : Int) - 1)) ∧ ∀ i, drv (rw13 (X r)) i = 0) ∨ ∃ na : Nat, (xup (xup X 180 2 (mm : Int)) 210 2 ((fdg (drv (ppc (X r))) 13 : Int) - 1)) 210 2 = (na : Int) ∧ (∀ i, na < i → pcs V2 210 i = 0) ∧ pcs V2 210 na ≠ 0 ∧ na ≤ 12 ∧ na ≤ mm ∧ (∀ e, (pcs V2 210 e).natAbs ≤ bM) ∧ SJ (rw13 (X r)) 1 V2 (xup (xup X 180 2 (mm : Int)) 210 2 ((fdg (drv (ppc (X r))) 13 : Int) - 1)) := by
    by_cases c : mm = 0
    · have e0 : fdg (drv (ppc (X r))) 13 = 0 := fdg_of (by omega) (fun i _ _ => hDz i (by omega)) (Or.inl rfl)
      refine Or.inl ⟨by rw [xup_at, e0]; rfl, fun i => by rw [eB2]; exact hDz i (by omega), sj0, fun i => a6.dv.z (hDz i (by omega))⟩
    · have e1 : drv (ppc (X r)) (mm - 1) ≠ 0 := by
        unfold drv
        rw [show mm - 1 + 1 = mm by omega]
        exact Int.mul_ne_zero a4 (by omega)
      have e2 : fdg (drv (ppc (X r))) 13 = mm - 1 + 1 := fdg_top (by omega) (fun i hi => hDz i (by omega)) e1
      have x210 : (xup (xup X 180 2 (mm : Int)) 210 2 ((fdg (drv (ppc (X r))) 13 : Int) - 1)) 210 2 = ((mm - 1 : Nat) : Int) := by
        rw [xup_at, e2]
        omega
      have hB : ∀ e, (pcs V2 210 e).natAbs ≤ bM := fun e => by
        rw [eB2]
        by_cases ce : e < mm
        · unfold drv
          rw [Int.natAbs_mul]
          have q1 := a5 (e + 1)
          have q2 : (ppc (X r) (e + 1)).natAbs * ((e + 1 : Nat) : Int).natAbs ≤ 999999999999999999 * 12 := Nat.mul_le_mul q1 (by omega)
          exact Nat.le_trans q2 (by decide)
        · rw [hDz e (by omega)]
          exact Nat.zero_le _
      have sd0 : sdg (xup (xup X 180 2 (mm : Int)) 210 2 ((fdg (drv (ppc (X r))) 13 : Int) - 1)) 0 = mm := by
        unfold sdg
        rw [show (xup (xup X 180 2 (mm : Int)) 210 2 ((fdg (drv (ppc (X r))) 13 : Int) - 1)) (sro 0) 2 = (mm : Int) from x180]
        rfl
      refine Or.inr ⟨mm - 1, x210, fun i hi => by rw [eB2]; exact hDz i (by omega), by rw [eB2]; exact e1, by omega, by omega, hB, ?_⟩
      exact sj0.mk1 (na := mm - 1) x210 (by rw [sd0]; omega) (by show pcs V2 210 (mm - 1) ≠ 0; rw [eB2]; exact e1) (fun i hi => by show pcs V2 210 i = 0; rw [eB2]; exact hDz i (by omega)) (by show pM (pcs V2 210) _; rw [eB2]; exact a6.dv) hB
  refine mj_T.eq (pc2 := 15) (st2 := []) ?_ rfl rfl rfl rfl
  refine mj_T.pl rfl rfl rfl rfl ?_
  refine mj_T.call rfl rfl (Nat.le_of_ble_eq_true rfl) (Nat.le_of_ble_eq_true rfl) (mV_of m2 16 cq_d172 (by decide) rfl (by decide) rfl _) rfl (mj_Ok.up (by omega) (mR_goStC (D := 0) m2 dgx x180 (fun i hi => by rw [eA2]; exact a3 i (by omega)) (by omega) (by rw [eA2]; exact bA) b2 (by rw [eA2]; exact a4) hcase)) (fun v g3 hq => ?_) (fun i g3 hq => ?_)
  rotate_left
  · obtain ⟨_, _, _, _, _, _, _, _, hq⟩ := hq; cases hq
  obtain ⟨V3, X3, _, m3, gs, b3, fr, d3, hq⟩ := hq
  cases hq
  refine mj_T.eq (pc2 := 19) (st2 := []) ?_ rfl rfl rfl rfl
  exact mj_T.ret rfl rfl rfl ⟨V3, X3, _, m3, gs, b3, ((FX.up (Or.inl cq_d180)).tr (FX.up (Or.inl cq_d210))).tr fr.fx, d3, rfl⟩
theorem mR_far_loop {A : pz_P} {k : Nat} (m : jM g n V X h) (j : SJ A k V X) (hl : X 172 2 = ((k + 1 : Nat) : Int)) {s : Int} (hs : s = 1 ∨ s = -1) : ∀ (u i : Nat), i + u = k + 1 → ∀ l5, mj_T (D + 3) mj_m77 7 [some (.ref 172), some (.int (jn s)), some (.int (jn ((chg (sfar (srw V) (sdg X) s) i).1 : Int))), some (.int (jn (chg (sfar (srw V) (sdg X) s) i).2)), some (.int (jn (i : Int))), l5] [] h (fun z => z = (.inl (some (.int (jn ((chg (sfar (srw V) (sdg X) s) (k + 1)).1 : Int)))), h))
  | 0, i, hi, l5 => by
    have hk := j.k12
    have hcb := chg_le (sfar (srw V) (sdg X) s) i
    iterate 2 refine mj_T.pl rfl rfl rfl rfl ?_
    refine mT_get (v := .int (jn ((k + 1 : Nat) : Int))) m 16 cq_d172 (by decide) rfl (congrArg (fun z : Int => some (Value.int (jn z))) (hl)) ?_
    refine mj_T.icmp (a := ((i : Nat) : Int)) (b := ((k + 1 : Nat) : Int)) rfl ⟨by omega, by omega⟩ ⟨by omega, by omega⟩ (fun c1 => ?_) (fun c1 => ?_)
    · simp only [jc, decide_eq_true_eq, decide_eq_false_iff_not] at c1
      refine mj_T.pl rfl rfl rfl rfl ?_
      obtain rfl : i = k + 1 := by omega
      exact mj_T.ret rfl rfl rfl rfl
    · exfalso
      simp only [jc, decide_eq_true_eq, decide_eq_false_iff_not] at c1
      omega
  | u + 1, i, hi, l5 => by
    have hk := j.k12
    have hL : cL 173 = 14 := mK_r.2.2.2.1
    have hcb := chg_le (sfar (srw V) (sdg X) s) i
    have hcr := chg_rg (s := sfar (srw V) (sdg X) s) i (fun w _ => sfar_rg _ _ _ w)
    have hd12 := j.d12 (i := i) (by omega)
    have ht2 : ((sdg X i : Nat) : Int).tmod 2 = ((sdg X i % 2 : Nat) : Int) := rfl
    have hjr := jsg_range (V (sro i + 4 + 2 * sdg X i))
    iterate 2 refine mj_T.pl rfl rfl rfl rfl ?_
    refine mT_get (v := .int (jn ((k + 1 : Nat) : Int))) m 16 cq_d172 (by decide) rfl (congrArg (fun z : Int => some (Value.int (jn z))) (hl)) ?_
    refine mj_T.icmp (a := ((i : Nat) : Int)) (b := ((k + 1 : Nat) : Int)) rfl ⟨by omega, by omega⟩ ⟨by omega, by omega⟩ (fun c1 => ?_) (fun c1 => ?_)
    · exfalso
      simp only [jc, decide_eq_true_eq, decide_eq_false_iff_not] at c1
      omega
    · simp only [jc, decide_eq_true_eq, decide_eq_false_iff_not] at c1
      iterate 2 refine mj_T.pl rfl rfl rfl rfl ?_
      refine mT_get m 16 cq_d172 (by decide) rfl rfl ?_
      refine mT_alen m 5 cq_d173 (by decide) rfl ?_
      refine mj_T.icmp (a := ((i : Nat) : Int)) (b := ((cL 173 : Nat) : Int)) rfl ⟨by omega, by omega⟩ ⟨by omega, by omega⟩ (fun c2 => ?_) (fun c2 => ?_)
      · exfalso
        simp only [jc, decide_eq_true_eq, decide_eq_false_iff_not, hL] at c2
        omega
      · simp only [jc, decide_eq_true_eq, decide_eq_false_iff_not, hL] at c2
        refine mj_T.pl rfl rfl rfl rfl ?_
        refine mT_get m 16 cq_d172 (by decide) rfl rfl ?_
        refine mj_T.pl rfl rfl rfl rfl ?_
        refine mT_aald m 5 cq_d173 (by decide) rfl rfl (by omega) ⟨by omega, by omega⟩ ?_
        refine mj_T.eq (st2 := [.ref (sro i)]) ?_ rfl rfl rfl rfl
        refine mj_T.call rfl rfl (Nat.le_of_ble_eq_true rfl) (Nat.le_of_ble_eq_true rfl) (mV_of m 13 (sro_k (t := i) (by omega)).1 (by decide) rfl (by decide) rfl _) rfl (mj_Ok.up (by omega) (mP_lead (D := 0) m (sro_k (t := i) (by omega)).1 (j.dg (i := i) (by omega)) (j.2.1 i (by omega)).2)) (fun v g3 hq => ?_) (fun i g3 hq => ?_)
        rotate_left
        · cases hq
        cases hq
        refine mj_T.eq (pc2 := 36) (st2 := [.ref (sro i + 4 + 2 * sdg X i)]) ?_ rfl rfl rfl rfl
        refine mT_sg m ((mK_p (sro_k (t := i) (by omega)).1).2.2.2 _ (j.2.1 i (by omega)).2) rfl ?_ (by rw [j.lead (by omega)]; have := j.l60 (i := i) (by omega) (sdg X i); omega)
        refine mj_T.pl rfl rfl rfl rfl ?_
        refine mT_get m 16 cq_d172 (by decide) rfl rfl ?_
        refine mj_T.pl rfl rfl rfl rfl ?_
        refine mT_aald m 5 cq_d173 (by decide) rfl rfl (by omega) ⟨by omega, by omega⟩ ?_
        refine mj_T.eq (st2 := [.ref (sro i), .int (jn (jsg (V (sro i + 4 + 2 * sdg X i))))]) ?_ rfl rfl rfl rfl
        refine mT_get (v := .int (jn ((sdg X i : Nat) : Int))) m 13 (sro_k (t := i) (by omega)).1 (by decide) rfl (congrArg (fun z : Int => some (Value.int (jn z))) (j.dg (i := i) (by omega))) ?_
        refine mj_T.pl rfl rfl rfl rfl ?_
        refine mj_T.irem rfl ⟨by omega, by omega⟩ ⟨by omega, by omega⟩ (by omega) ?_
        refine mj_T.if0 (a := (((sdg X i : Nat) : Int).tmod 2)) rfl ⟨by omega, by omega⟩ (fun c4 => ?_) (fun c4 => ?_)
        · simp only [jc, Bool.not_eq_true', Bool.not_eq_false', decide_eq_true_eq, decide_eq_false_iff_not] at c4
          have hv := sfar_at j (i := i) (by omega) hs (v := jsg (V (sro i + 4 + 2 * sdg X i)) * 1) (Or.inl ⟨by omega, rfl⟩)
          have hvr := sfar_rg (srw V) (sdg X) s i
          rw [hv.1] at hvr
          have hp := sg_mul hvr hcr
          refine mj_T.pl rfl rfl rfl rfl ?_
          refine mj_T.imul (a := (jsg (V (sro i + 4 + 2 * sdg X i)))) (b := 1) rfl ?_
          refine mj_T.pl (loc' := [some (.ref 172), some (.int (jn s)), some (.int (jn (((chg (sfar (srw V) (sdg X) s) i).1 : Nat) : Int))), some (.int (jn (chg (sfar (srw V) (sdg X) s) i).2)), some (.int (jn ((i : Nat) : Int))), some (.int (jn ((jsg (V (sro i + 4 + 2 * sdg X i))) * 1)))]) rfl rfl rfl rfl ?_
          iterate 3 refine mj_T.pl rfl rfl rfl rfl ?_
          refine mj_T.imul (a := ((jsg (V (sro i + 4 + 2 * sdg X i))) * 1)) (b := (chg (sfar (srw V) (sdg X) s) i).2) rfl ?_
          refine mj_T.if0 (a := (((jsg (V (sro i + 4 + 2 * sdg X i))) * 1) * (chg (sfar (srw V) (sdg X) s) i).2)) rfl ⟨by omega, by omega⟩ (fun c5 => ?_) (fun c5 => ?_)
          · simp only [jc, Bool.not_eq_true', Bool.not_eq_false', decide_eq_true_eq, decide_eq_false_iff_not] at c5
            refine mj_T.pl rfl rfl rfl rfl ?_
            refine mj_T.iadd (a := (((chg (sfar (srw V) (sdg X) s) i).1 : Nat) : Int)) (b := 0) rfl ?_
            refine mj_T.pl (loc' := [some (.ref 172), some (.int (jn s)), some (.int (jn ((((chg (sfar (srw V) (sdg X) s) i).1 : Nat) : Int) + 0))), some (.int (jn (chg (sfar (srw V) (sdg X) s) i).2)), some (.int (jn ((i : Nat) : Int))), some (.int (jn ((jsg (V (sro i + 4 + 2 * sdg X i))) * 1)))]) rfl rfl rfl rfl ?_
            refine mj_T.pl rfl rfl rfl rfl ?_
            refine mj_T.pl (loc' := [some (.ref 172), some (.int (jn s)), some (.int (jn ((((chg (sfar (srw V) (sdg X) s) i).1 : Nat) : Int) + 0))), some (.int (jn ((jsg (V (sro i + 4 + 2 * sdg X i))) * 1))), some (.int (jn ((i : Nat) : Int))), some (.int (jn ((jsg (V (sro i + 4 + 2 * sdg X i))) * 1)))]) rfl rfl rfl rfl ?_
            refine mj_T.iinc rfl rfl ?_
            rw [show ((i : Nat) : Int) + 1 = ((i + 1 : Nat) : Int) by omega]
            refine mj_T.eq (loc2 := [some (.ref 172), some (.int (jn s)), some (.int (jn ((((chg (sfar (srw V) (sdg X) s) i).1 : Nat) : Int) + 0))), some (.int (jn ((jsg (V (sro i + 4 + 2 * sdg X i))) * 1))), some (.int (jn (((i + 1) : Nat) : Int))), some (.int (jn ((jsg (V (sro i + 4 + 2 * sdg X i))) * 1)))]) ?_ rfl rfl rfl rfl
            refine mj_T.pl rfl rfl rfl rfl ?_
            have e9 := chg_ge hv.1 hv.2 (by omega)
            refine mj_T.eq (mR_far_loop m j hl hs u (i + 1) (by omega) (some (.int (jn ((jsg (V (sro i + 4 + 2 * sdg X i))) * 1))))) rfl ?_ rfl rfl
            rw [e9.1, e9.2]
          · simp only [jc, Bool.not_eq_true', Bool.not_eq_false', decide_eq_true_eq, decide_eq_false_iff_not] at c5
            iterate 2 refine mj_T.pl rfl rfl rfl rfl ?_
            refine mj_T.iadd (a := (((chg (sfar (srw V) (sdg X) s) i).1 : Nat) : Int)) (b := 1) rfl ?_
            refine mj_T.pl (loc' := [some (.ref 172), some (.int (jn s)), some (.int (jn ((((chg (sfar (srw V) (sdg X) s) i).1 : Nat) : Int) + 1))), some (.int (jn (chg (sfar (srw V) (sdg X) s) i).2)), some (.int (jn ((i : Nat) : Int))), some (.int (jn ((jsg (V (sro i + 4 + 2 * sdg X i))) * 1)))]) rfl rfl rfl rfl ?_
            refine mj_T.pl rfl rfl rfl rfl ?_
            refine mj_T.pl (loc' := [some (.ref 172), some (.int (jn s)), some (.int (jn ((((chg (sfar (srw V) (sdg X) s) i).1 : Nat) : Int) + 1))), some (.int (jn ((jsg (V (sro i + 4 + 2 * sdg X i))) * 1))), some (.int (jn ((i : Nat) : Int))), some (.int (jn ((jsg (V (sro i + 4 + 2 * sdg X i))) * 1)))]) rfl rfl rfl rfl ?_
            refine mj_T.iinc rfl rfl ?_
            rw [show ((i : Nat) : Int) + 1 = ((i + 1 : Nat) : Int) by omega]
            refine mj_T.eq (loc2 := [some (.ref 172), some (.int (jn s)), some (.int (jn ((((chg (sfar (srw V) (sdg X) s) i).1 : Nat) : Int) + 1))), some (.int (jn ((jsg (V (sro i + 4 + 2 * sdg X i))) * 1))), some (.int (jn (((i + 1) : Nat) : Int))), some (.int (jn ((jsg (V (sro i + 4 + 2 * sdg X i))) * 1)))]) ?_ rfl rfl rfl rfl
            refine mj_T.pl rfl rfl rfl rfl ?_
            have e9 := chg_lt hv.1 (by omega)
            refine mj_T.eq (mR_far_loop m j hl hs u (i + 1) (by omega) (some (.int (jn ((jsg (V (sro i + 4 + 2 * sdg X i))) * 1))))) rfl ?_ rfl rfl
            rw [e9.1, e9.2]
        · simp only [jc, Bool.not_eq_true', Bool.not_eq_false', decide_eq_true_eq, decide_eq_false_iff_not] at c4
          have hv := sfar_at j (i := i) (by omega) hs (v := jsg (V (sro i + 4 + 2 * sdg X i)) * s) (Or.inr ⟨by omega, rfl⟩)
          have hvr := sfar_rg (srw V) (sdg X) s i
          rw [hv.1] at hvr
          have hp := sg_mul hvr hcr
          iterate 2 refine mj_T.pl rfl rfl rfl rfl ?_
          refine mj_T.imul (a := (jsg (V (sro i + 4 + 2 * sdg X i)))) (b := s) rfl ?_
          refine mj_T.pl (loc' := [some (.ref 172), some (.int (jn s)), some (.int (jn (((chg (sfar (srw V) (sdg X) s) i).1 : Nat) : Int))), some (.int (jn (chg (sfar (srw V) (sdg X) s) i).2)), some (.int (jn ((i : Nat) : Int))), some (.int (jn ((jsg (V (sro i + 4 + 2 * sdg X i))) * s)))]) rfl rfl rfl rfl ?_
          iterate 3 refine mj_T.pl rfl rfl rfl rfl ?_
          refine mj_T.imul (a := ((jsg (V (sro i + 4 + 2 * sdg X i))) * s)) (b := (chg (sfar (srw V) (sdg X) s) i).2) rfl ?_
          refine mj_T.if0 (a := (((jsg (V (sro i + 4 + 2 * sdg X i))) * s) * (chg (sfar (srw V) (sdg X) s) i).2)) rfl ⟨by omega, by omega⟩ (fun c6 => ?_) (fun c6 => ?_)
          · simp only [jc, Bool.not_eq_true', Bool.not_eq_false', decide_eq_true_eq, decide_eq_false_iff_not] at c6
            refine mj_T.pl rfl rfl rfl rfl ?_
            refine mj_T.iadd (a := (((chg (sfar (srw V) (sdg X) s) i).1 : Nat) : Int)) (b := 0) rfl ?_
            refine mj_T.pl (loc' := [some (.ref 172), some (.int (jn s)), some (.int (jn ((((chg (sfar (srw V) (sdg X) s) i).1 : Nat) : Int) + 0))), some (.int (jn (chg (sfar (srw V) (sdg X) s) i).2)), some (.int (jn ((i : Nat) : Int))), some (.int (jn ((jsg (V (sro i + 4 + 2 * sdg X i))) * s)))]) rfl rfl rfl rfl ?_
            refine mj_T.pl rfl rfl rfl rfl ?_
            refine mj_T.pl (loc' := [some (.ref 172), some (.int (jn s)), some (.int (jn ((((chg (sfar (srw V) (sdg X) s) i).1 : Nat) : Int) + 0))), some (.int (jn ((jsg (V (sro i + 4 + 2 * sdg X i))) * s))), some (.int (jn ((i : Nat) : Int))), some (.int (jn ((jsg (V (sro i + 4 + 2 * sdg X i))) * s)))]) rfl rfl rfl rfl ?_
            refine mj_T.iinc rfl rfl ?_
            rw [show ((i : Nat) : Int) + 1 = ((i + 1 : Nat) : Int) by omega]
            refine mj_T.eq (loc2 := [some (.ref 172), some (.int (jn s)), some (.int (jn ((((chg (sfar (srw V) (sdg X) s) i).1 : Nat) : Int) + 0))), some (.int (jn ((jsg (V (sro i + 4 + 2 * sdg X i))) * s))), some (.int (jn (((i + 1) : Nat) : Int))), some (.int (jn ((jsg (V (sro i + 4 + 2 * sdg X i))) * s)))]) ?_ rfl rfl rfl rfl
            refine mj_T.pl rfl rfl rfl rfl ?_
            have e9 := chg_ge hv.1 hv.2 (by omega)
            refine mj_T.eq (mR_far_loop m j hl hs u (i + 1) (by omega) (some (.int (jn ((jsg (V (sro i + 4 + 2 * sdg X i))) * s))))) rfl ?_ rfl rfl
            rw [e9.1, e9.2]
          · simp only [jc, Bool.not_eq_true', Bool.not_eq_false', decide_eq_true_eq, decide_eq_false_iff_not] at c6
            iterate 2 refine mj_T.pl rfl rfl rfl rfl ?_
            refine mj_T.iadd (a := (((chg (sfar (srw V) (sdg X) s) i).1 : Nat) : Int)) (b := 1) rfl ?_
            refine mj_T.pl (loc' := [some (.ref 172), some (.int (jn s)), some (.int (jn ((((chg (sfar (srw V) (sdg X) s) i).1 : Nat) : Int) + 1))), some (.int (jn (chg (sfar (srw V) (sdg X) s) i).2)), some (.int (jn ((i : Nat) : Int))), some (.int (jn ((jsg (V (sro i + 4 + 2 * sdg X i))) * s)))]) rfl rfl rfl rfl ?_
            refine mj_T.pl rfl rfl rfl rfl ?_
            refine mj_T.pl (loc' := [some (.ref 172), some (.int (jn s)), some (.int (jn ((((chg (sfar (srw V) (sdg X) s) i).1 : Nat) : Int) + 1))), some (.int (jn ((jsg (V (sro i + 4 + 2 * sdg X i))) * s))), some (.int (jn ((i : Nat) : Int))), some (.int (jn ((jsg (V (sro i + 4 + 2 * sdg X i))) * s)))]) rfl rfl rfl rfl ?_
            refine mj_T.iinc rfl rfl ?_
            rw [show ((i : Nat) : Int) + 1 = ((i + 1 : Nat) : Int) by omega]
            refine mj_T.eq (loc2 := [some (.ref 172), some (.int (jn s)), some (.int (jn ((((chg (sfar (srw V) (sdg X) s) i).1 : Nat) : Int) + 1))), some (.int (jn ((jsg (V (sro i + 4 + 2 * sdg X i))) * s))), some (.int (jn (((i + 1) : Nat) : Int))), some (.int (jn ((jsg (V (sro i + 4 + 2 * sdg X i))) * s)))]) ?_ rfl rfl rfl rfl
            refine mj_T.pl rfl rfl rfl rfl ?_
            have e9 := chg_lt hv.1 (by omega)
            refine mj_T.eq (mR_far_loop m j hl hs u (i + 1) (by omega) (some (.int (jn ((jsg (V (sro i + 4 + 2 * sdg X i))) * s))))) rfl ?_ rfl rfl
            rw [e9.1, e9.2]
theorem mR_far {A : pz_P} {k : Nat} (m : jM g n V X h) (j : SJ A k V X) (hl : X 172 2 = ((k + 1 : Nat) : Int)) {s : Int} (hs : s = 1 ∨ s = -1) : mj_Ok (D + 4) 77 [.ref 172, .int (jn s)] h (fun z => z = (.inl (some (.int (jn ((chg (sfar (srw V) (sdg X) s) (k + 1)).1 : Int)))), h)) := by
  refine mj_Ok.of (M := mj_m77) rfl rfl rfl ?_
  refine mj_T.pl rfl rfl rfl rfl ?_
  refine mj_T.pl (loc' := [some (.ref 172), some (.int (jn s)), some (.int (jn 0)), none, none, none]) rfl rfl rfl rfl ?_
  refine mj_T.pl rfl rfl rfl rfl ?_
  refine mj_T.pl (loc' := [some (.ref 172), some (.int (jn s)), some (.int (jn 0)), some (.int (jn 0)), none, none]) rfl rfl rfl rfl ?_
  refine mj_T.pl rfl rfl rfl rfl ?_
  refine mj_T.pl (loc' := [some (.ref 172), some (.int (jn s)), some (.int (jn 0)), some (.int (jn 0)), some (.int (jn 0)), none]) rfl rfl rfl rfl ?_
  exact mR_far_loop m j hl hs (k + 1) 0 (by omega) none
theorem cv_133 (A : AS N u H) (s : cC N u H h) {a : Int} (ra : -2147483648 ≤ a ∧ a ≤ 2147483647) : mj_Ok 59 133 [.ref 1, .int (jn a)] h (cA (fun k => if k = 0 then 1 else 2) (A_sturmLength N a)) := by
  obtain ⟨V, X, m, b, d, c, jx⟩ := cS.nr A s
  have jx : rjR X := jx
  refine mj_Ok.of (M := mj_m133) rfl rfl rfl ?_
  iterate 2 refine mj_T.pl rfl rfl rfl rfl ?_
  refine mj_T.call rfl rfl (Nat.le_of_ble_eq_true rfl) (Nat.le_of_ble_eq_true rfl) (mV_of m 19 cq_d1 (by decide) rfl (by decide) rfl _) rfl (mj_Ok.up (by omega) (mC_rowOf (D := 0) m (i := a) (by omega))) (fun v g1 hq => ?_) (fun i g1 hq => ?_)
  rotate_left
  · rcases hq with ⟨_, hq⟩ | ⟨hn, hq⟩
    · cases hq
    · cases hq
      exact Or.inl ⟨rfl, fun z => an.n hn⟩
  rcases hq with ⟨ka, hq⟩ | ⟨_, hq⟩
  rotate_left
  · cases hq
  cases hq
  refine mj_T.eq (pc2 := 5) (st2 := [.ref (4 + a.toNat)]) ?_ rfl rfl rfl rfl
  refine mj_T.pl (loc' := [some (.ref 1), some (.int (jn a)), some (.ref (4 + a.toNat))]) rfl rfl rfl rfl ?_
  refine mj_T.pl rfl rfl rfl rfl ?_
  refine mj_T.call rfl rfl (Nat.le_of_ble_eq_true rfl) (Nat.le_of_ble_eq_true rfl) rfl rfl (mj_Ok.up (by omega) (mC_zero (D := 0) m (mK_rt a.toNat (by omega)) (c.sm A.1 ka))) (fun v g2 hq => ?_) (fun i g2 hq => ?_)
  rotate_left
  · rcases hq with ⟨_, hq⟩ | ⟨hn, hq⟩
    · cases hq
    · cases hq
      exact Or.inl ⟨rfl, fun z => an.y ka (an.n (fun q => hn (by rw [fdg_congr 13 (c.rw ka)]; exact q)))⟩
  rcases hq with ⟨kz, hq⟩ | ⟨_, hq⟩
  rotate_left
  · cases hq
  cases hq
  refine mj_T.eq (pc2 := 10) (st2 := []) ?_ rfl rfl rfl rfl
  refine mj_T.pl rfl rfl rfl rfl ?_
  refine mT_get m 19 cq_d1 (by decide) rfl rfl ?_
  iterate 2 refine mj_T.pl rfl rfl rfl rfl ?_
  refine mj_T.call rfl rfl (Nat.le_of_ble_eq_true rfl) (Nat.le_of_ble_eq_true rfl) rfl rfl (mj_Ok.up (by omega) (mS_cont (D := 0) m (mK_rt a.toNat (by omega)) (c.sm A.1 ka))) (fun v g3 hq => ?_) (fun i g3 hq => ?_)
  rotate_left
  · cases hq
  cases hq
  refine mj_T.eq (pc2 := 19) (st2 := [.long (jl ((cgd (X (4 + a.toNat)) 13 : Nat) : Int)), .ref (4 + a.toNat), .ref 172]) ?_ rfl rfl rfl rfl
  refine mj_T.call rfl rfl (Nat.le_of_ble_eq_true rfl) (Nat.le_of_ble_eq_true rfl) (mV_of m 16 cq_d172 (by decide) rfl (by decide) rfl _) rfl (mj_Ok.up (by omega) (mR_sbegin (D := 0) m b d (mK_rt a.toNat (by omega)) (c.sm A.1 ka) kz)) (fun v g4 hq => ?_) (fun i g4 hq => ?_)
  rotate_left
  · obtain ⟨_, _, _, _, _, _, _, _, hq⟩ := hq; cases hq
  obtain ⟨V7, X7, _, m7, gs, b7, fx, d7, hq⟩ := hq
  cases hq
  rw [c.rw13 ka] at gs
  obtain ⟨k9, hk9, l9, rw9, j9⟩ := gs
  refine mj_T.eq (pc2 := 22) (st2 := []) ?_ rfl rfl rfl rfl
  refine mj_T.pl rfl rfl rfl rfl ?_
  refine mT_get m7 19 cq_d1 (by decide) rfl rfl ?_
  refine mT_get (v := .int (jn ((k9 + 1 : Nat) : Int))) m7 16 cq_d172 (by decide) rfl (congrArg (fun z : Int => some (Value.int (jn z))) (l9)) ?_
  exact mj_T.ret rfl rfl rfl ⟨_, ⟨by omega, by omega⟩, rfl, an.y ka (an.y (by rw [← fdg_congr 13 (c.rw ka)]; exact kz) (an.e ⟨k9, _, _, rw9, rfl⟩))⟩
theorem cv_131 (A : AS N u H) (s : cC N u H h) {a : Int} (ra : -2147483648 ≤ a ∧ a ≤ 2147483647) : mj_Ok 59 131 [.ref 1, .int (jn a)] h (cA (fun k => if k = 0 then 1 else 2) (A_realRoots N a)) := by
  obtain ⟨V, X, m, b, d, c, jx⟩ := cS.nr A s
  have jx : rjR X := jx
  refine mj_Ok.of (M := mj_m131) rfl rfl rfl ?_
  iterate 2 refine mj_T.pl rfl rfl rfl rfl ?_
  refine mj_T.call rfl rfl (Nat.le_of_ble_eq_true rfl) (Nat.le_of_ble_eq_true rfl) (mV_of m 19 cq_d1 (by decide) rfl (by decide) rfl _) rfl (mj_Ok.up (by omega) (mC_rowOf (D := 0) m (i := a) (by omega))) (fun v g1 hq => ?_) (fun i g1 hq => ?_)
  rotate_left
  · rcases hq with ⟨_, hq⟩ | ⟨hn, hq⟩
    · cases hq
    · cases hq
      exact Or.inl ⟨rfl, fun z => an.n hn⟩
  rcases hq with ⟨ka, hq⟩ | ⟨_, hq⟩
  rotate_left
  · cases hq
  cases hq
  refine mj_T.eq (pc2 := 5) (st2 := [.ref (4 + a.toNat)]) ?_ rfl rfl rfl rfl
  refine mj_T.pl (loc' := [some (.ref 1), some (.int (jn a)), some (.ref (4 + a.toNat))]) rfl rfl rfl rfl ?_
  refine mj_T.pl rfl rfl rfl rfl ?_
  refine mj_T.call rfl rfl (Nat.le_of_ble_eq_true rfl) (Nat.le_of_ble_eq_true rfl) rfl rfl (mj_Ok.up (by omega) (mC_zero (D := 0) m (mK_rt a.toNat (by omega)) (c.sm A.1 ka))) (fun v g2 hq => ?_) (fun i g2 hq => ?_)
  rotate_left
  · rcases hq with ⟨_, hq⟩ | ⟨hn, hq⟩
    · cases hq
    · cases hq
      exact Or.inl ⟨rfl, fun z => an.y ka (an.n (fun q => hn (by rw [fdg_congr 13 (c.rw ka)]; exact q)))⟩
  rcases hq with ⟨kz, hq⟩ | ⟨_, hq⟩
  rotate_left
  · cases hq
  cases hq
  refine mj_T.eq (pc2 := 10) (st2 := []) ?_ rfl rfl rfl rfl
  refine mj_T.pl rfl rfl rfl rfl ?_
  refine mT_get m 19 cq_d1 (by decide) rfl rfl ?_
  iterate 2 refine mj_T.pl rfl rfl rfl rfl ?_
  refine mj_T.call rfl rfl (Nat.le_of_ble_eq_true rfl) (Nat.le_of_ble_eq_true rfl) rfl rfl (mj_Ok.up (by omega) (mS_cont (D := 0) m (mK_rt a.toNat (by omega)) (c.sm A.1 ka))) (fun v g3 hq => ?_) (fun i g3 hq => ?_)
  rotate_left
  · cases hq
  cases hq
  refine mj_T.eq (pc2 := 19) (st2 := [.long (jl ((cgd (X (4 + a.toNat)) 13 : Nat) : Int)), .ref (4 + a.toNat), .ref 172]) ?_ rfl rfl rfl rfl
  refine mj_T.call rfl rfl (Nat.le_of_ble_eq_true rfl) (Nat.le_of_ble_eq_true rfl) (mV_of m 16 cq_d172 (by decide) rfl (by decide) rfl _) rfl (mj_Ok.up (by omega) (mR_sbegin (D := 0) m b d (mK_rt a.toNat (by omega)) (c.sm A.1 ka) kz)) (fun v g4 hq => ?_) (fun i g4 hq => ?_)
  rotate_left
  · obtain ⟨_, _, _, _, _, _, _, _, hq⟩ := hq; cases hq
  obtain ⟨V7, X7, _, m7, gs, b7, fx, d7, hq⟩ := hq
  cases hq
  rw [c.rw13 ka] at gs
  obtain ⟨k9, hk9, l9, rw9, j9⟩ := gs
  refine mj_T.eq (pc2 := 22) (st2 := []) ?_ rfl rfl rfl rfl
  refine mj_T.pl rfl rfl rfl rfl ?_
  refine mT_get m7 19 cq_d1 (by decide) rfl rfl ?_
  refine mj_T.pl rfl rfl rfl rfl ?_
  refine mj_T.call rfl rfl (Nat.le_of_ble_eq_true rfl) (Nat.le_of_ble_eq_true rfl) (mV_of m7 16 cq_d172 (by decide) rfl (by decide) rfl _) rfl (mj_Ok.up (by omega) (mR_far (D := 0) (s := (-1)) m7 j9 l9 (by decide))) (fun v g5 hq => ?_) (fun i g5 hq => ?_)
  rotate_left
  · cases hq
  cases hq
  have b27 := chg_le (sfar (srw V7) (sdg X7) (-1)) (k9 + 1)
  refine mj_T.eq (pc2 := 30) (st2 := [.int (jn (((chg (sfar (srw V7) (sdg X7) (-1)) (k9 + 1)).1 : Nat) : Int))]) ?_ rfl rfl rfl rfl
  refine mj_T.pl rfl rfl rfl rfl ?_
  refine mT_get m7 19 cq_d1 (by decide) rfl rfl ?_
  refine mj_T.pl rfl rfl rfl rfl ?_
  refine mj_T.call rfl rfl (Nat.le_of_ble_eq_true rfl) (Nat.le_of_ble_eq_true rfl) (mV_of m7 16 cq_d172 (by decide) rfl (by decide) rfl _) rfl (mj_Ok.up (by omega) (mR_far (D := 0) (s := 1) m7 j9 l9 (by decide))) (fun v g6 hq => ?_) (fun i g6 hq => ?_)
  rotate_left
  · cases hq
  cases hq
  have b35 := chg_le (sfar (srw V7) (sdg X7) 1) (k9 + 1)
  refine mj_T.eq (pc2 := 38) (st2 := [.int (jn (((chg (sfar (srw V7) (sdg X7) 1) (k9 + 1)).1 : Nat) : Int)), .int (jn (((chg (sfar (srw V7) (sdg X7) (-1)) (k9 + 1)).1 : Nat) : Int))]) ?_ rfl rfl rfl rfl
  refine mj_T.isub (a := (((chg (sfar (srw V7) (sdg X7) (-1)) (k9 + 1)).1 : Nat) : Int)) (b := (((chg (sfar (srw V7) (sdg X7) 1) (k9 + 1)).1 : Nat) : Int)) rfl ?_
  exact mj_T.ret rfl rfl rfl ⟨_, ⟨by omega, by omega⟩, rfl, an.y ka (an.y (by rw [← fdg_congr 13 (c.rw ka)]; exact kz) (an.e ⟨k9, _, _, rw9, rfl⟩))⟩
end MSB
/-! The reference's row of Sturm, exactly, and its changes of sign. -/
theorem jcm_pM {V W : Nat → Int} {p : Nat} (hW : ∀ e, e < 13 → W (p * 13 + e) = (V (p * 13 + e)).tdiv ((jgk V p 13 : Nat) : Int)) (hne : jpo V p ≠ pz_0) : pM (jpo W p) (jpo V p) := by
  have hg : jgk V p 13 ≠ 0 := fun hg => hne (funext fun e => by
    show (if e < 13 then V (p * 13 + e) else 0) = 0
    split
    · rename_i c
      have h1 := jgk_dvd V p 13 e (Nat.le_refl _) (by omega) c
      rw [hg] at h1
      have h2 := Nat.eq_zero_of_zero_dvd h1
      omega
    · rfl)
  refine ⟨((jgk V p 13 : Nat) : Int), 1, by omega, by decide, ?_⟩
  rw [pz_sc_one]
  funext e
  show ((jgk V p 13 : Nat) : Int) * jpo W p e = jpo V p e
  by_cases he : e < 13
  · rw [jpo_at he, jpo_at he, hW e he]
    have h1 := jgk_dvd V p 13 e (Nat.le_refl _) (by omega) he
    have h2 : ((jgk V p 13 : Nat) : Int) ∣ V (p * 13 + e) := Int.natAbs_dvd_natAbs.mp h1
    exact Int.mul_tdiv_cancel' h2
  · unfold jpo
    rw [if_neg he, if_neg he, Int.mul_zero]
/-- the reference's row: its polynomials, their degrees -/
def rrw (W : Nat → Int) (i : Nat) : pz_P := jpo W (9 + i)
def rsd (W : Nat → Int) (i : Nat) : Nat := jdg W (9 + i) 13 - 1
/-- the rows 0 to k stand there, the next one but for a factor above 0 -/
def RC (A : pz_P) (k : Nat) (W : Nat → Int) : Prop := SPr A k (rrw W) (rsd W) ∧ (k = 0 → pM (jpo W (10 + k)) (drv A)) ∧ (1 ≤ k → sN (rrw W (k - 1)) (rrw W k) (jpo W (10 + k))) ∧ pz_lt (jpo W (10 + k)) (rsd W k)
theorem rsd_top {W : Nat → Int} {i : Nat} (h : 1 ≤ jdg W (9 + i) 13) : rrw W i (rsd W i) ≠ 0 ∧ pz_lt (rrw W i) (rsd W i + 1) := by
  have hl := jdg_le W (9 + i) 13
  unfold rrw rsd
  refine ⟨?_, fun e he => jpo_zb (by omega)⟩
  rw [jpo_at (by omega)]
  exact jdg_ne W (9 + i) 13 h
theorem RC.fin {A : pz_P} {k : Nat} {W : Nat → Int} (h : RC A k W) (hz : jdg W (10 + k) 13 = 0) : SRw A k (rrw W) (rsd W) := by
  have z : jpo W (10 + k) = pz_0 := funext fun i => jpo_zb (by omega)
  obtain ⟨h1, h2, h3, h4⟩ := h
  rw [z] at h2 h3
  exact ⟨h1, fun q i => (h2 q).z rfl, h3⟩
/-- one step: row k + 1 is the candidate of before but for its content; sg R comes next -/
theorem RC.step {A : pz_P} {k : Nat} {W W1 W4 : Nat → Int} {R Q : pz_P} {K : Nat} {c sg : Int} (h : RC A k W) (h1 : 1 ≤ jdg W (10 + k) 13) (hp : pM (jpo W1 (10 + k)) (jpo W (10 + k))) (hj : 1 ≤ jdg W1 (10 + k) 13) (e1 : ∀ i, i ≤ k → jpo W1 (9 + i) = jpo W (9 + i)) (e4 : ∀ i, i ≤ k + 1 → ∀ e, e < 13 → W4 ((9 + i) * 13 + e) = W1 ((9 + i) * 13 + e)) (hQ : pz_lt Q K) (hr : pz_sc c (jpo W1 (9 + k)) = pz_add (pz_mul Q (jpo W1 (10 + k))) R) (hl : pz_lt R (jdg W1 (10 + k) 13 - 1)) (hsg : (sg = -1 ∧ 0 < c) ∨ (sg = 1 ∧ c < 0)) (h4 : jpo W4 (10 + (k + 1)) = pz_sc sg R) : RC A (k + 1) W4 := by
  obtain ⟨g1, g2, g3, g4⟩ := h
  have f4 : ∀ i, i ≤ k + 1 → rrw W4 i = jpo W1 (9 + i) := fun i hi => jpo_eq (e4 i hi)
  have d4 : ∀ i, i ≤ k + 1 → rsd W4 i = jdg W1 (9 + i) 13 - 1 := fun i hi => by
    unfold rsd
    rw [jdg_congr 13 (e4 i hi)]
  have f5 : ∀ i, i ≤ k → rrw W4 i = rrw W i := fun i hi => (f4 i (by omega)).trans (e1 i hi)
  have jeq : ∀ i, i ≤ k → jdg W1 (9 + i) 13 = jdg W (9 + i) 13 := fun i hi => jdg_congr 13 (fun e he => by
    have := congrFun (e1 i hi) e
    rw [jpo_at he, jpo_at he] at this
    exact this)
  have d5 : ∀ i, i ≤ k → rsd W4 i = rsd W i := fun i hi => by
    rw [d4 i (by omega), jeq i hi]
    rfl
  have p5 : SPr A k (rrw W4) (rsd W4) := g1.cg f5 d5
  have fk : rrw W4 (k + 1) = jpo W1 (10 + k) := by
    rw [f4 (k + 1) (Nat.le_refl _), show 9 + (k + 1) = 10 + k by omega]
  have dk : rsd W4 (k + 1) = jdg W1 (10 + k) 13 - 1 := by
    rw [d4 (k + 1) (Nat.le_refl _), show 9 + (k + 1) = 10 + k by omega]
  have tk : rrw W4 (k + 1) (rsd W4 (k + 1)) ≠ 0 ∧ pz_lt (rrw W4 (k + 1)) (rsd W4 (k + 1) + 1) := by
    refine rsd_top ?_
    rw [jdg_congr 13 (e4 (k + 1) (Nat.le_refl _)), show 9 + (k + 1) = 10 + k by omega]
    exact hj
  have lk : rsd W4 (k + 1) < rsd W4 k := by
    have q : pz_lt (rrw W4 (k + 1)) (rsd W k) := by
      rw [fk]
      exact hp.sy.lt g4
    rcases Nat.lt_or_ge (rsd W4 (k + 1)) (rsd W4 k) with c1 | c1
    · exact c1
    · rw [d5 k (Nat.le_refl _)] at c1
      exact absurd (q _ c1) tk.1
  have q5 : SPr A (k + 1) (rrw W4) (rsd W4) := by
    cases k with
    | zero =>
      obtain ⟨a1, a2, a3, a4, a5⟩ := p5
      refine ⟨fun i hi => ?_, fun i hi => ?_, a3, fun _ => ?_, fun i hi => absurd hi (by omega)⟩
      · rcases Nat.lt_or_ge i 1 with c1 | c1
        · exact a1 i (by omega)
        · obtain rfl : i = 0 + 1 := by omega
          exact tk
      · obtain rfl : i = 0 := by omega
        exact lk
      · show pM (rrw W4 (0 + 1)) (drv A)
        rw [fk]
        exact hp.tr (g2 rfl)
    | succ j =>
      refine p5.next ?_ tk.1 tk.2 lk
      rw [f5 j (by omega), f5 (j + 1) (Nat.le_refl _), show j + 2 = j + 1 + 1 from rfl, fk]
      have q := g3 (by omega)
      rw [Nat.add_sub_cancel] at q
      exact q.z hp.sy
  refine ⟨q5, fun q => absurd q (by omega), fun _ => ?_, ?_⟩
  · rw [Nat.add_sub_cancel, f4 k (by omega), fk, h4]
    have hh : ∀ i, c * jpo W1 (9 + k) i = pz_mul Q (jpo W1 (10 + k)) i + 1 * R i := fun i => by
      have e : c * jpo W1 (9 + k) i = pz_mul Q (jpo W1 (10 + k)) i + R i := congrFun hr i
      rw [Int.one_mul]
      exact e
    rcases hsg with ⟨s1, s2⟩ | ⟨s1, s2⟩
    · have w := sN.erp hQ (by decide) s2 hh
      have e : (fun i => -R i) = pz_sc sg R := funext fun i => by
        show -R i = sg * R i
        rw [s1]
        omega
      rw [e] at w
      exact w
    · have w := sN.ern hQ (by decide) s2 hh
      rw [s1, pz_sc_one]
      exact w
  · rw [h4, dk]
    exact hl.sc sg
section JXL
variable {D : Nat} {hp h : mj_H} {q0 q1 q2 q3 : Nat} {fs : List Value} {V : Nat → Int} {a : Nat}
theorem jx_lr (G : jG hp q0 q1 q2 q3 fs) (h7 : 7 < fs.length) {A : Nat} (hA : kq_fit A) {A0 f g : pz_P} (hf : pz_lt f 13) (hg : pz_lt g 13) (hfA : ∀ i, (f i).natAbs ≤ A) (hgA : ∀ i, (g i).natAbs ≤ A) {Q : mj_R → Prop}
    (hend : ∀ (k : Nat) (W : Nat → Int) (h : mj_H), k ≤ 12 → jS (jrl hp q0 fs (k + 1)) q1 q2 q3 W h → (∀ p, 9 ≤ p → p ≤ 9 + k → 1 ≤ jdg W p 13 ∧ ∀ e, e < 13 → (W (p * 13 + e)).natAbs ≤ kq_F A 24) → (∀ s, (s < 26 ∨ 52 ≤ s) → (s < 130 ∨ 299 ≤ s) → s ≠ 652 → s ≠ 653 → s ≠ 654 → s ≠ 655 → s ≠ 663 → s ≠ 664 → W s = V s) → SRw A0 k (rrw W) (rsd W) → Q (.inl none, h)) :
    ∀ (d k : Nat) (W : Nat → Int) (h : mj_H) (e2 e3 e4 : Option Value), jdg W (10 + k) 13 ≤ d → k + 1 + jdg W (10 + k) 13 ≤ 13 → jS (jrl hp q0 fs (k + 1)) q1 q2 q3 W h → (∀ p, 9 ≤ p → p ≤ 9 + k → 1 ≤ jdg W p 13 ∧ ∀ e, e < 13 → (W (p * 13 + e)).natAbs ≤ kq_F A 24) → (∀ y1, kq_rel (jpo W (10 + k)) y1 → klr A f g (jpo W (9 + k)) y1) → (∀ s, (s < 26 ∨ 52 ≤ s) → (s < 130 ∨ 299 ≤ s) → s ≠ 652 → s ≠ 653 → s ≠ 654 → s ≠ 655 → s ≠ 663 → s ≠ 664 → W s = V s) → RC A0 k W → mj_T (D + 7) mj_m216 19 [some (.ref q0), some (.int (jn (a : Nat))), e2, e3, e4] [] h Q := by
  intro d
  induction d with
  | zero =>
    intro k W h e2 e3 e4 hd hk hs hrow hJ hfr rc
    have hd0 : jdg W (10 + k) 13 = 0 := by omega
    iterate 3 refine mj_T.pl rfl rfl rfl rfl ?_
    refine mj_T.gfl rfl (jS_a (jrl_G G (k + 1)) hs) (List.getElem?_set_self h7) ?_
    refine mj_T.iadd (a := 9) (b := ((k + 1 : Nat) : Int)) rfl ?_
    rw [show (9 : Int) + ((k + 1 : Nat) : Int) = ((10 + k : Nat) : Int) by omega]
    refine mj_T.call (ins := .invokevirtual 114) rfl rfl (Nat.le_of_ble_eq_true rfl) (Nat.le_of_ble_eq_true rfl) (by simp [mj_recv, jS_a (jrl_G G (k + 1)) hs]) rfl (jp_degreeOf (D := D + 5) (jrl_G G (k + 1)) (p := 10 + k) (by omega) hs) (fun v' h' hq' => ?_) (fun i h' hq' => by cases hq')
    cases hq'
    rw [hd0]
    refine mj_T.if0 (a := ((0 : Nat) : Int) - 1) rfl ⟨by decide, by decide⟩ (fun hc => ?_) (fun hc => ?_)
    · exact mj_T.ret rfl rfl rfl (hend k W h (by omega) hs hrow hfr (rc.fin (by omega)))
    · simp [jc] at hc
  | succ d ih =>
    intro k W h e2 e3 e4 hd hk hs hrow hJ hfr rc
    have hdl := jdg_le W (10 + k) 13
    iterate 3 refine mj_T.pl rfl rfl rfl rfl ?_
    refine mj_T.gfl rfl (jS_a (jrl_G G (k + 1)) hs) (List.getElem?_set_self h7) ?_
    refine mj_T.iadd (a := 9) (b := ((k + 1 : Nat) : Int)) rfl ?_
    rw [show (9 : Int) + ((k + 1 : Nat) : Int) = ((10 + k : Nat) : Int) by omega]
    refine mj_T.call (ins := .invokevirtual 114) rfl rfl (Nat.le_of_ble_eq_true rfl) (Nat.le_of_ble_eq_true rfl) (by simp [mj_recv, jS_a (jrl_G G (k + 1)) hs]) rfl (jp_degreeOf (D := D + 5) (jrl_G G (k + 1)) (p := 10 + k) (by omega) hs) (fun v' h' hq' => ?_) (fun i h' hq' => by cases hq')
    cases hq'
    refine mj_T.if0 (a := (jdg W (10 + k) 13 : Int) - 1) rfl ⟨by omega, by omega⟩ (fun hc => ?_) (fun hc => ?_)
    · simp only [jc, decide_eq_true_eq] at hc
      exact mj_T.ret rfl rfl rfl (hend k W h (by omega) hs hrow hfr (rc.fin (by omega)))
    simp only [jc, decide_eq_false_iff_not] at hc
    iterate 3 refine mj_T.pl rfl rfl rfl rfl ?_
    refine mj_T.gfl rfl (jS_a (jrl_G G (k + 1)) hs) (List.getElem?_set_self h7) ?_
    refine mj_T.iadd (a := 9) (b := ((k + 1 : Nat) : Int)) rfl ?_
    rw [show (9 : Int) + ((k + 1 : Nat) : Int) = ((10 + k : Nat) : Int) by omega]
    refine mj_T.call (ins := .invokevirtual 136) rfl rfl (Nat.le_of_ble_eq_true rfl) (Nat.le_of_ble_eq_true rfl) (by simp [mj_recv, jS_a (jrl_G G (k + 1)) hs]) rfl (jp_shrinks (D := D) (jrl_G G (k + 1)) (p := 10 + k) (by omega) hs) (fun v' h1 hq' => ?_) (fun i h' hq' => by obtain ⟨_, _, _, _, _, h⟩ := hq'; cases h)
    obtain ⟨W1, _, hs1, a1, a2, hq'⟩ := hq'
    cases hq'
    have b1 := jcm_prim (V := W) (W := W1) (p := 10 + k) (f := 1) (Or.inl rfl) (fun e he => by rw [a1 e he, Int.one_mul])
    have b2 := hJ _ b1
    have b3 : jpo W1 (9 + k) = jpo W (9 + k) := jpo_eq fun e he => a2 _ (by omega) (by omega) (by omega) (by omega) (by omega) (by omega)
    rw [← b3] at b2
    have hne : jpo W (10 + k) ≠ pz_0 := fun e => by
      have k1 := congrFun e (jdg W (10 + k) 13 - 1)
      rw [jpo_at (show jdg W (10 + k) 13 - 1 < 13 by omega)] at k1
      exact jdg_ne W (10 + k) 13 (by omega) k1
    have hne1 : jpo W1 (10 + k) ≠ pz_0 := by
      rcases b1 with ⟨e, _⟩ | ⟨_, _, _, e⟩
      · exact absurd e hne
      · exact kq_prim_ne e
    have hj1 := jpo_ne hne1
    have hj2 : jdg W1 (10 + k) 13 ≤ jdg W (10 + k) 13 := jdg_zle 13 fun e he h0 => by rw [a1 e he, h0, Int.zero_tdiv]
    obtain ⟨db, hdb⟩ : ∃ db, jdg W1 (10 + k) 13 = db + 1 := ⟨jdg W1 (10 + k) 13 - 1, by omega⟩
    have hlead := jdg_ne W1 (10 + k) 13 hj1
    rw [hdb, Nat.add_sub_cancel] at hlead
    have hyl : pz_lt (jpo W1 (10 + k)) (db + 1) := fun i hi => by
      unfold jpo
      split
      · rename_i c
        exact jdg_zero W1 (10 + k) 13 i (by omega) c
      · rfl
    have ydb : jpo W1 (10 + k) db = W1 ((10 + k) * 13 + db) := jpo_at (by omega)
    have hal1 := jdg_le W1 (9 + k) 13
    have hxl : pz_lt (jpo W1 (9 + k)) (db + (jdg W1 (9 + k) 13 - db)) := fun i hi => by
      unfold jpo
      split
      · rename_i c
        exact jdg_zero W1 (9 + k) 13 i (by omega) c
      · rfl
    have hxn : 1 ≤ jdg W1 (9 + k) 13 - db → jpo W1 (9 + k) (db + (jdg W1 (9 + k) 13 - db) - 1) ≠ 0 := fun hn => by
      rw [show db + (jdg W1 (9 + k) 13 - db) - 1 = jdg W1 (9 + k) 13 - 1 by omega, jpo_at (show jdg W1 (9 + k) 13 - 1 < 13 by omega)]
      exact jdg_ne W1 (9 + k) 13 (by omega)
    obtain ⟨al, be, hbe1, hal0, hbe0, hfit⟩ := klr_fits hA hf hg hfA hgA _ _ db (jdg W1 (9 + k) 13 - db) b2 hxl hxn hyl (by rw [ydb]; exact hlead) (by omega)
    have hal : ∀ e, e < 13 → (W1 ((9 + k) * 13 + e)).natAbs ≤ al := fun e he => by
      rw [← jpo_at (V := W1) (p := 9 + k) he]
      exact hal0 e
    have hbe : ∀ e, e < 13 → (W1 ((10 + k) * 13 + e)).natAbs ≤ be := fun e he => by
      rw [← jpo_at (V := W1) (p := 10 + k) he]
      exact hbe0 e
    have hyb : ∀ e, e < 13 → (W1 ((10 + k) * 13 + e)).natAbs ≤ kq_F A 24 := fun e he => by
      rw [← jpo_at (V := W1) (p := 10 + k) he]
      exact klr_ybound hA.1 hgA b2 e
    iterate 2 refine mj_T.pl rfl rfl rfl rfl ?_
    refine mj_T.gfl rfl (jS_a (jrl_G G (k + 1)) hs1) (List.getElem?_set_self h7) ?_
    refine mj_T.pl rfl rfl rfl rfl ?_
    refine mj_T.iadd (a := ((k + 1 : Nat) : Int)) (b := 1) rfl ?_
    rw [show ((k + 1 : Nat) : Int) + 1 = ((k + 1 + 1 : Nat) : Int) by omega]
    refine mj_T.pfl rfl (jS_a (jrl_G G (k + 1)) hs1) (by rw [List.length_set]; exact h7) rfl ?_
    have hs2 := jrl_put G (k + 1 + 1) hs1
    generalize h1.set q0 (.inr (10, (fs.set 7 (.int (jn ((k + 1 : Nat) : Int)))).set 7 (.int (jn ((k + 1 + 1 : Nat) : Int))))) = h2 at hs2
    iterate 2 refine mj_T.pl rfl rfl rfl rfl ?_
    refine mj_T.gfl rfl (jS_a (jrl_G G (k + 1 + 1)) hs2) (List.getElem?_set_self h7) ?_
    refine mj_T.iadd (a := 9) (b := ((k + 1 + 1 : Nat) : Int)) rfl ?_
    refine mj_T.pl rfl rfl rfl rfl ?_
    refine mj_T.isub (b := 1) rfl ?_
    rw [show (9 : Int) + ((k + 1 + 1 : Nat) : Int) - 1 = ((10 + k : Nat) : Int) by omega]
    iterate 5 refine mj_T.pl rfl rfl rfl rfl ?_
    refine mj_T.call (ins := .invokevirtual 114) rfl rfl (Nat.le_of_ble_eq_true rfl) (Nat.le_of_ble_eq_true rfl) (by simp [mj_recv, jS_a (jrl_G G (k + 1 + 1)) hs2]) rfl (jp_degreeOf (D := D + 5) (jrl_G G (k + 1 + 1)) (p := 10 + k) (by omega) hs2) (fun v' h' hq' => ?_) (fun i h' hq' => by cases hq')
    cases hq'
    rw [hdb, show ((db + 1 : Nat) : Int) - 1 = (db : Int) by omega]
    refine mj_T.call (ins := .invokestatic 104) rfl rfl (Nat.le_of_ble_eq_true rfl) (Nat.le_of_ble_eq_true rfl) rfl rfl (jq_slot (D := D + 6) (p := 10 + k) (i := db)) (fun v' h' hq' => ?_) (fun i h' hq' => by cases hq')
    cases hq'
    refine mj_T.call (ins := .invokevirtual 68) rfl rfl (Nat.le_of_ble_eq_true rfl) (Nat.le_of_ble_eq_true rfl) (by simp [mj_recv, jS_a (jrl_G G (k + 1 + 1)) hs2]) rfl (jS_sign (D := D + 6) (jrl_G G (k + 1 + 1)) (s := (10 + k) * 13 + db) (by omega) hs2) (fun v' h' hq' => ?_) (fun i h' hq' => by cases hq')
    cases hq'
    iterate 6 refine mj_T.pl rfl rfl rfl rfl ?_
    refine mj_T.isub (b := 1) rfl ?_
    rw [show ((10 + k : Nat) : Int) - 1 = ((9 + k : Nat) : Int) by omega]
    refine mj_T.pl rfl rfl rfl rfl ?_
    refine mj_T.call (ins := .invokevirtual 145) rfl rfl (Nat.le_of_ble_eq_true rfl) (Nat.le_of_ble_eq_true rfl) (by simp [mj_recv, jS_a (jrl_G G (k + 1 + 1)) hs2]) rfl (jp_dividesPoly (D := D + 2) (jrl_G G (k + 1 + 1)) (a := 9 + k) (b := 10 + k) (lc := W1 ((10 + k) * 13 + db)) (al := al) (be := be) (by omega) (by omega) (by omega) (by omega) (by omega) (by omega) hdb rfl hal hbe hbe1 hfit hs2) (fun v' h3 hq' => ?_) (fun i h' hq' => by obtain ⟨_, _, _, _, _, _, _, h⟩ := hq'; cases h)
    obtain ⟨W2, _, hs3, c1, c3, c2, c4, hq'⟩ := hq'
    cases hq'
    iterate 4 refine mj_T.pl rfl rfl rfl rfl ?_
    refine mj_T.iadd (a := ((10 + k : Nat) : Int)) (b := 1) rfl ?_
    rw [show ((10 + k : Nat) : Int) + 1 = ((10 + (k + 1) : Nat) : Int) by omega]
    refine mj_T.pl rfl rfl rfl rfl ?_
    refine mj_T.call (ins := .invokevirtual 124) rfl rfl (Nat.le_of_ble_eq_true rfl) (Nat.le_of_ble_eq_true rfl) (by simp [mj_recv, jS_a (jrl_G G (k + 1 + 1)) hs3]) rfl (jp_copiesPoly (D := D + 4) (jrl_G G (k + 1 + 1)) (p := 10 + (k + 1)) (q := 3) (by omega) (by omega) (by omega) hs3) (fun v' h4 hq' => ?_) (fun i h' hq' => by obtain ⟨_, _, h⟩ := hq'; cases h)
    obtain ⟨_, hs4, hq'⟩ := hq'
    cases hq'
    have f1 : ∀ e, e < 13 → jfl W2 (10 + (k + 1)) (fun e => W2 (3 * 13 + e)) 13 ((10 + (k + 1)) * 13 + e) = W2 (3 * 13 + e) := fun e he => jfl_at _ _ _ he
    have f2 : ∀ s, (s < (10 + (k + 1)) * 13 ∨ (10 + (k + 1)) * 13 + 13 ≤ s) → jfl W2 (10 + (k + 1)) (fun e => W2 (3 * 13 + e)) 13 s = W2 s := fun s hc => jfl_off _ _ _ hc
    generalize jfl W2 (10 + (k + 1)) (fun e => W2 (3 * 13 + e)) 13 = W3 at hs4 f1 f2
    have fin : ∀ (W4 : Nat → Int) (h5 : mj_H) (sg : Int) (e2 e3 e4 : Option Value), ((sg = -1 ∧ 0 < W1 ((10 + k) * 13 + db) ^ (jdg W1 (9 + k) 13 - db)) ∨ (sg = 1 ∧ W1 ((10 + k) * 13 + db) ^ (jdg W1 (9 + k) 13 - db) < 0)) → jS (jrl hp q0 fs (k + 1 + 1)) q1 q2 q3 W4 h5 → (∀ e, e < 13 → W4 ((10 + (k + 1)) * 13 + e) = sg * W2 (3 * 13 + e)) → (∀ s, (s < (10 + (k + 1)) * 13 ∨ (10 + (k + 1)) * 13 + 13 ≤ s) → W4 s = W2 s) → mj_T (D + 7) mj_m216 19 [some (.ref q0), some (.int (jn (a : Nat))), e2, e3, e4] [] h5 Q := by
      intro W4 h5 sg e2 e3 e4 hsg2 hs5 g1 g2
      have hsg : sg = 1 ∨ sg = -1 := by
        rcases hsg2 with q | q
        · exact Or.inr q.1
        · exact Or.inl q.1
      have w1 : ∀ s, (s < 26 ∨ 52 ≤ s) → (s < (10 + (k + 1)) * 13 ∨ (10 + (k + 1)) * 13 + 13 ≤ s) → s ≠ 652 → s ≠ 654 → W4 s = W1 s := fun s x1 x2 x3 x4 => by rw [g2 s x2, c1 s x1 x3 x4]
      have w2 : jdg W4 (10 + (k + 1)) 13 ≤ db := jdg_of_zero fun e x1 x2 => by rw [g1 e x2, c2 e x1 x2, Int.mul_zero]
      have w3 : jpo W4 (10 + k) = jpo W1 (10 + k) := jpo_eq fun e he => w1 _ (by omega) (by omega) (by omega) (by omega)
      have t2 : jpo W4 (10 + (k + 1)) = pz_sc sg (jpo W2 3) := funext fun e => by
        by_cases he : e < 13
        · rw [jpo_at he, g1 e he]
          show _ = sg * jpo W2 3 e
          rw [jpo_at he]
        · show _ = sg * jpo W2 3 e
          unfold jpo
          rw [if_neg he, if_neg he, Int.mul_zero]
      have rc4 : RC A0 (k + 1) W4 := rc.step (W1 := W1) (by omega) (jcm_pM a1 hne) hj1 (fun i hi => jpo_eq fun e he => a2 _ (by omega) (by omega) (by omega) (by omega) (by omega) (by omega)) (fun i hi e he => w1 _ (by omega) (by omega) (by omega) (by omega)) (jpo_lt W2 2) c3 (fun i hi => by
        by_cases he : i < 13
        · rw [jpo_at he, c2 i (by omega) he]
        · exact jpo_lt W2 3 i (by omega)) hsg2 t2
      refine ih (k + 1) W4 h5 e2 e3 e4 (by omega) (by omega) hs5 (fun p p1 p2 => ?_) (fun y1 hy1 => ?_) (fun s x1 x2 x3 x4 x5 x6 x7 x8 => ?_) rc4
      · by_cases hpk : p = 10 + k
        · subst hpk
          refine ⟨?_, fun e he => ?_⟩
          · exact jpo_ne (by rw [w3]; exact hne1)
          · rw [w1 _ (by omega) (by omega) (by omega) (by omega)]
            exact hyb e he
        · have r1 := hrow p p1 (by omega)
          have r2 : ∀ e, e < 13 → W4 (p * 13 + e) = W (p * 13 + e) := fun e he => by rw [w1 _ (by omega) (by omega) (by omega) (by omega), a2 _ (by omega) (by omega) (by omega) (by omega) (by omega) (by omega)]
          refine ⟨?_, fun e he => ?_⟩
          · rw [jdg_congr 13 r2]
            exact r1.1
          · rw [r2 e he]
            exact r1.2 e he
      · have t1 : jpo W4 (9 + (k + 1)) = jpo W1 (10 + k) := by rw [show 9 + (k + 1) = 10 + k by omega, w3]
        have t2 : jpo W4 (10 + (k + 1)) = pz_sc sg (jpo W2 3) := funext fun e => by
          by_cases he : e < 13
          · rw [jpo_at he, g1 e he]
            show _ = sg * jpo W2 3 e
            rw [jpo_at he]
          · show _ = sg * jpo W2 3 e
            unfold jpo
            rw [if_neg he, if_neg he, Int.mul_zero]
        rw [t1]
        rw [t2] at hy1
        have t3 : jpo W2 (10 + k) = jpo W1 (10 + k) := jpo_eq fun e he => c1 _ (by omega) (by omega) (by omega)
        refine klr_step hA.1 hf hg hfA hgA kq_rel_ex (jpo W1 (9 + k)) (jpo W1 (10 + k)) (jpo W2 2) (jpo W2 3) y1 db b2 hyl (by rw [ydb]; exact hlead) (Int.pow_ne_zero hlead) c3 (jpo_lt W2 2) (fun i hi => ?_) (kq_rel_sg hsg hy1)
        by_cases he : i < 13
        · rw [jpo_at he, c2 i hi he]
        · exact jpo_lt W2 3 i (by omega)
      · rw [w1 s x1 (by omega) x3 x5, a2 s (by omega) x3 x4 x6 x7 x8, hfr s x1 x2 x3 x4 x5 x6 x7 x8]
    have neg : 0 < W1 ((10 + k) * 13 + db) ^ (jdg W1 (9 + k) 13 - db) → mj_T (D + 7) mj_m216 109 [some (.ref q0), some (.int (jn (a : Nat))), some (.int (jn ((10 + k : Nat) : Int))), some (.int (jn (jsg (W1 ((10 + k) * 13 + db))))), some (.int (jn ((jdg W1 (9 + k) 13 - db : Nat) : Int)))] [] h4 Q := fun hps => by
      iterate 3 refine mj_T.pl rfl rfl rfl rfl ?_
      refine mj_T.iadd (a := ((10 + k : Nat) : Int)) (b := 1) rfl ?_
      rw [show ((10 + k : Nat) : Int) + 1 = ((10 + (k + 1) : Nat) : Int) by omega]
      refine mj_T.call (ins := .invokevirtual 139) rfl rfl (Nat.le_of_ble_eq_true rfl) (Nat.le_of_ble_eq_true rfl) (by simp [mj_recv, jS_a (jrl_G G (k + 1 + 1)) hs4]) rfl (jp_negates (D := D + 4) (jrl_G G (k + 1 + 1)) (p := 10 + (k + 1)) (by omega) hs4) (fun v' h5 hq' => ?_) (fun i h' hq' => by obtain ⟨_, _, h⟩ := hq'; cases h)
      obtain ⟨_, hs5, hq'⟩ := hq'
      cases hq'
      refine mj_T.pl rfl rfl rfl rfl ?_
      exact fin _ _ (-1) _ _ _ (Or.inl ⟨rfl, hps⟩) hs5 (fun e he => by rw [jfl_at _ _ _ he, f1 e he]; omega) (fun s hc => by rw [jfl_off _ _ _ hc, f2 s hc])
    refine mj_T.pl rfl rfl rfl rfl ?_
    have hsg := jsg_range (W1 ((10 + k) * 13 + db))
    refine mj_T.if0 (a := jsg (W1 ((10 + k) * 13 + db))) rfl ⟨by omega, by omega⟩ (fun hc2 => ?_) (fun hc2 => ?_)
    · simp only [jc, decide_eq_true_eq] at hc2
      exact neg (ipw_p (jsg_pp hc2) _)
    simp only [jc, decide_eq_false_iff_not] at hc2
    have hng : W1 ((10 + k) * 13 + db) < 0 := by
      rcases Int.lt_or_gt_of_ne hlead with q | q
      · exact q
      · rw [jsg_pos q] at hc2
        exact absurd hc2 (by decide)
    have hpw := ipw_n hng (jdg W1 (9 + k) 13 - db)
    iterate 2 refine mj_T.pl rfl rfl rfl rfl ?_
    refine mj_T.irem (a := ((jdg W1 (9 + k) 13 - db : Nat) : Int)) (b := 2) rfl ⟨by omega, by omega⟩ ⟨by omega, by omega⟩ (by omega) ?_
    have ht : ((jdg W1 (9 + k) 13 - db : Nat) : Int).tmod 2 = (((jdg W1 (9 + k) 13 - db) % 2 : Nat) : Int) := rfl
    refine mj_T.if0 (a := ((jdg W1 (9 + k) 13 - db : Nat) : Int).tmod 2) rfl ⟨by omega, by omega⟩ (fun hc3 => ?_) (fun hc3 => ?_)
    · simp only [jc, Bool.not_eq_true', decide_eq_false_iff_not] at hc3
      refine mj_T.pl rfl rfl rfl rfl ?_
      exact fin _ _ 1 _ _ _ (Or.inr ⟨rfl, hpw.2 (by omega)⟩) hs4 (fun e he => by rw [f1 e he, Int.one_mul]) f2
    · simp only [jc, Bool.not_eq_false', decide_eq_true_eq] at hc3
      exact neg (hpw.1 (by omega))
theorem jx_laysRow (G : jG hp q0 q1 q2 q3 fs) (h7 : 7 < fs.length) {A : Nat} (hA : kq_fit A) (hA2 : 13 * A < jB ^ 698) (ha : a < 9) (ha2 : a ≠ 2) (ha3 : a ≠ 3) (hne : jpo V a ≠ pz_0) (hVA : ∀ e, e < 13 → (V (a * 13 + e)).natAbs * 12 ≤ A) (hs : jS hp q1 q2 q3 V h) :
    mj_Ok (D + 8) 216 [.ref q0, .int (jn (a : Nat))] h (fun r => ∃ (k : Nat) (W : Nat → Int) (h' : mj_H), k ≤ 12 ∧ jS (jrl hp q0 fs (k + 1)) q1 q2 q3 W h' ∧ (∀ p, 9 ≤ p → p ≤ 9 + k → 1 ≤ jdg W p 13 ∧ ∀ e, e < 13 → (W (p * 13 + e)).natAbs ≤ kq_F A 24) ∧ (∀ s, (s < 26 ∨ 52 ≤ s) → (s < 117 ∨ 299 ≤ s) → s ≠ 652 → s ≠ 653 → s ≠ 654 → s ≠ 655 → s ≠ 663 → s ≠ 664 → W s = V s) ∧ (∀ e, e < 13 → W (9 * 13 + e) = V (a * 13 + e)) ∧ SRw (jpo V a) k (rrw W) (rsd W) ∧ r = (.inl none, h')) := by
  refine mj_Ok.of (M := mj_m216) rfl rfl rfl ?_
  iterate 3 refine mj_T.pl rfl rfl rfl rfl ?_
  refine mj_T.call (ins := .invokevirtual 124) rfl rfl (Nat.le_of_ble_eq_true rfl) (Nat.le_of_ble_eq_true rfl) (by simp [mj_recv, jS_a G hs]) rfl (jp_copiesPoly (D := D + 4) G (p := 9) (q := a) (by decide) (by omega) (by omega) hs) (fun v' h1 hq' => ?_) (fun i h' hq' => by obtain ⟨_, _, h⟩ := hq'; cases h)
  obtain ⟨_, hs1, hq'⟩ := hq'
  cases hq'
  have a1 : ∀ e, e < 13 → jfl V 9 (fun e => V (a * 13 + e)) 13 (9 * 13 + e) = V (a * 13 + e) := fun e he => jfl_at _ 9 _ he
  have a2 : ∀ s, (s < 117 ∨ 130 ≤ s) → jfl V 9 (fun e => V (a * 13 + e)) 13 s = V s := fun s hc => jfl_off _ 9 _ (by omega)
  generalize jfl V 9 (fun e => V (a * 13 + e)) 13 = W1 at hs1 a1 a2
  iterate 2 refine mj_T.pl rfl rfl rfl rfl ?_
  refine mj_T.pfl rfl (jS_a G hs1) h7 rfl ?_
  have hs2 := jrl_first G 1 hs1
  refine mj_T.eq (h2 := h1.set q0 (.inr (10, fs.set 7 (.int (jn ((1 : Nat) : Int)))))) ?_ rfl rfl rfl rfl
  generalize h1.set q0 (.inr (10, fs.set 7 (.int (jn ((1 : Nat) : Int))))) = h2 at hs2
  iterate 3 refine mj_T.pl rfl rfl rfl rfl ?_
  refine mj_T.call (ins := .invokevirtual 149) rfl rfl (Nat.le_of_ble_eq_true rfl) (Nat.le_of_ble_eq_true rfl) (by simp [mj_recv, jS_a (jrl_G G 1) hs2]) rfl (jp_derives (D := D + 4) (V := W1) (jrl_G G 1) (p := 10) (a := a) (by decide) (by omega) (by omega) (fun e he => jnl_of_lt (M := 13 * A) (by rw [show a * 13 + e + 1 = a * 13 + (e + 1) by omega, a2 _ (by omega), Int.natAbs_mul]; have k1 := hVA (e + 1) (by omega); have k2 : (V (a * 13 + (e + 1))).natAbs * ((e + 1 : Nat) : Int).natAbs ≤ (V (a * 13 + (e + 1))).natAbs * 12 := Nat.mul_le_mul_left _ (by omega); omega) hA2) hs2) (fun v' h3 hq' => ?_) (fun i h' hq' => by obtain ⟨_, _, _, _, h⟩ := hq'; cases h)
  obtain ⟨W2, _, hs3, b1, hq'⟩ := hq'
  cases hq'
  have c1 : ∀ s, (s < 130 ∨ 143 ≤ s) → s ≠ 652 → W2 s = W1 s := fun s x1 x2 => by rw [b1 s x2, jfl_off _ 10 _ (by omega)]
  have c2 : ∀ e, e < 13 → W2 (10 * 13 + e) = if e < 12 then jdv W1 a e else 0 := fun e he => by rw [b1 _ (by omega), jfl_at _ 10 _ he]
  have c3 : ∀ e, e < 13 → (W2 (10 * 13 + e)).natAbs ≤ A := fun e he => by
    rw [c2 e he]
    split
    · show (W1 (a * 13 + e + 1) * ((e + 1 : Nat) : Int)).natAbs ≤ A
      rw [show a * 13 + e + 1 = a * 13 + (e + 1) by omega, a2 _ (by omega), Int.natAbs_mul]
      have k1 := hVA (e + 1) (by omega)
      have k2 : (V (a * 13 + (e + 1))).natAbs * ((e + 1 : Nat) : Int).natAbs ≤ (V (a * 13 + (e + 1))).natAbs * 12 := Nat.mul_le_mul_left _ (by omega)
      omega
    · exact Nat.zero_le _
  have c4 : ∀ e, e < 13 → W2 (9 * 13 + e) = V (a * 13 + e) := fun e he => by rw [c1 _ (by omega) (by omega), a1 e he]
  have c5 : jpo W2 9 = jpo V a := jpo_eq c4
  have c6 : ∀ e, e < 13 → (V (a * 13 + e)).natAbs ≤ A := fun e he => by have := hVA e he; omega
  have c7 : jdg W2 10 13 ≤ 12 := jdg_of_zero fun e x1 x2 => by rw [c2 e x2, if_neg (by omega)]
  refine jx_lr (D := D) (V := W2) (a := a) G h7 hA (A0 := jpo V a) (f := jpo V a) (g := jpo W2 10) (jpo_lt _ _) (jpo_lt _ _) (jpo_le c6) (jpo_le c3) (fun k W h4 k1 k2 k3 k4 k5 => ⟨k, W, h4, k1, k2, k3, fun s x1 x2 x3 x4 x5 x6 x7 x8 => by rw [k4 s x1 (by omega) x3 x4 x5 x6 x7 x8, c1 s (by omega) x3, a2 s (by omega)], fun e he => by rw [k4 _ (by omega) (by omega) (by omega) (by omega) (by omega) (by omega) (by omega) (by omega), c4 e he], k5, rfl⟩) 13 0 W2 h3 _ _ _ (jdg_le _ _ _) (by show 0 + 1 + jdg W2 10 13 ≤ 13; omega) hs3 (fun p p1 p2 => ?_) (fun y1 hy => Or.inr ⟨c5, hy⟩) (fun s _ _ _ _ _ _ _ _ => rfl) ?_
  · have hp9 : p = 9 := by omega
    subst hp9
    refine ⟨jpo_ne (by rw [c5]; exact hne), fun e he => ?_⟩
    rw [c4 e he]
    exact Nat.le_trans (c6 e he) (kq_F_ge hA.1 (by decide))
  · have e9 : jpo W2 (9 + 0) = jpo V a := c5
    have hj : 1 ≤ jdg W2 (9 + 0) 13 := jpo_ne (by rw [e9]; exact hne)
    have hl9 := jdg_le W2 (9 + 0) 13
    have ed : jpo W2 10 = drv (jpo V a) := funext fun e => by
      unfold drv
      by_cases he : e < 13
      · rw [jpo_at he, c2 e he]
        by_cases h12 : e < 12
        · rw [if_pos h12, jpo_at (show e + 1 < 13 by omega)]
          show W1 (a * 13 + e + 1) * ((e + 1 : Nat) : Int) = _
          rw [show a * 13 + e + 1 = a * 13 + (e + 1) by omega, a2 _ (by omega)]
        · rw [if_neg h12, jpo_lt V a (e + 1) (by omega), Int.zero_mul]
      · rw [jpo_lt W2 10 e (by omega), jpo_lt V a (e + 1) (by omega), Int.zero_mul]
    have tp := rsd_top hj
    have t0 : ∀ i, i = 0 → rrw W2 i = jpo V a := fun i hi => by
      subst hi
      exact e9
    refine ⟨⟨fun i hi => ?_, fun i hi => absurd hi (by omega), ?_, fun q => absurd q (by omega), fun i hi => absurd hi (by omega)⟩, fun _ => ?_, fun q => absurd q (by omega), fun i hi => ?_⟩
    · obtain rfl : i = 0 := by omega
      exact tp
    · rw [t0 0 rfl]
      exact pM.rf _
    · show pM (jpo W2 10) _
      rw [ed]
      exact pM.rf _
    · show jpo W2 10 i = 0
      rw [ed]
      unfold drv
      have q := tp.2 (i + 1) (by omega)
      rw [t0 0 rfl] at q
      rw [q, Int.zero_mul]
end JXL
/-! The reference's changes of sign, exactly; sturmLength, realRoots, changes, rootsBetween. -/
theorem chg_ltc {s : Nat → Int} {i : Nat} {v : Int} (hv : s i = v) (h : (chg s i).2 * v < 0) : ((chg s (i + 1)).1 : Int) = ((chg s i).1 : Int) + 1 ∧ (chg s (i + 1)).2 = v := chg_lt hv (by rw [Int.mul_comm]; exact h)
theorem chg_gec {s : Nat → Int} {i : Nat} {v : Int} (hv : s i = v) (hne : v ≠ 0) (h : ¬ (chg s i).2 * v < 0) : ((chg s (i + 1)).1 : Int) = ((chg s i).1 : Int) ∧ (chg s (i + 1)).2 = v := by
  have := chg_ge hv hne (by rw [Int.mul_comm]; exact h)
  exact ⟨this.1.trans (Int.add_zero _), this.2⟩
/-- the signs that the reference counts -/
def rsg (V : Nat → Int) (way : Int) (i : Nat) : Int := if way = 0 then sat (rrw V) (V 656) (V 657) i else sfar (rrw V) (rsd V) way i
theorem rsg_cg {V W : Nat → Int} {way : Int} {k : Nat} (h : ∀ i, i ≤ k → ∀ e, e < 13 → W ((9 + i) * 13 + e) = V ((9 + i) * 13 + e)) (h6 : W 656 = V 656) (h7 : W 657 = V 657) : chg (rsg W way) (k + 1) = chg (rsg V way) (k + 1) := chg_cg (k + 1) (fun i hi => by
  have e1 : rrw W i = rrw V i := jpo_eq (h i (by omega))
  have e2 : rsd W i = rsd V i := by
    unfold rsd
    rw [jdg_congr 13 (h i (by omega))]
  unfold rsg sat sfar
  rw [e1, e2, h6, h7])
section JXC
variable {D : Nat} {hp h : mj_H} {q0 q1 q2 q3 : Nat} {fs : List Value} {V : Nat → Int} {k : Nat}
theorem jx_ch (G : jG hp q0 q1 q2 q3 fs) (h7 : fs[7]? = some (.int (jn ((k + 1 : Nat) : Int)))) (hk : k ≤ 12) {way : Int} (hw : -1 ≤ way ∧ way ≤ 1) {C x : Nat} (hrow : (∀ p, 9 ≤ p → p ≤ 9 + k → 1 ≤ jdg V p 13 ∧ ∀ e, e < 13 → (V (p * 13 + e)).natAbs ≤ C)) (hw0 : way = 0 → (V 656).natAbs ≤ x ∧ (V 657).natAbs ≤ x ∧ 1 ≤ x ∧ 13 * (C * x ^ 12) < jB ^ 698 ∧ x ^ 12 < jB ^ 698) {Q : mj_R → Prop}
    (hend : ∀ (W : Nat → Int) (h : mj_H) (z : Int), jS hp q1 q2 q3 W h → (∀ s, s ≠ 652 → s ≠ 659 → s ≠ 660 → W s = V s) → 0 ≤ z → z ≤ 13 → z = ((chg (rsg V way) (k + 1)).1 : Int) → Q (.inl (some (.int (jn z))), h)) :
    ∀ (m j : Nat) (W : Nat → Int) (h : mj_H) (many ahead : Int) (e5 e6 : Option Value), j + m = k + 1 → jS hp q1 q2 q3 W h → (∀ s, s ≠ 652 → s ≠ 659 → s ≠ 660 → W s = V s) → 0 ≤ many → many ≤ j → -1 ≤ ahead → ahead ≤ 1 → many = ((chg (rsg V way) j).1 : Int) → ahead = (chg (rsg V way) j).2 → mj_T (D + 5) mj_m217 8 [some (.ref q0), some (.int (jn way)), some (.int (jn many)), some (.int (jn ahead)), some (.int (jn ((9 + j : Nat) : Int))), e5, e6] [] h Q := by
  intro m
  induction m with
  | zero =>
    intro j W h many ahead e5 e6 hj hs hf m1 m2 n1 n2 em en
    iterate 3 refine mj_T.pl rfl rfl rfl rfl ?_
    refine mj_T.gfl rfl (jS_a G hs) h7 ?_
    refine mj_T.iadd (a := 9) (b := ((k + 1 : Nat) : Int)) rfl ?_
    refine mj_T.icmp (a := ((9 + j : Nat) : Int)) (b := 9 + ((k + 1 : Nat) : Int)) rfl ⟨by omega, by omega⟩ ⟨by omega, by omega⟩ (fun hc => ?_) (fun hc => ?_)
    · refine mj_T.pl rfl rfl rfl rfl ?_
      exact mj_T.ret rfl rfl rfl (hend W h many hs hf m1 (by omega) (by rw [em, show j = k + 1 by omega]))
    · simp only [jc, decide_eq_false_iff_not] at hc
      omega
  | succ m ih =>
    intro j W h many ahead e5 e6 hj hs hf m1 m2 n1 n2 em en
    iterate 3 refine mj_T.pl rfl rfl rfl rfl ?_
    refine mj_T.gfl rfl (jS_a G hs) h7 ?_
    refine mj_T.iadd (a := 9) (b := ((k + 1 : Nat) : Int)) rfl ?_
    refine mj_T.icmp (a := ((9 + j : Nat) : Int)) (b := 9 + ((k + 1 : Nat) : Int)) rfl ⟨by omega, by omega⟩ ⟨by omega, by omega⟩ (fun hc => ?_) (fun hc => ?_)
    · simp only [jc, decide_eq_true_eq] at hc
      omega
    obtain ⟨r1, r2⟩ := hrow (9 + j) (by omega) (by omega)
    have hdl := jdg_le W (9 + j) 13
    have hdeq : jdg W (9 + j) 13 = jdg V (9 + j) 13 := jdg_congr 13 fun e he => hf _ (by omega) (by omega) (by omega)
    have hWC : ∀ e, e < 13 → (W ((9 + j) * 13 + e)).natAbs ≤ C := fun e he => by
      rw [hf _ (by omega) (by omega) (by omega)]
      exact r2 e he
    obtain ⟨d, hd⟩ : ∃ d, jdg W (9 + j) 13 = d + 1 := ⟨jdg W (9 + j) 13 - 1, by omega⟩
    have t93 : ∀ (W1 : Nat → Int) (h1 : mj_H) (many ahead : Int) (e5 e6 : Option Value), jS hp q1 q2 q3 W1 h1 → (∀ s, s ≠ 652 → s ≠ 659 → s ≠ 660 → W1 s = V s) → 0 ≤ many → many ≤ j + 1 → -1 ≤ ahead → ahead ≤ 1 → many = ((chg (rsg V way) (j + 1)).1 : Int) → ahead = (chg (rsg V way) (j + 1)).2 → mj_T (D + 5) mj_m217 93 [some (.ref q0), some (.int (jn way)), some (.int (jn many)), some (.int (jn ahead)), some (.int (jn ((9 + j : Nat) : Int))), e5, e6] [] h1 Q := by
      intro W1 h1 many ahead e5 e6 hs1 hf1 x1 x2 x3 x4 x5 x6
      refine mj_T.iinc (a := ((9 + j : Nat) : Int)) rfl rfl ?_
      refine mj_T.pl rfl rfl rfl rfl ?_
      rw [show ((9 + j : Nat) : Int) + 1 = ((9 + (j + 1) : Nat) : Int) by omega]
      exact ih (j + 1) W1 h1 many ahead e5 e6 (by omega) hs1 hf1 x1 (by omega) x3 x4 x5 x6
    have t70 : ∀ (W1 : Nat → Int) (h1 : mj_H) (z : Int), jS hp q1 q2 q3 W1 h1 → (∀ s, s ≠ 652 → s ≠ 659 → s ≠ 660 → W1 s = V s) → -1 ≤ z → z ≤ 1 → rsg V way j = z → mj_T (D + 5) mj_m217 70 [some (.ref q0), some (.int (jn way)), some (.int (jn many)), some (.int (jn ahead)), some (.int (jn ((9 + j : Nat) : Int))), some (.int (jn (d : Int))), e6] [.int (jn z)] h1 Q := by
      intro W1 h1 z hs1 hf1 z1 z2 hz
      iterate 2 refine mj_T.pl rfl rfl rfl rfl ?_
      refine mj_T.if0 (a := z) rfl ⟨by omega, by omega⟩ (fun hc1 => ?_) (fun hc1 => ?_)
      · iterate 2 refine mj_T.pl rfl rfl rfl rfl ?_
        refine mj_T.imul rfl ?_
        have hb : -1 ≤ ahead * z ∧ ahead * z ≤ 1 := by
          have c1 : z = -1 ∨ z = 0 ∨ z = 1 := by omega
          rcases c1 with c | c | c <;> subst c <;> omega
        refine mj_T.if0 (a := ahead * z) rfl ⟨by omega, by omega⟩ (fun hc2 => ?_) (fun hc2 => ?_)
        · iterate 2 refine mj_T.pl rfl rfl rfl rfl ?_
          simp only [jc, Bool.not_eq_true', Bool.not_eq_false', decide_eq_true_eq, decide_eq_false_iff_not] at hc1 hc2
          have e9 := chg_gec hz (by omega) (by rw [← en]; omega)
          exact t93 W1 h1 many z _ _ hs1 hf1 m1 (by omega) z1 z2 (em.trans e9.1.symm) e9.2.symm
        · refine mj_T.iinc (a := many) rfl rfl ?_
          iterate 2 refine mj_T.pl rfl rfl rfl rfl ?_
          simp only [jc, Bool.not_eq_true', Bool.not_eq_false', decide_eq_true_eq, decide_eq_false_iff_not] at hc2
          have e9 := chg_ltc hz (by rw [← en]; omega)
          exact t93 W1 h1 (many + 1) z _ _ hs1 hf1 (by omega) (by omega) z1 z2 (by have q := e9.1; omega) e9.2.symm
      · refine mj_T.pl rfl rfl rfl rfl ?_
        simp only [jc, Bool.not_eq_true', Bool.not_eq_false', decide_eq_true_eq, decide_eq_false_iff_not] at hc1
        have e9 := chg_z (s := rsg V way) (i := j) (hz.trans (by omega))
        exact t93 W1 h1 many ahead _ _ hs1 hf1 m1 (by omega) n1 n2 (by have q := e9.1; omega) (en.trans e9.2.symm)
    iterate 2 refine mj_T.pl rfl rfl rfl rfl ?_
    refine mj_T.call (ins := .invokevirtual 114) rfl rfl (Nat.le_of_ble_eq_true rfl) (Nat.le_of_ble_eq_true rfl) (by simp [mj_recv, jS_a G hs]) rfl (jp_degreeOf (D := D + 3) G (p := 9 + j) (by omega) hs) (fun v' h' hq' => ?_) (fun i h' hq' => by cases hq')
    cases hq'
    rw [hd, show ((d + 1 : Nat) : Int) - 1 = (d : Int) by omega]
    iterate 2 refine mj_T.pl rfl rfl rfl rfl ?_
    refine mj_T.if0 (a := way) rfl ⟨by omega, by omega⟩ (fun hc1 => ?_) (fun hc1 => ?_)
    · simp only [jc, Bool.not_eq_true', decide_eq_false_iff_not] at hc1
      have rl : rrw V j (rsd V j) = W ((9 + j) * 13 + d) := by
        have e1 : rsd V j = d := by
          unfold rsd
          rw [← hdeq, hd]
          rfl
        unfold rrw
        rw [e1, jpo_at (by omega), hf _ (by omega) (by omega) (by omega)]
      have rd : rsd V j = d := by
        unfold rsd
        rw [← hdeq, hd]
        rfl
      have rw0 : rsg V way j = jsg (W ((9 + j) * 13 + d)) * (if way < 0 ∧ d % 2 = 1 then -1 else 1) := by
        unfold rsg sfar
        rw [if_neg hc1, rl, rd]
      have t69 : ∀ (g : Int), (g = 1 ∨ g = -1) → rsg V way j = jsg (W ((9 + j) * 13 + d)) * g → mj_T (D + 5) mj_m217 69 [some (.ref q0), some (.int (jn way)), some (.int (jn many)), some (.int (jn ahead)), some (.int (jn ((9 + j : Nat) : Int))), some (.int (jn (d : Int))), e6] [.int (jn g), .int (jn (jsg (W ((9 + j) * 13 + d))))] h Q := by
        intro g hg hz
        refine mj_T.imul rfl ?_
        have hr := jsg_range (W ((9 + j) * 13 + d))
        exact t70 W h _ hs hf (by rcases hg with c | c <;> subst c <;> omega) (by rcases hg with c | c <;> subst c <;> omega) hz
      iterate 3 refine mj_T.pl rfl rfl rfl rfl ?_
      refine mj_T.call (ins := .invokestatic 104) rfl rfl (Nat.le_of_ble_eq_true rfl) (Nat.le_of_ble_eq_true rfl) rfl rfl (jq_slot (D := D + 4) (p := 9 + j) (i := d)) (fun v' h' hq' => ?_) (fun i h' hq' => by cases hq')
      cases hq'
      refine mj_T.call (ins := .invokevirtual 68) rfl rfl (Nat.le_of_ble_eq_true rfl) (Nat.le_of_ble_eq_true rfl) (by simp [mj_recv, jS_a G hs]) rfl (jS_sign (D := D + 4) G (s := (9 + j) * 13 + d) (by omega) hs) (fun v' h' hq' => ?_) (fun i h' hq' => by cases hq')
      cases hq'
      refine mj_T.pl rfl rfl rfl rfl ?_
      refine mj_T.if0 (a := way) rfl ⟨by omega, by omega⟩ (fun hc2 => ?_) (fun hc2 => ?_)
      · refine mj_T.pl rfl rfl rfl rfl ?_
        simp only [jc, Bool.not_eq_true', Bool.not_eq_false', decide_eq_true_eq, decide_eq_false_iff_not] at hc2
        exact t69 1 (Or.inl rfl) (rw0.trans (by rw [if_neg (by omega)]))
      · iterate 2 refine mj_T.pl rfl rfl rfl rfl ?_
        refine mj_T.irem (a := (d : Int)) (b := 2) rfl ⟨by omega, by omega⟩ ⟨by omega, by omega⟩ (by omega) ?_
        refine mj_T.pl rfl rfl rfl rfl ?_
        have ht : (d : Int).tmod 2 = ((d % 2 : Nat) : Int) := rfl
        refine mj_T.icmp (a := (d : Int).tmod 2) (b := 1) rfl ⟨by omega, by omega⟩ ⟨by omega, by omega⟩ (fun hc3 => ?_) (fun hc3 => ?_)
        · refine mj_T.pl rfl rfl rfl rfl ?_
          simp only [jc, Bool.not_eq_true', Bool.not_eq_false', decide_eq_true_eq, decide_eq_false_iff_not] at hc2 hc3
          exact t69 1 (Or.inl rfl) (rw0.trans (by rw [if_neg (by omega)]))
        · iterate 2 refine mj_T.pl rfl rfl rfl rfl ?_
          simp only [jc, Bool.not_eq_true', Bool.not_eq_false', decide_eq_true_eq, decide_eq_false_iff_not] at hc2 hc3
          exact t69 (-1) (Or.inr rfl) (rw0.trans (by rw [if_pos ⟨by omega, by omega⟩]))
    · simp only [jc, Bool.not_eq_false', decide_eq_true_eq] at hc1
      obtain ⟨hK, hN, hx, hfit, hfit2⟩ := hw0 hc1
      iterate 2 refine mj_T.pl rfl rfl rfl rfl ?_
      refine mj_T.call (ins := .invokevirtual 162) rfl rfl (Nat.le_of_ble_eq_true rfl) (Nat.le_of_ble_eq_true rfl) (by simp [mj_recv, jS_a G hs]) rfl (jx_valueAt (D := D) (V := W) (p := 9 + j) G (by omega) (C := C) (x := x) hWC (by rw [hf _ (by decide) (by decide) (by decide)]; exact hK) (by rw [hf _ (by decide) (by decide) (by decide)]; exact hN) hx hfit hfit2 hs) (fun v' h1 hq' => ?_) (fun i h' hq' => by obtain ⟨_, _, _, _, _, _, _, _, h⟩ := hq'; cases h)
      obtain ⟨W1, _, hs1, k1, k2, k3, k4, kv, hq'⟩ := hq'
      cases hq'
      refine mj_T.pl rfl rfl rfl rfl ?_
      have hr := jsg_range (W1 659)
      exact t70 W1 h1 _ hs1 (fun s x1 x2 x3 => by rw [k1 s x1 x2 x3, hf s x1 x2 x3]) hr.1 hr.2 (by
        rw [kv]
        unfold rsg sat rrw
        rw [if_pos hc1, hf 656 (by decide) (by decide) (by decide), hf 657 (by decide) (by decide) (by decide)]
        exact congrArg jsg (vlz_cg (fun e he => by rw [jpo_at he, hf _ (by omega) (by omega) (by omega)])))
theorem jx_changesAt (G : jG hp q0 q1 q2 q3 fs) (h7 : fs[7]? = some (.int (jn ((k + 1 : Nat) : Int)))) (hk : k ≤ 12) {way : Int} (hw : -1 ≤ way ∧ way ≤ 1) {C x : Nat} (hrow : (∀ p, 9 ≤ p → p ≤ 9 + k → 1 ≤ jdg V p 13 ∧ ∀ e, e < 13 → (V (p * 13 + e)).natAbs ≤ C)) (hw0 : way = 0 → (V 656).natAbs ≤ x ∧ (V 657).natAbs ≤ x ∧ 1 ≤ x ∧ 13 * (C * x ^ 12) < jB ^ 698 ∧ x ^ 12 < jB ^ 698) (hs : jS hp q1 q2 q3 V h) :
    mj_Ok (D + 6) 217 [.ref q0, .int (jn way)] h (fun r => ∃ (W : Nat → Int) (h' : mj_H) (z : Int), jS hp q1 q2 q3 W h' ∧ (∀ s, s ≠ 652 → s ≠ 659 → s ≠ 660 → W s = V s) ∧ 0 ≤ z ∧ z ≤ 13 ∧ z = ((chg (rsg V way) (k + 1)).1 : Int) ∧ r = (.inl (some (.int (jn z))), h')) := by
  refine mj_Ok.of (M := mj_m217) rfl rfl rfl ?_
  iterate 6 refine mj_T.pl rfl rfl rfl rfl ?_
  exact jx_ch (D := D) (V := V) G h7 hk hw hrow hw0 (fun W h z k1 k2 k3 k4 k5 => ⟨W, h, z, k1, k2, k3, k4, k5, rfl⟩) (k + 1) 0 V h 0 0 none none (by omega) hs (fun s _ _ _ => rfl) (by decide) (by decide) (by decide) (by decide) rfl rfl
theorem jx_rootsOf (G : jG hp q0 q1 q2 q3 fs) (h7 : fs[7]? = some (.int (jn ((k + 1 : Nat) : Int)))) (hk : k ≤ 12) {C : Nat} (hrow : (∀ p, 9 ≤ p → p ≤ 9 + k → 1 ≤ jdg V p 13 ∧ ∀ e, e < 13 → (V (p * 13 + e)).natAbs ≤ C)) (hs : jS hp q1 q2 q3 V h) :
    mj_Ok (D + 7) 218 [.ref q0] h (fun r => ∃ (W : Nat → Int) (h' : mj_H) (z : Int), jS hp q1 q2 q3 W h' ∧ (∀ s, s ≠ 652 → s ≠ 659 → s ≠ 660 → W s = V s) ∧ -13 ≤ z ∧ z ≤ 13 ∧ z = ((chg (rsg V (-1)) (k + 1)).1 : Int) - ((chg (rsg V 1) (k + 1)).1 : Int) ∧ r = (.inl (some (.int (jn z))), h')) := by
  refine mj_Ok.of (M := mj_m218) rfl rfl rfl ?_
  iterate 2 refine mj_T.pl rfl rfl rfl rfl ?_
  refine mj_T.call (ins := .invokevirtual 165) rfl rfl (Nat.le_of_ble_eq_true rfl) (Nat.le_of_ble_eq_true rfl) (by simp [mj_recv, jS_a G hs]) rfl (jx_changesAt (D := D) (V := V) G h7 hk (way := -1) (x := 1) (by decide) hrow (fun e => absurd e (by decide)) hs) (fun v' h1 hq' => ?_) (fun i h' hq' => by obtain ⟨_, _, _, _, _, _, _, _, h⟩ := hq'; cases h)
  obtain ⟨W1, _, z1, hs1, k1, k2, k3, v1, hq'⟩ := hq'
  cases hq'
  iterate 2 refine mj_T.pl rfl rfl rfl rfl ?_
  refine mj_T.call (ins := .invokevirtual 165) rfl rfl (Nat.le_of_ble_eq_true rfl) (Nat.le_of_ble_eq_true rfl) (by simp [mj_recv, jS_a G hs1]) rfl (jx_changesAt (D := D) (V := W1) G h7 hk (way := 1) (x := 1) (by decide) (fun p p1 p2 => by obtain ⟨r1, r2⟩ := hrow p p1 p2; exact ⟨by rw [jdg_congr 13 fun e he => k1 (p * 13 + e) (by omega) (by omega) (by omega)]; exact r1, fun e he => by rw [k1 _ (by omega) (by omega) (by omega)]; exact r2 e he⟩) (fun e => absurd e (by decide)) hs1) (fun v' h2 hq' => ?_) (fun i h' hq' => by obtain ⟨_, _, _, _, _, _, _, _, h⟩ := hq'; cases h)
  obtain ⟨W2, _, z2, hs2, k4, k5, k6, v2, hq'⟩ := hq'
  cases hq'
  refine mj_T.isub rfl ?_
  exact mj_T.ret rfl rfl rfl ⟨W2, h2, z1 - z2, hs2, fun s x1 x2 x3 => by rw [k4 s x1 x2 x3, k1 s x1 x2 x3], by omega, by omega, by rw [v1, v2, rsg_cg (V := V) (W := W1) (fun i hi e he => k1 _ (by omega) (by omega) (by omega)) (k1 _ (by decide) (by decide) (by decide)) (k1 _ (by decide) (by decide) (by decide))], rfl⟩
end JXC
theorem rsg_far (V : Nat → Int) {w : Int} (hw : w ≠ 0) (k : Nat) : chg (rsg V w) k = chg (sfar (rrw V) (rsd V) w) k := chg_cg k (fun _ _ => if_neg hw)
theorem rsg_at (V : Nat → Int) (k : Nat) : chg (rsg V 0) k = chg (sat (rrw V) (V 656) (V 657)) k := chg_cg k (fun _ _ => if_pos rfl)
theorem rrw_eq {V W : Nat → Int} {k : Nat} (h : ∀ s, s < 299 → W s = V s) : ∀ i, i ≤ k → k ≤ 12 → rrw W i = rrw V i := fun i hi hk => jpo_eq (fun e he => h _ (by omega))
theorem jpo_rwn {N0 N W : Nat → Int} {x : Nat} (hx : x ≤ 5) (hn : ∀ j, j < 91 → N j = N0 j) (h : ∀ e, e < 13 → W (0 * 13 + e) = N (x * 13 + e)) : jpo W 0 = rwN N0 (x : Int) := funext fun e => by
  by_cases he : e < 13
  · rw [jpo_at he]
    exact (h e he).trans (rwN_at hn hx he)
  · rw [jpo_lt W 0 e (by omega)]
    unfold rwN
    rw [if_neg he]
theorem sat_rrw {V W : Nat → Int} {k : Nat} {x y : Int} (hk : k ≤ 12) (h : ∀ s, s < 299 → W s = V s) : chg (sat (rrw W) x y) (k + 1) = chg (sat (rrw V) x y) (k + 1) := chg_cg (k + 1) (fun i hi => by
  unfold sat
  rw [rrw_eq h i (Nat.le_of_lt_succ hi) hk])
section RVS
variable {h : mj_H} {tm er : Int} {T : Nat → Int} {N0 : Nat → Int} {u0 : Nat} {H : Nat → Nat → Int}
theorem ra_sturmLength {x : Int} (hx : jr x) (hI : jIx N0 u0 H tm er T h) : mj_Ok 40 273 [.ref 0, .int (jn x)] h (rIa (A_sturmLength N0 x) N0 u0 H tm er T) := by
  refine mj_Ok.of (M := mj_m273) rfl rfl rfl ?_
  obtain ⟨S, N, B, X, V, hs, K⟩ := hI
  iterate 2 refine mj_T.pl rfl rfl rfl rfl ?_
  refine rT_put (v := 0) hs rfl rfl (by decide) rfl (fun g8 hs8 => ?_)
  have K8 := K.put (k := 3) (v := 0) ⟨by decide, by decide⟩ (by decide) (by decide) (by decide) (by decide) (by decide)
  have e8 : jvu S 3 0 3 = 0 := jvu_at S 3 0
  generalize jvu S 3 0 = S8 at hs8 K8 e8
  refine mj_T.pl rfl rfl rfl rfl ?_
  refine mj_T.call (ins := .invokestatic 181) rfl rfl (Nat.le_of_ble_eq_true rfl) (Nat.le_of_ble_eq_true rfl) rfl rfl (mj_Ok.up (by decide) (rp_isRegister (D := 0) hx)) (fun v' h' hq' => ?_) (fun i h' hq' => by rcases hq' with ⟨_, _, h⟩ | ⟨_, h⟩ <;> cases h)
  rcases hq' with ⟨x1, x2, hq'⟩ | ⟨cn, hq'⟩
  case' inr =>
    cases hq'
    refine mj_T.if0 (a := 0) rfl ⟨by decide, by decide⟩ (fun hc => ?_) (fun hc => ?_)
    · simp [jc] at hc
    iterate 2 refine mj_T.pl rfl rfl rfl rfl ?_
    refine mj_T.call (ins := .invokevirtual 198) rfl rfl (Nat.le_of_ble_eq_true rfl) (Nat.le_of_ble_eq_true rfl) (by simp [mj_recv, rS_f hs8]) rfl (mj_Ok.up (by decide) (rp_fails (D := 0) (c := 1) hs8)) (fun v' g9 hq' => ?_) (fun i h' hq' => by obtain ⟨_, _, h⟩ := hq'; cases h)
    obtain ⟨_, hs9, hq'⟩ := hq'
    cases hq'
    exact mj_T.ret rfl rfl rfl ⟨1, 0, g9, an.n (by omega), ⟨by decide, by decide⟩, rfl, ⟨_, N, B, X, V, hs9, K8.put ⟨by decide, by decide⟩ (by decide) (by decide) (by decide) (by decide) (by decide), jvu_at _ _ _⟩⟩
  cases hq'
  refine mj_T.if0 (a := 1) rfl ⟨by decide, by decide⟩ (fun hc => ?_) (fun hc => ?_)
  rotate_left
  · simp [jc] at hc
  obtain ⟨x, rfl⟩ := Int.eq_ofNat_of_zero_le x1
  have hfd : fdg (rwN N0 (x : Int)) 13 = jdg N x 13 := (fdg_congr 13 (fun i hi => rwN_at K8.2.1 (by omega) hi)).symm.trans (fdg_jdg N x 13)
  iterate 2 refine mj_T.pl rfl rfl rfl rfl ?_
  refine mj_T.call (ins := .invokevirtual 232) rfl rfl (Nat.le_of_ble_eq_true rfl) (Nat.le_of_ble_eq_true rfl) (by simp [mj_recv, rS_f hs8]) rfl (mj_Ok.up (by decide) (rp_isZero (D := 0) (r := x) (by omega) K8.nR hs8)) (fun v' h' hq' => ?_) (fun i h' hq' => by rcases hq' with ⟨_, h⟩ | ⟨_, h⟩ <;> cases h)
  rcases hq' with ⟨zz, hq'⟩ | ⟨nz10, hq'⟩
  case' inl =>
    cases hq'
    refine mj_T.if0 (a := 1) rfl ⟨by decide, by decide⟩ (fun hc => ?_) (fun hc => ?_)
    · simp [jc] at hc
    iterate 2 refine mj_T.pl rfl rfl rfl rfl ?_
    refine mj_T.call (ins := .invokevirtual 198) rfl rfl (Nat.le_of_ble_eq_true rfl) (Nat.le_of_ble_eq_true rfl) (by simp [mj_recv, rS_f hs8]) rfl (mj_Ok.up (by decide) (rp_fails (D := 0) (c := 2) hs8)) (fun v' g11 hq' => ?_) (fun i h' hq' => by obtain ⟨_, _, h⟩ := hq'; cases h)
    obtain ⟨_, hs11, hq'⟩ := hq'
    cases hq'
    exact mj_T.ret rfl rfl rfl ⟨2, 0, g11, an.y ⟨by omega, by omega⟩ (an.n (by rw [hfd]; omega)), ⟨by decide, by decide⟩, rfl, ⟨_, N, B, X, V, hs11, K8.put ⟨by decide, by decide⟩ (by decide) (by decide) (by decide) (by decide) (by decide), jvu_at _ _ _⟩⟩
  cases hq'
  refine mj_T.if0 (a := 0) rfl ⟨by decide, by decide⟩ (fun hc => ?_) (fun hc => ?_)
  rotate_left
  · simp [jc] at hc
  iterate 3 refine mj_T.pl rfl rfl rfl rfl ?_
  refine mj_T.call (ins := .invokevirtual 213) rfl rfl (Nat.le_of_ble_eq_true rfl) (Nat.le_of_ble_eq_true rfl) (by simp [mj_recv, rS_f hs8]) rfl (mj_Ok.up (by decide) (rp_loads (D := 0) (p := 0) (r := x) (by decide) (by omega) K8.nR hs8)) (fun v' g12 hq' => ?_) (fun i h' hq' => by obtain ⟨_, _, h⟩ := hq'; cases h)
  obtain ⟨_, hs12, hq'⟩ := hq'
  cases hq'
  have a12 : ∀ e, e < 13 → jfl V 0 (fun e => N (x * 13 + e)) 13 (0 * 13 + e) = N (x * 13 + e) := fun e he => jfl_at _ _ _ he
  have b12 : ∀ s, (s < 0 * 13 ∨ 0 * 13 + 13 ≤ s) → jfl V 0 (fun e => N (x * 13 + e)) 13 s = V s := fun s hc => jfl_off _ _ _ hc
  generalize jfl V 0 (fun e => N (x * 13 + e)) 13 = W12 at hs12 a12 b12
  have c1 : ∀ e, e < 13 → (W12 (0 * 13 + e)).natAbs ≤ 10 ^ 18 := fun e he => by
    rw [a12 e he]
    exact K8.sh (r := x) (by omega) he
  have c2 : jpo W12 0 ≠ pz_0 := jpo_ne_of (by rw [jdg_congr 13 a12]; exact nz10)
  iterate 2 refine mj_T.pl rfl rfl rfl rfl ?_
  refine mj_T.call (ins := .invokevirtual 324) rfl rfl (Nat.le_of_ble_eq_true rfl) (Nat.le_of_ble_eq_true rfl) (by simp [mj_recv, rS_f hs12]) rfl (mj_Ok.up (by decide) (jx_laysRow (D := 0) (rG S8 N B T X) (by show 7 < 16; decide) kq_fit51 rp_a51 (a := 0) (by decide) (by decide) (by decide) c2 (fun e he => by have := c1 e he; omega) hs12)) (fun v' g13 hq' => ?_) (fun i h' hq' => by obtain ⟨_, _, _, _, _, _, _, _, _, h⟩ := hq'; cases h)
  obtain ⟨k13, W13, _, hk13, hs13, hrow13, hf13, hn13, sr, hq'⟩ := hq'
  cases hq'
  rw [jpo_rwn (by omega) K8.2.1 a12] at sr
  have hs13a : rS (jvu S8 7 ((k13 + 1 : Nat) : Int)) N B T X W13 g13 := hs13
  have K13 := K8.put (k := 7) (v := ((k13 + 1 : Nat) : Int)) ⟨by omega, by omega⟩ (by decide) (by decide) (by decide) (by decide) (by decide)
  have h713 : (rF (jvu S8 7 ((k13 + 1 : Nat) : Int)))[7]? = some (.int (jn ((k13 + 1 : Nat) : Int))) := rF7
  clear hs13
  have e13 : jvu S8 7 ((k13 + 1 : Nat) : Int) 3 = 0 := (jvu_ne _ _ _ (by decide)).trans e8
  generalize jvu S8 7 ((k13 + 1 : Nat) : Int) = S13 at hs13a K13 h713 e13
  refine mj_T.pl rfl rfl rfl rfl ?_
  refine rT_get hs13a rfl h713 ?_
  exact mj_T.ret rfl rfl rfl ⟨0, _, g13, an.y ⟨by omega, by omega⟩ (an.y (by rw [hfd]; exact nz10) (an.e ⟨k13, _, _, sr, rfl⟩)), ⟨by omega, by omega⟩, rfl, ⟨S13, N, B, X, W13, hs13a, K13, e13⟩⟩
theorem ra_realRoots {x : Int} (hx : jr x) (hI : jIx N0 u0 H tm er T h) : mj_Ok 40 271 [.ref 0, .int (jn x)] h (rIa (A_realRoots N0 x) N0 u0 H tm er T) := by
  refine mj_Ok.of (M := mj_m271) rfl rfl rfl ?_
  obtain ⟨S, N, B, X, V, hs, K⟩ := hI
  iterate 2 refine mj_T.pl rfl rfl rfl rfl ?_
  refine rT_put (v := 0) hs rfl rfl (by decide) rfl (fun g1 hs1 => ?_)
  have K1 := K.put (k := 3) (v := 0) ⟨by decide, by decide⟩ (by decide) (by decide) (by decide) (by decide) (by decide)
  have e1 : jvu S 3 0 3 = 0 := jvu_at S 3 0
  generalize jvu S 3 0 = S1 at hs1 K1 e1
  refine mj_T.pl rfl rfl rfl rfl ?_
  refine mj_T.call (ins := .invokestatic 181) rfl rfl (Nat.le_of_ble_eq_true rfl) (Nat.le_of_ble_eq_true rfl) rfl rfl (mj_Ok.up (by decide) (rp_isRegister (D := 0) hx)) (fun v' h' hq' => ?_) (fun i h' hq' => by rcases hq' with ⟨_, _, h⟩ | ⟨_, h⟩ <;> cases h)
  rcases hq' with ⟨x1, x2, hq'⟩ | ⟨cn, hq'⟩
  case' inr =>
    cases hq'
    refine mj_T.if0 (a := 0) rfl ⟨by decide, by decide⟩ (fun hc => ?_) (fun hc => ?_)
    · simp [jc] at hc
    iterate 2 refine mj_T.pl rfl rfl rfl rfl ?_
    refine mj_T.call (ins := .invokevirtual 198) rfl rfl (Nat.le_of_ble_eq_true rfl) (Nat.le_of_ble_eq_true rfl) (by simp [mj_recv, rS_f hs1]) rfl (mj_Ok.up (by decide) (rp_fails (D := 0) (c := 1) hs1)) (fun v' g2 hq' => ?_) (fun i h' hq' => by obtain ⟨_, _, h⟩ := hq'; cases h)
    obtain ⟨_, hs2, hq'⟩ := hq'
    cases hq'
    exact mj_T.ret rfl rfl rfl ⟨1, 0, g2, an.n (by omega), ⟨by decide, by decide⟩, rfl, ⟨_, N, B, X, V, hs2, K1.put ⟨by decide, by decide⟩ (by decide) (by decide) (by decide) (by decide) (by decide), jvu_at _ _ _⟩⟩
  cases hq'
  refine mj_T.if0 (a := 1) rfl ⟨by decide, by decide⟩ (fun hc => ?_) (fun hc => ?_)
  rotate_left
  · simp [jc] at hc
  obtain ⟨x, rfl⟩ := Int.eq_ofNat_of_zero_le x1
  have hfd : fdg (rwN N0 (x : Int)) 13 = jdg N x 13 := (fdg_congr 13 (fun i hi => rwN_at K1.2.1 (by omega) hi)).symm.trans (fdg_jdg N x 13)
  iterate 2 refine mj_T.pl rfl rfl rfl rfl ?_
  refine mj_T.call (ins := .invokevirtual 232) rfl rfl (Nat.le_of_ble_eq_true rfl) (Nat.le_of_ble_eq_true rfl) (by simp [mj_recv, rS_f hs1]) rfl (mj_Ok.up (by decide) (rp_isZero (D := 0) (r := x) (by omega) K1.nR hs1)) (fun v' h' hq' => ?_) (fun i h' hq' => by rcases hq' with ⟨_, h⟩ | ⟨_, h⟩ <;> cases h)
  rcases hq' with ⟨zz, hq'⟩ | ⟨nz3, hq'⟩
  case' inl =>
    cases hq'
    refine mj_T.if0 (a := 1) rfl ⟨by decide, by decide⟩ (fun hc => ?_) (fun hc => ?_)
    · simp [jc] at hc
    iterate 2 refine mj_T.pl rfl rfl rfl rfl ?_
    refine mj_T.call (ins := .invokevirtual 198) rfl rfl (Nat.le_of_ble_eq_true rfl) (Nat.le_of_ble_eq_true rfl) (by simp [mj_recv, rS_f hs1]) rfl (mj_Ok.up (by decide) (rp_fails (D := 0) (c := 2) hs1)) (fun v' g4 hq' => ?_) (fun i h' hq' => by obtain ⟨_, _, h⟩ := hq'; cases h)
    obtain ⟨_, hs4, hq'⟩ := hq'
    cases hq'
    exact mj_T.ret rfl rfl rfl ⟨2, 0, g4, an.y ⟨by omega, by omega⟩ (an.n (by rw [hfd]; omega)), ⟨by decide, by decide⟩, rfl, ⟨_, N, B, X, V, hs4, K1.put ⟨by decide, by decide⟩ (by decide) (by decide) (by decide) (by decide) (by decide), jvu_at _ _ _⟩⟩
  cases hq'
  refine mj_T.if0 (a := 0) rfl ⟨by decide, by decide⟩ (fun hc => ?_) (fun hc => ?_)
  rotate_left
  · simp [jc] at hc
  iterate 3 refine mj_T.pl rfl rfl rfl rfl ?_
  refine mj_T.call (ins := .invokevirtual 213) rfl rfl (Nat.le_of_ble_eq_true rfl) (Nat.le_of_ble_eq_true rfl) (by simp [mj_recv, rS_f hs1]) rfl (mj_Ok.up (by decide) (rp_loads (D := 0) (p := 0) (r := x) (by decide) (by omega) K1.nR hs1)) (fun v' g5 hq' => ?_) (fun i h' hq' => by obtain ⟨_, _, h⟩ := hq'; cases h)
  obtain ⟨_, hs5, hq'⟩ := hq'
  cases hq'
  have a5 : ∀ e, e < 13 → jfl V 0 (fun e => N (x * 13 + e)) 13 (0 * 13 + e) = N (x * 13 + e) := fun e he => jfl_at _ _ _ he
  have b5 : ∀ s, (s < 0 * 13 ∨ 0 * 13 + 13 ≤ s) → jfl V 0 (fun e => N (x * 13 + e)) 13 s = V s := fun s hc => jfl_off _ _ _ hc
  generalize jfl V 0 (fun e => N (x * 13 + e)) 13 = W5 at hs5 a5 b5
  have c1 : ∀ e, e < 13 → (W5 (0 * 13 + e)).natAbs ≤ 10 ^ 18 := fun e he => by
    rw [a5 e he]
    exact K1.sh (r := x) (by omega) he
  have c2 : jpo W5 0 ≠ pz_0 := jpo_ne_of (by rw [jdg_congr 13 a5]; exact nz3)
  iterate 2 refine mj_T.pl rfl rfl rfl rfl ?_
  refine mj_T.call (ins := .invokevirtual 324) rfl rfl (Nat.le_of_ble_eq_true rfl) (Nat.le_of_ble_eq_true rfl) (by simp [mj_recv, rS_f hs5]) rfl (mj_Ok.up (by decide) (jx_laysRow (D := 0) (rG S1 N B T X) (by show 7 < 16; decide) kq_fit51 rp_a51 (a := 0) (by decide) (by decide) (by decide) c2 (fun e he => by have := c1 e he; omega) hs5)) (fun v' g6 hq' => ?_) (fun i h' hq' => by obtain ⟨_, _, _, _, _, _, _, _, _, h⟩ := hq'; cases h)
  obtain ⟨k6, W6, _, hk6, hs6, hrow6, hf6, hn6, sr, hq'⟩ := hq'
  cases hq'
  rw [jpo_rwn (by omega) K1.2.1 a5] at sr
  have hs6a : rS (jvu S1 7 ((k6 + 1 : Nat) : Int)) N B T X W6 g6 := hs6
  have K6 := K1.put (k := 7) (v := ((k6 + 1 : Nat) : Int)) ⟨by omega, by omega⟩ (by decide) (by decide) (by decide) (by decide) (by decide)
  have h76 : (rF (jvu S1 7 ((k6 + 1 : Nat) : Int)))[7]? = some (.int (jn ((k6 + 1 : Nat) : Int))) := rF7
  clear hs6
  have e6 : jvu S1 7 ((k6 + 1 : Nat) : Int) 3 = 0 := (jvu_ne _ _ _ (by decide)).trans e1
  generalize jvu S1 7 ((k6 + 1 : Nat) : Int) = S6 at hs6a K6 h76 e6
  refine mj_T.pl rfl rfl rfl rfl ?_
  refine mj_T.call (ins := .invokevirtual 327) rfl rfl (Nat.le_of_ble_eq_true rfl) (Nat.le_of_ble_eq_true rfl) (by simp [mj_recv, rS_f hs6a]) rfl (mj_Ok.up (by decide) (jx_rootsOf (D := 0) (rG S6 N B T X) h76 hk6 hrow6 hs6a)) (fun v' g7 hq' => ?_) (fun i h' hq' => by obtain ⟨_, _, _, _, _, _, _, _, h⟩ := hq'; cases h)
  obtain ⟨W7, _, z7, hs7, f7, z7a, z7b, zv, hq'⟩ := hq'
  cases hq'
  exact mj_T.ret rfl rfl rfl ⟨0, z7, g7, an.y ⟨by omega, by omega⟩ (an.y (by rw [hfd]; exact nz3) (an.e ⟨k6, _, _, sr, by rw [zv, rsg_far _ (by decide), rsg_far _ (by decide)]⟩)), ⟨by omega, by omega⟩, rfl, ⟨S6, N, B, X, W7, hs7, K6, e6⟩⟩
theorem ra_changes {x y z : Int} (hx : jr x) (hy : jr y) (hz : jr z) (hI : jIx N0 u0 H tm er T h) : mj_Ok 40 274 [.ref 0, .int (jn x), .int (jn y), .int (jn z)] h (rIa (A_changes N0 x y z) N0 u0 H tm er T) := by
  refine mj_Ok.of (M := mj_m274) rfl rfl rfl ?_
  obtain ⟨S, N, B, X, V, hs, K⟩ := hI
  iterate 2 refine mj_T.pl rfl rfl rfl rfl ?_
  refine rT_put (v := 0) hs rfl rfl (by decide) rfl (fun g14 hs14 => ?_)
  have K14 := K.put (k := 3) (v := 0) ⟨by decide, by decide⟩ (by decide) (by decide) (by decide) (by decide) (by decide)
  have e14 : jvu S 3 0 3 = 0 := jvu_at S 3 0
  generalize jvu S 3 0 = S14 at hs14 K14 e14
  refine mj_T.pl rfl rfl rfl rfl ?_
  refine mj_T.call (ins := .invokestatic 181) rfl rfl (Nat.le_of_ble_eq_true rfl) (Nat.le_of_ble_eq_true rfl) rfl rfl (mj_Ok.up (by decide) (rp_isRegister (D := 0) hx)) (fun v' h' hq' => ?_) (fun i h' hq' => by rcases hq' with ⟨_, _, h⟩ | ⟨_, h⟩ <;> cases h)
  rcases hq' with ⟨x1, x2, hq'⟩ | ⟨cn, hq'⟩
  case' inr =>
    cases hq'
    refine mj_T.if0 (a := 0) rfl ⟨by decide, by decide⟩ (fun hc => ?_) (fun hc => ?_)
    · simp [jc] at hc
    iterate 2 refine mj_T.pl rfl rfl rfl rfl ?_
    refine mj_T.call (ins := .invokevirtual 198) rfl rfl (Nat.le_of_ble_eq_true rfl) (Nat.le_of_ble_eq_true rfl) (by simp [mj_recv, rS_f hs14]) rfl (mj_Ok.up (by decide) (rp_fails (D := 0) (c := 1) hs14)) (fun v' g15 hq' => ?_) (fun i h' hq' => by obtain ⟨_, _, h⟩ := hq'; cases h)
    obtain ⟨_, hs15, hq'⟩ := hq'
    cases hq'
    exact mj_T.ret rfl rfl rfl ⟨1, 0, g15, an.n (by omega), ⟨by decide, by decide⟩, rfl, ⟨_, N, B, X, V, hs15, K14.put ⟨by decide, by decide⟩ (by decide) (by decide) (by decide) (by decide) (by decide), jvu_at _ _ _⟩⟩
  cases hq'
  refine mj_T.if0 (a := 1) rfl ⟨by decide, by decide⟩ (fun hc => ?_) (fun hc => ?_)
  rotate_left
  · simp [jc] at hc
  obtain ⟨x, rfl⟩ := Int.eq_ofNat_of_zero_le x1
  have hfd : fdg (rwN N0 (x : Int)) 13 = jdg N x 13 := (fdg_congr 13 (fun i hi => rwN_at K14.2.1 (by omega) hi)).symm.trans (fdg_jdg N x 13)
  iterate 2 refine mj_T.pl rfl rfl rfl rfl ?_
  refine mj_T.call (ins := .invokestatic 302) rfl rfl (Nat.le_of_ble_eq_true rfl) (Nat.le_of_ble_eq_true rfl) rfl rfl (mj_Ok.up (by decide) (ra_isFraction hy hz)) (fun v' h' hq' => ?_) (fun i h' hq' => by rcases hq' with ⟨_, _, h⟩ | ⟨_, h⟩ <;> cases h)
  rcases hq' with ⟨⟨y1, y2⟩, ⟨z1, z2⟩, hq'⟩ | ⟨cn, hq'⟩
  case' inr =>
    cases hq'
    refine mj_T.if0 (a := 0) rfl ⟨by decide, by decide⟩ (fun hc => ?_) (fun hc => ?_)
    · simp [jc] at hc
    iterate 2 refine mj_T.pl rfl rfl rfl rfl ?_
    refine mj_T.call (ins := .invokevirtual 198) rfl rfl (Nat.le_of_ble_eq_true rfl) (Nat.le_of_ble_eq_true rfl) (by simp [mj_recv, rS_f hs14]) rfl (mj_Ok.up (by decide) (rp_fails (D := 0) (c := 2) hs14)) (fun v' g16 hq' => ?_) (fun i h' hq' => by obtain ⟨_, _, h⟩ := hq'; cases h)
    obtain ⟨_, hs16, hq'⟩ := hq'
    cases hq'
    exact mj_T.ret rfl rfl rfl ⟨2, 0, g16, an.y ⟨by omega, by omega⟩ (an.n cn), ⟨by decide, by decide⟩, rfl, ⟨_, N, B, X, V, hs16, K14.put ⟨by decide, by decide⟩ (by decide) (by decide) (by decide) (by decide) (by decide), jvu_at _ _ _⟩⟩
  cases hq'
  refine mj_T.if0 (a := 1) rfl ⟨by decide, by decide⟩ (fun hc => ?_) (fun hc => ?_)
  rotate_left
  · simp [jc] at hc
  iterate 2 refine mj_T.pl rfl rfl rfl rfl ?_
  refine mj_T.call (ins := .invokevirtual 232) rfl rfl (Nat.le_of_ble_eq_true rfl) (Nat.le_of_ble_eq_true rfl) (by simp [mj_recv, rS_f hs14]) rfl (mj_Ok.up (by decide) (rp_isZero (D := 0) (r := x) (by omega) K14.nR hs14)) (fun v' h' hq' => ?_) (fun i h' hq' => by rcases hq' with ⟨_, h⟩ | ⟨_, h⟩ <;> cases h)
  rcases hq' with ⟨zz, hq'⟩ | ⟨nz17, hq'⟩
  case' inl =>
    cases hq'
    refine mj_T.if0 (a := 1) rfl ⟨by decide, by decide⟩ (fun hc => ?_) (fun hc => ?_)
    · simp [jc] at hc
    iterate 2 refine mj_T.pl rfl rfl rfl rfl ?_
    refine mj_T.call (ins := .invokevirtual 198) rfl rfl (Nat.le_of_ble_eq_true rfl) (Nat.le_of_ble_eq_true rfl) (by simp [mj_recv, rS_f hs14]) rfl (mj_Ok.up (by decide) (rp_fails (D := 0) (c := 3) hs14)) (fun v' g18 hq' => ?_) (fun i h' hq' => by obtain ⟨_, _, h⟩ := hq'; cases h)
    obtain ⟨_, hs18, hq'⟩ := hq'
    cases hq'
    exact mj_T.ret rfl rfl rfl ⟨3, 0, g18, an.y ⟨by omega, by omega⟩ (an.y ⟨⟨y1, y2⟩, z1, z2⟩ (an.n (by rw [hfd]; omega))), ⟨by decide, by decide⟩, rfl, ⟨_, N, B, X, V, hs18, K14.put ⟨by decide, by decide⟩ (by decide) (by decide) (by decide) (by decide) (by decide), jvu_at _ _ _⟩⟩
  cases hq'
  refine mj_T.if0 (a := 0) rfl ⟨by decide, by decide⟩ (fun hc => ?_) (fun hc => ?_)
  rotate_left
  · simp [jc] at hc
  iterate 3 refine mj_T.pl rfl rfl rfl rfl ?_
  refine mj_T.call (ins := .invokevirtual 213) rfl rfl (Nat.le_of_ble_eq_true rfl) (Nat.le_of_ble_eq_true rfl) (by simp [mj_recv, rS_f hs14]) rfl (mj_Ok.up (by decide) (rp_loads (D := 0) (p := 0) (r := x) (by decide) (by omega) K14.nR hs14)) (fun v' g19 hq' => ?_) (fun i h' hq' => by obtain ⟨_, _, h⟩ := hq'; cases h)
  obtain ⟨_, hs19, hq'⟩ := hq'
  cases hq'
  have a19 : ∀ e, e < 13 → jfl V 0 (fun e => N (x * 13 + e)) 13 (0 * 13 + e) = N (x * 13 + e) := fun e he => jfl_at _ _ _ he
  have b19 : ∀ s, (s < 0 * 13 ∨ 0 * 13 + 13 ≤ s) → jfl V 0 (fun e => N (x * 13 + e)) 13 s = V s := fun s hc => jfl_off _ _ _ hc
  generalize jfl V 0 (fun e => N (x * 13 + e)) 13 = W19 at hs19 a19 b19
  have c1 : ∀ e, e < 13 → (W19 (0 * 13 + e)).natAbs ≤ 10 ^ 18 := fun e he => by
    rw [a19 e he]
    exact K14.sh (r := x) (by omega) he
  have c2 : jpo W19 0 ≠ pz_0 := jpo_ne_of (by rw [jdg_congr 13 a19]; exact nz17)
  iterate 2 refine mj_T.pl rfl rfl rfl rfl ?_
  refine mj_T.call (ins := .invokevirtual 324) rfl rfl (Nat.le_of_ble_eq_true rfl) (Nat.le_of_ble_eq_true rfl) (by simp [mj_recv, rS_f hs19]) rfl (mj_Ok.up (by decide) (jx_laysRow (D := 0) (rG S14 N B T X) (by show 7 < 16; decide) kq_fit51 rp_a51 (a := 0) (by decide) (by decide) (by decide) c2 (fun e he => by have := c1 e he; omega) hs19)) (fun v' g20 hq' => ?_) (fun i h' hq' => by obtain ⟨_, _, _, _, _, _, _, _, _, h⟩ := hq'; cases h)
  obtain ⟨k20, W20, _, hk20, hs20, hrow20, hf20, hn20, sr, hq'⟩ := hq'
  cases hq'
  rw [jpo_rwn (by omega) K14.2.1 a19] at sr
  have hs20a : rS (jvu S14 7 ((k20 + 1 : Nat) : Int)) N B T X W20 g20 := hs20
  have K20 := K14.put (k := 7) (v := ((k20 + 1 : Nat) : Int)) ⟨by omega, by omega⟩ (by decide) (by decide) (by decide) (by decide) (by decide)
  have h720 : (rF (jvu S14 7 ((k20 + 1 : Nat) : Int)))[7]? = some (.int (jn ((k20 + 1 : Nat) : Int))) := rF7
  clear hs20
  have e20 : jvu S14 7 ((k20 + 1 : Nat) : Int) 3 = 0 := (jvu_ne _ _ _ (by decide)).trans e14
  generalize jvu S14 7 ((k20 + 1 : Nat) : Int) = S20 at hs20a K20 h720 e20
  iterate 3 refine mj_T.pl rfl rfl rfl rfl ?_
  refine mj_T.call (ins := .invokevirtual 305) rfl rfl (Nat.le_of_ble_eq_true rfl) (Nat.le_of_ble_eq_true rfl) (by simp [mj_recv, rS_f hs20a]) rfl (mj_Ok.up (by decide) (rp_setsFraction (D := 0) (x := y) (y := z) hy hz hs20a)) (fun v' g21 hq' => ?_) (fun i h' hq' => by obtain ⟨_, _, _, _, _, _, h⟩ := hq'; cases h)
  obtain ⟨W21, _, hs21, x21a, x21b, x21c, hq'⟩ := hq'
  cases hq'
  iterate 2 refine mj_T.pl rfl rfl rfl rfl ?_
  refine mj_T.call (ins := .invokevirtual 165) rfl rfl (Nat.le_of_ble_eq_true rfl) (Nat.le_of_ble_eq_true rfl) (by simp [mj_recv, rS_f hs21]) rfl (mj_Ok.up (by decide) (jx_changesAt (D := 0) (V := W21) (rG S20 N B T X) h720 hk20 (way := 0) (x := 1000) (by decide) (jrows_keep hrow20 hk20 (fun s hlt => x21c _ (by omega) (by omega))) (fun _ => ⟨by rw [x21a]; omega, by rw [x21b]; omega, by decide, rp_cr1, rp_fitv2⟩) hs21)) (fun v' g22 hq' => ?_) (fun i h' hq' => by obtain ⟨_, _, _, _, _, _, _, _, h⟩ := hq'; cases h)
  obtain ⟨W22, _, z22, hs22, f22, z22a, z22b, zv, hq'⟩ := hq'
  cases hq'
  exact mj_T.ret rfl rfl rfl ⟨0, z22, g22, an.y ⟨by omega, by omega⟩ (an.y ⟨⟨y1, y2⟩, z1, z2⟩ (an.y (by rw [hfd]; exact nz17) (an.e ⟨k20, _, _, sr, by rw [zv, rsg_at, x21a, x21b, sat_rrw hk20 (fun s hlt => x21c _ (by omega) (by omega))]⟩))), ⟨by omega, by omega⟩, rfl, ⟨S20, N, B, X, W22, hs22, K20, e20⟩⟩
theorem ra_rootsBetween {x y z u w : Int} (hx : jr x) (hy : jr y) (hz : jr z) (hu : jr u) (hw : jr w) (hI : jIx N0 u0 H tm er T h) : mj_Ok 40 272 [.ref 0, .int (jn x), .int (jn y), .int (jn z), .int (jn u), .int (jn w)] h (rIa (A_rootsBetween N0 x y z u w) N0 u0 H tm er T) := by
  refine mj_Ok.of (M := mj_m272) rfl rfl rfl ?_
  obtain ⟨S, N, B, X, V, hs, K⟩ := hI
  iterate 2 refine mj_T.pl rfl rfl rfl rfl ?_
  refine rT_put (v := 0) hs rfl rfl (by decide) rfl (fun g23 hs23 => ?_)
  have K23 := K.put (k := 3) (v := 0) ⟨by decide, by decide⟩ (by decide) (by decide) (by decide) (by decide) (by decide)
  have e23 : jvu S 3 0 3 = 0 := jvu_at S 3 0
  generalize jvu S 3 0 = S23 at hs23 K23 e23
  refine mj_T.pl rfl rfl rfl rfl ?_
  refine mj_T.call (ins := .invokestatic 181) rfl rfl (Nat.le_of_ble_eq_true rfl) (Nat.le_of_ble_eq_true rfl) rfl rfl (mj_Ok.up (by decide) (rp_isRegister (D := 0) hx)) (fun v' h' hq' => ?_) (fun i h' hq' => by rcases hq' with ⟨_, _, h⟩ | ⟨_, h⟩ <;> cases h)
  rcases hq' with ⟨x1, x2, hq'⟩ | ⟨cn, hq'⟩
  case' inr =>
    cases hq'
    refine mj_T.if0 (a := 0) rfl ⟨by decide, by decide⟩ (fun hc => ?_) (fun hc => ?_)
    · simp [jc] at hc
    iterate 2 refine mj_T.pl rfl rfl rfl rfl ?_
    refine mj_T.call (ins := .invokevirtual 198) rfl rfl (Nat.le_of_ble_eq_true rfl) (Nat.le_of_ble_eq_true rfl) (by simp [mj_recv, rS_f hs23]) rfl (mj_Ok.up (by decide) (rp_fails (D := 0) (c := 1) hs23)) (fun v' g24 hq' => ?_) (fun i h' hq' => by obtain ⟨_, _, h⟩ := hq'; cases h)
    obtain ⟨_, hs24, hq'⟩ := hq'
    cases hq'
    exact mj_T.ret rfl rfl rfl ⟨1, 0, g24, an.n (by omega), ⟨by decide, by decide⟩, rfl, ⟨_, N, B, X, V, hs24, K23.put ⟨by decide, by decide⟩ (by decide) (by decide) (by decide) (by decide) (by decide), jvu_at _ _ _⟩⟩
  cases hq'
  refine mj_T.if0 (a := 1) rfl ⟨by decide, by decide⟩ (fun hc => ?_) (fun hc => ?_)
  rotate_left
  · simp [jc] at hc
  obtain ⟨x, rfl⟩ := Int.eq_ofNat_of_zero_le x1
  have hfd : fdg (rwN N0 (x : Int)) 13 = jdg N x 13 := (fdg_congr 13 (fun i hi => rwN_at K23.2.1 (by omega) hi)).symm.trans (fdg_jdg N x 13)
  have t47 : ¬ ((okfr y z ∧ okfr u w) ∧ y * w < u * z) → mj_T 39 mj_m272 47 [some (.ref 0), some (.int (jn (x : Int))), some (.int (jn y)), some (.int (jn z)), some (.int (jn u)), some (.int (jn w)), none, none] [] g23 (rIa (A_rootsBetween N0 x y z u w) N0 u0 H tm er T) := by
    intro hno
    iterate 2 refine mj_T.pl rfl rfl rfl rfl ?_
    refine mj_T.call (ins := .invokevirtual 198) rfl rfl (Nat.le_of_ble_eq_true rfl) (Nat.le_of_ble_eq_true rfl) (by simp [mj_recv, rS_f hs23]) rfl (mj_Ok.up (by decide) (rp_fails (D := 0) (c := 2) hs23)) (fun v' g25 hq' => ?_) (fun i h' hq' => by obtain ⟨_, _, h⟩ := hq'; cases h)
    obtain ⟨_, hs25, hq'⟩ := hq'
    cases hq'
    exact mj_T.ret rfl rfl rfl ⟨2, 0, g25, an.y ⟨by omega, by omega⟩ (an.n hno), ⟨by decide, by decide⟩, rfl, ⟨_, N, B, X, V, hs25, K23.put ⟨by decide, by decide⟩ (by decide) (by decide) (by decide) (by decide) (by decide), jvu_at _ _ _⟩⟩
  iterate 2 refine mj_T.pl rfl rfl rfl rfl ?_
  refine mj_T.call (ins := .invokestatic 302) rfl rfl (Nat.le_of_ble_eq_true rfl) (Nat.le_of_ble_eq_true rfl) rfl rfl (mj_Ok.up (by decide) (ra_isFraction hy hz)) (fun v' h' hq' => ?_) (fun i h' hq' => by rcases hq' with ⟨_, _, h⟩ | ⟨_, h⟩ <;> cases h)
  rcases hq' with ⟨⟨y1, y2⟩, ⟨z1, z2⟩, hq'⟩ | ⟨cn, hq'⟩
  case' inr =>
    cases hq'
    refine mj_T.if0 (a := 0) rfl ⟨by decide, by decide⟩ (fun hc => ?_) (fun hc => ?_)
    · exact t47 (fun q => cn q.1.1)
    · simp [jc] at hc
  cases hq'
  refine mj_T.if0 (a := 1) rfl ⟨by decide, by decide⟩ (fun hc => ?_) (fun hc => ?_)
  · simp [jc] at hc
  iterate 2 refine mj_T.pl rfl rfl rfl rfl ?_
  refine mj_T.call (ins := .invokestatic 302) rfl rfl (Nat.le_of_ble_eq_true rfl) (Nat.le_of_ble_eq_true rfl) rfl rfl (mj_Ok.up (by decide) (ra_isFraction hu hw)) (fun v' h' hq' => ?_) (fun i h' hq' => by rcases hq' with ⟨_, _, h⟩ | ⟨_, h⟩ <;> cases h)
  rcases hq' with ⟨⟨u1, u2⟩, ⟨w1, w2⟩, hq'⟩ | ⟨cn, hq'⟩
  case' inr =>
    cases hq'
    refine mj_T.if0 (a := 0) rfl ⟨by decide, by decide⟩ (fun hc => ?_) (fun hc => ?_)
    · exact t47 (fun q => cn q.1.2)
    · simp [jc] at hc
  cases hq'
  refine mj_T.if0 (a := 1) rfl ⟨by decide, by decide⟩ (fun hc => ?_) (fun hc => ?_)
  · simp [jc] at hc
  have m1 : -1000000 ≤ y * w ∧ y * w ≤ 1000000 := by
    have k1 : y * w ≤ 1000 * w := Int.mul_le_mul_of_nonneg_right (by omega) (by omega)
    have k2 : -1000 * w ≤ y * w := Int.mul_le_mul_of_nonneg_right (by omega) (by omega)
    omega
  have m2 : -1000000 ≤ u * z ∧ u * z ≤ 1000000 := by
    have k1 : u * z ≤ 1000 * z := Int.mul_le_mul_of_nonneg_right (by omega) (by omega)
    have k2 : -1000 * z ≤ u * z := Int.mul_le_mul_of_nonneg_right (by omega) (by omega)
    omega
  iterate 2 refine mj_T.pl rfl rfl rfl rfl ?_
  refine mj_T.imul rfl ?_
  iterate 2 refine mj_T.pl rfl rfl rfl rfl ?_
  refine mj_T.imul rfl ?_
  refine mj_T.icmp (a := y * w) (b := u * z) rfl ⟨by omega, by omega⟩ ⟨by omega, by omega⟩ (fun hc => ?_) (fun hc => ?_)
  rotate_left
  · simp only [jc, Bool.not_eq_true', Bool.not_eq_false', decide_eq_true_eq, decide_eq_false_iff_not] at hc
    exact t47 (fun q => by have := q.2; omega)
  simp only [jc, Bool.not_eq_true', Bool.not_eq_false', decide_eq_true_eq, decide_eq_false_iff_not] at hc
  have hok : ((okfr y z ∧ okfr u w) ∧ y * w < u * z) := ⟨⟨⟨⟨y1, y2⟩, z1, z2⟩, ⟨u1, u2⟩, w1, w2⟩, by omega⟩
  clear t47
  iterate 2 refine mj_T.pl rfl rfl rfl rfl ?_
  refine mj_T.call (ins := .invokevirtual 232) rfl rfl (Nat.le_of_ble_eq_true rfl) (Nat.le_of_ble_eq_true rfl) (by simp [mj_recv, rS_f hs23]) rfl (mj_Ok.up (by decide) (rp_isZero (D := 0) (r := x) (by omega) K23.nR hs23)) (fun v' h' hq' => ?_) (fun i h' hq' => by rcases hq' with ⟨_, h⟩ | ⟨_, h⟩ <;> cases h)
  rcases hq' with ⟨zz, hq'⟩ | ⟨nz26, hq'⟩
  case' inl =>
    cases hq'
    refine mj_T.if0 (a := 1) rfl ⟨by decide, by decide⟩ (fun hc => ?_) (fun hc => ?_)
    · simp [jc] at hc
    iterate 2 refine mj_T.pl rfl rfl rfl rfl ?_
    refine mj_T.call (ins := .invokevirtual 198) rfl rfl (Nat.le_of_ble_eq_true rfl) (Nat.le_of_ble_eq_true rfl) (by simp [mj_recv, rS_f hs23]) rfl (mj_Ok.up (by decide) (rp_fails (D := 0) (c := 3) hs23)) (fun v' g27 hq' => ?_) (fun i h' hq' => by obtain ⟨_, _, h⟩ := hq'; cases h)
    obtain ⟨_, hs27, hq'⟩ := hq'
    cases hq'
    exact mj_T.ret rfl rfl rfl ⟨3, 0, g27, an.y ⟨by omega, by omega⟩ (an.y hok (an.n (by rw [hfd]; omega))), ⟨by decide, by decide⟩, rfl, ⟨_, N, B, X, V, hs27, K23.put ⟨by decide, by decide⟩ (by decide) (by decide) (by decide) (by decide) (by decide), jvu_at _ _ _⟩⟩
  cases hq'
  refine mj_T.if0 (a := 0) rfl ⟨by decide, by decide⟩ (fun hc => ?_) (fun hc => ?_)
  rotate_left
  · simp [jc] at hc
  iterate 3 refine mj_T.pl rfl rfl rfl rfl ?_
  refine mj_T.call (ins := .invokevirtual 213) rfl rfl (Nat.le_of_ble_eq_true rfl) (Nat.le_of_ble_eq_true rfl) (by simp [mj_recv, rS_f hs23]) rfl (mj_Ok.up (by decide) (rp_loads (D := 0) (p := 0) (r := x) (by decide) (by omega) K23.nR hs23)) (fun v' g28 hq' => ?_) (fun i h' hq' => by obtain ⟨_, _, h⟩ := hq'; cases h)
  obtain ⟨_, hs28, hq'⟩ := hq'
  cases hq'
  have a28 : ∀ e, e < 13 → jfl V 0 (fun e => N (x * 13 + e)) 13 (0 * 13 + e) = N (x * 13 + e) := fun e he => jfl_at _ _ _ he
  have b28 : ∀ s, (s < 0 * 13 ∨ 0 * 13 + 13 ≤ s) → jfl V 0 (fun e => N (x * 13 + e)) 13 s = V s := fun s hc => jfl_off _ _ _ hc
  generalize jfl V 0 (fun e => N (x * 13 + e)) 13 = W28 at hs28 a28 b28
  have c1 : ∀ e, e < 13 → (W28 (0 * 13 + e)).natAbs ≤ 10 ^ 18 := fun e he => by
    rw [a28 e he]
    exact K23.sh (r := x) (by omega) he
  have c2 : jpo W28 0 ≠ pz_0 := jpo_ne_of (by rw [jdg_congr 13 a28]; exact nz26)
  iterate 3 refine mj_T.pl rfl rfl rfl rfl ?_
  refine mj_T.call (ins := .invokevirtual 305) rfl rfl (Nat.le_of_ble_eq_true rfl) (Nat.le_of_ble_eq_true rfl) (by simp [mj_recv, rS_f hs28]) rfl (mj_Ok.up (by decide) (rp_setsFraction (D := 0) (x := y) (y := z) hy hz hs28)) (fun v' g29 hq' => ?_) (fun i h' hq' => by obtain ⟨_, _, _, _, _, _, h⟩ := hq'; cases h)
  obtain ⟨W29, _, hs29, x29a, x29b, x29c, hq'⟩ := hq'
  cases hq'
  iterate 2 refine mj_T.pl rfl rfl rfl rfl ?_
  refine mj_T.call (ins := .invokevirtual 162) rfl rfl (Nat.le_of_ble_eq_true rfl) (Nat.le_of_ble_eq_true rfl) (by simp [mj_recv, rS_f hs29]) rfl (mj_Ok.up (by decide) (jx_valueAt (D := 0) (V := W29) (p := 0) (rG S23 N B T X) (by decide) (C := 10 ^ 18) (x := 1000) (fun e he => by rw [x29c _ (by omega) (by omega)]; exact c1 e he) (by rw [x29a]; omega) (by rw [x29b]; omega) (by decide) rp_fitv rp_fitv2 hs29)) (fun v' g30 hq' => ?_) (fun i h' hq' => by obtain ⟨_, _, _, _, _, _, _, _, h⟩ := hq'; cases h)
  obtain ⟨W30, _, hs30, v29, _, _, _, vv1, hq'⟩ := hq'
  cases hq'
  have vl1 : W30 659 = vlz (rwN N0 (x : Int)) y z := by
    rw [vv1, x29a, x29b]
    exact vlz_cg (fun e he => (x29c _ (by omega) (by omega)).trans ((a28 e he).trans (rwN_at K23.2.1 (by omega) he)))
  have f1 : ∀ j, j < 13 → W30 j = W28 j := fun j hj => by rw [v29 _ (by omega) (by omega) (by omega), x29c _ (by omega) (by omega)]
  have t92 : ∀ b : Int, (b = 0 ∨ b = 1) → ((b = 0 ∧ vlz (rwN N0 (x : Int)) y z ≠ 0) ∨ (b = 1 ∧ vlz (rwN N0 (x : Int)) y z = 0)) → mj_T 39 mj_m272 92 [some (.ref 0), some (.int (jn (x : Int))), some (.int (jn y)), some (.int (jn z)), some (.int (jn u)), some (.int (jn w)), none, none] [.int (jn b)] g30 (rIa (A_rootsBetween N0 x y z u w) N0 u0 H tm er T) := fun b hb hbv => by
    refine mj_T.pl rfl rfl rfl rfl ?_
    iterate 3 refine mj_T.pl rfl rfl rfl rfl ?_
    refine mj_T.call (ins := .invokevirtual 305) rfl rfl (Nat.le_of_ble_eq_true rfl) (Nat.le_of_ble_eq_true rfl) (by simp [mj_recv, rS_f hs30]) rfl (mj_Ok.up (by decide) (rp_setsFraction (D := 0) (x := u) (y := w) hu hw hs30)) (fun v' g31 hq' => ?_) (fun i h' hq' => by obtain ⟨_, _, _, _, _, _, h⟩ := hq'; cases h)
    obtain ⟨W31, _, hs31, x31a, x31b, x31c, hq'⟩ := hq'
    cases hq'
    have f2 : ∀ j, j < 13 → W31 j = W28 j := fun j hj => by rw [x31c _ (by omega) (by omega), f1 j hj]
    have t115 : ∀ (V2 : Nat → Int) (g : mj_H), rS S23 N B T X V2 g → ¬ (vlz (rwN N0 (x : Int)) y z ≠ 0 ∧ vlz (rwN N0 (x : Int)) u w ≠ 0) → mj_T 39 mj_m272 115 [some (.ref 0), some (.int (jn (x : Int))), some (.int (jn y)), some (.int (jn z)), some (.int (jn u)), some (.int (jn w)), some (.int (jn b)), none] [] g (rIa (A_rootsBetween N0 x y z u w) N0 u0 H tm er T) := fun V2 g hg hno4 => by
      iterate 2 refine mj_T.pl rfl rfl rfl rfl ?_
      refine mj_T.call (ins := .invokevirtual 198) rfl rfl (Nat.le_of_ble_eq_true rfl) (Nat.le_of_ble_eq_true rfl) (by simp [mj_recv, rS_f hg]) rfl (mj_Ok.up (by decide) (rp_fails (D := 0) (c := 4) hg)) (fun v' g32 hq' => ?_) (fun i h' hq' => by obtain ⟨_, _, h⟩ := hq'; cases h)
      obtain ⟨_, hs32, hq'⟩ := hq'
      cases hq'
      exact mj_T.ret rfl rfl rfl ⟨4, 0, g32, an.y ⟨by omega, by omega⟩ (an.y hok (an.y (by rw [hfd]; exact nz26) (an.n hno4))), ⟨by decide, by decide⟩, rfl, ⟨_, N, B, X, V2, hs32, K23.put ⟨by decide, by decide⟩ (by decide) (by decide) (by decide) (by decide) (by decide), jvu_at _ _ _⟩⟩
    refine mj_T.pl rfl rfl rfl rfl ?_
    refine mj_T.if0 (a := b) rfl ⟨by omega, by omega⟩ (fun hc9 => ?_) (fun hc9 => ?_)
    · simp only [jc, Bool.not_eq_true', Bool.not_eq_false', decide_eq_true_eq, decide_eq_false_iff_not] at hc9
      exact t115 _ _ hs31 (fun q => by
        rcases hbv with ⟨e, _⟩ | ⟨_, e⟩
        · omega
        · exact q.1 e)
    simp only [jc, Bool.not_eq_true', Bool.not_eq_false', decide_eq_true_eq, decide_eq_false_iff_not] at hc9
    have hv1 : vlz (rwN N0 (x : Int)) y z ≠ 0 := by
      rcases hbv with ⟨_, e⟩ | ⟨e, _⟩
      · exact e
      · omega
    iterate 2 refine mj_T.pl rfl rfl rfl rfl ?_
    refine mj_T.call (ins := .invokevirtual 162) rfl rfl (Nat.le_of_ble_eq_true rfl) (Nat.le_of_ble_eq_true rfl) (by simp [mj_recv, rS_f hs31]) rfl (mj_Ok.up (by decide) (jx_valueAt (D := 0) (V := W31) (p := 0) (rG S23 N B T X) (by decide) (C := 10 ^ 18) (x := 1000) (fun e he => by rw [f2 _ (by omega)]; exact c1 e he) (by rw [x31a]; omega) (by rw [x31b]; omega) (by decide) rp_fitv rp_fitv2 hs31)) (fun v' g33 hq' => ?_) (fun i h' hq' => by obtain ⟨_, _, _, _, _, _, _, _, h⟩ := hq'; cases h)
    obtain ⟨W33, _, hs33, v32, _, _, _, vv2, hq'⟩ := hq'
    cases hq'
    have vl2 : W33 659 = vlz (rwN N0 (x : Int)) u w := by
      rw [vv2, x31a, x31b]
      exact vlz_cg (fun e he => (f2 _ (by omega)).trans ((a28 e he).trans (rwN_at K23.2.1 (by omega) he)))
    have f3 : ∀ j, j < 13 → W33 j = W28 j := fun j hj => by rw [v32 _ (by omega) (by omega) (by omega), f2 j hj]
    have hsr := jsg_range (W33 659)
    refine mj_T.if0 (a := jsg (W33 659)) rfl ⟨by omega, by omega⟩ (fun hc8 => ?_) (fun hc8 => ?_)
    rotate_left
    · simp only [jc, Bool.not_eq_true', Bool.not_eq_false', decide_eq_true_eq, decide_eq_false_iff_not] at hc8
      exact t115 _ _ hs33 (fun q => q.2 (by
        rw [← vl2]
        exact jsg_eq0 (by omega)))
    simp only [jc, Bool.not_eq_true', Bool.not_eq_false', decide_eq_true_eq, decide_eq_false_iff_not] at hc8
    have hv2 : vlz (rwN N0 (x : Int)) u w ≠ 0 := fun e => by
      rw [← vl2] at e
      rw [e] at hc8
      exact absurd hc8 (by decide)
    have c3 : ∀ e, e < 13 → (W33 (0 * 13 + e)).natAbs ≤ 10 ^ 18 := fun e he => by rw [f3 _ (by omega)]; exact c1 e he
    have c4 : jpo W33 0 ≠ pz_0 := by rw [jpo_eq (V := W28) (p := 0) fun e he => f3 _ (by omega)]; exact c2
    iterate 2 refine mj_T.pl rfl rfl rfl rfl ?_
    refine mj_T.call (ins := .invokevirtual 324) rfl rfl (Nat.le_of_ble_eq_true rfl) (Nat.le_of_ble_eq_true rfl) (by simp [mj_recv, rS_f hs33]) rfl (mj_Ok.up (by decide) (jx_laysRow (D := 0) (rG S23 N B T X) (by show 7 < 16; decide) kq_fit51 rp_a51 (a := 0) (by decide) (by decide) (by decide) c4 (fun e he => by have := c3 e he; omega) hs33)) (fun v' g34 hq' => ?_) (fun i h' hq' => by obtain ⟨_, _, _, _, _, _, _, _, _, h⟩ := hq'; cases h)
    obtain ⟨k34, W34, _, hk34, hs34, hrow34, hf34, hn34, sr, hq'⟩ := hq'
    cases hq'
    rw [jpo_rwn (by omega) K23.2.1 (fun e he => (f3 _ (by omega)).trans (a28 e he))] at sr
    have hs34a : rS (jvu S23 7 ((k34 + 1 : Nat) : Int)) N B T X W34 g34 := hs34
    have K34 := K23.put (k := 7) (v := ((k34 + 1 : Nat) : Int)) ⟨by omega, by omega⟩ (by decide) (by decide) (by decide) (by decide) (by decide)
    have h734 : (rF (jvu S23 7 ((k34 + 1 : Nat) : Int)))[7]? = some (.int (jn ((k34 + 1 : Nat) : Int))) := rF7
    clear hs34
    have e34 : jvu S23 7 ((k34 + 1 : Nat) : Int) 3 = 0 := (jvu_ne _ _ _ (by decide)).trans e23
    generalize jvu S23 7 ((k34 + 1 : Nat) : Int) = S34 at hs34a K34 h734 e34
    iterate 3 refine mj_T.pl rfl rfl rfl rfl ?_
    refine mj_T.call (ins := .invokevirtual 305) rfl rfl (Nat.le_of_ble_eq_true rfl) (Nat.le_of_ble_eq_true rfl) (by simp [mj_recv, rS_f hs34a]) rfl (mj_Ok.up (by decide) (rp_setsFraction (D := 0) (x := y) (y := z) hy hz hs34a)) (fun v' g35 hq' => ?_) (fun i h' hq' => by obtain ⟨_, _, _, _, _, _, h⟩ := hq'; cases h)
    obtain ⟨W35, _, hs35, x35a, x35b, x35c, hq'⟩ := hq'
    cases hq'
    iterate 2 refine mj_T.pl rfl rfl rfl rfl ?_
    refine mj_T.call (ins := .invokevirtual 165) rfl rfl (Nat.le_of_ble_eq_true rfl) (Nat.le_of_ble_eq_true rfl) (by simp [mj_recv, rS_f hs35]) rfl (mj_Ok.up (by decide) (jx_changesAt (D := 0) (V := W35) (rG S34 N B T X) h734 hk34 (way := 0) (x := 1000) (by decide) (jrows_keep hrow34 hk34 (fun s hlt => x35c _ (by omega) (by omega))) (fun _ => ⟨by rw [x35a]; omega, by rw [x35b]; omega, by decide, rp_cr1, rp_fitv2⟩) hs35)) (fun v' g36 hq' => ?_) (fun i h' hq' => by obtain ⟨_, _, _, _, _, _, _, _, h⟩ := hq'; cases h)
    obtain ⟨W36, _, z36, hs36, f36, z36a, z36b, zv1, hq'⟩ := hq'
    cases hq'
    refine mj_T.pl rfl rfl rfl rfl ?_
    iterate 3 refine mj_T.pl rfl rfl rfl rfl ?_
    refine mj_T.call (ins := .invokevirtual 305) rfl rfl (Nat.le_of_ble_eq_true rfl) (Nat.le_of_ble_eq_true rfl) (by simp [mj_recv, rS_f hs36]) rfl (mj_Ok.up (by decide) (rp_setsFraction (D := 0) (x := u) (y := w) hu hw hs36)) (fun v' g37 hq' => ?_) (fun i h' hq' => by obtain ⟨_, _, _, _, _, _, h⟩ := hq'; cases h)
    obtain ⟨W37, _, hs37, x37a, x37b, x37c, hq'⟩ := hq'
    cases hq'
    refine mj_T.pl rfl rfl rfl rfl ?_
    iterate 2 refine mj_T.pl rfl rfl rfl rfl ?_
    refine mj_T.call (ins := .invokevirtual 165) rfl rfl (Nat.le_of_ble_eq_true rfl) (Nat.le_of_ble_eq_true rfl) (by simp [mj_recv, rS_f hs37]) rfl (mj_Ok.up (by decide) (jx_changesAt (D := 0) (V := W37) (rG S34 N B T X) h734 hk34 (way := 0) (x := 1000) (by decide) (jrows_keep hrow34 hk34 (fun s hlt => by rw [x37c _ (by omega) (by omega), f36 _ (by omega) (by omega) (by omega), x35c _ (by omega) (by omega)])) (fun _ => ⟨by rw [x37a]; omega, by rw [x37b]; omega, by decide, rp_cr1, rp_fitv2⟩) hs37)) (fun v' g38 hq' => ?_) (fun i h' hq' => by obtain ⟨_, _, _, _, _, _, _, _, h⟩ := hq'; cases h)
    obtain ⟨W38, _, z38, hs38, f38, z38a, z38b, zv2, hq'⟩ := hq'
    cases hq'
    refine mj_T.isub rfl ?_
    exact mj_T.ret rfl rfl rfl ⟨0, z36 - z38, g38, an.y ⟨by omega, by omega⟩ (an.y hok (an.y (by rw [hfd]; exact nz26) (an.y ⟨hv1, hv2⟩ (an.e ⟨k34, _, _, sr, by rw [zv1, zv2, rsg_at, rsg_at, x35a, x35b, x37a, x37b, sat_rrw (V := W34) (W := W35) hk34 (fun s hlt => x35c _ (by omega) (by omega)), sat_rrw (V := W34) (W := W37) hk34 (fun s hlt => by rw [x37c _ (by omega) (by omega), f36 _ (by omega) (by omega) (by omega), x35c _ (by omega) (by omega)])]⟩)))), ⟨by omega, by omega⟩, rfl, ⟨S34, N, B, X, W38, hs38, K34, e34⟩⟩
  have hsr := jsg_range (W30 659)
  refine mj_T.if0 (a := jsg (W30 659)) rfl ⟨by omega, by omega⟩ (fun hc8 => ?_) (fun hc8 => ?_)
  · refine mj_T.pl rfl rfl rfl rfl ?_
    simp only [jc, Bool.not_eq_true', Bool.not_eq_false', decide_eq_true_eq, decide_eq_false_iff_not] at hc8
    exact t92 0 (Or.inl rfl) (Or.inl ⟨rfl, fun e => by
      rw [← vl1] at e
      rw [e] at hc8
      exact absurd hc8 (by decide)⟩)
  · iterate 2 refine mj_T.pl rfl rfl rfl rfl ?_
    simp only [jc, Bool.not_eq_true', Bool.not_eq_false', decide_eq_true_eq, decide_eq_false_iff_not] at hc8
    exact t92 1 (Or.inr rfl) (Or.inr ⟨rfl, by
      rw [← vl1]
      exact jsg_eq0 (by omega)⟩)
end RVS
section RVT
variable {h : mj_H} {u : Nat} {N : Nat → Int} {H : Nat → Nat → Int} {tm er : Int} {T : Nat → Int}
theorem ga_realRoots {x : Int} (jx : jr x) (I : jIx N u H tm er T h) : mj_Ok 60 271 [.ref 0, .int (jn x)] h (rZa (sameQ N u H) (A_realRoots N x) tm er T) := (mj_Ok.up (by decide) (ra_realRoots jx I)).to (fun r k => k.za)
theorem ga_sturmLength {x : Int} (jx : jr x) (I : jIx N u H tm er T h) : mj_Ok 60 273 [.ref 0, .int (jn x)] h (rZa (sameQ N u H) (A_sturmLength N x) tm er T) := (mj_Ok.up (by decide) (ra_sturmLength jx I)).to (fun r k => k.za)
theorem ga_changes {x : Int} (jx : jr x) {y : Int} (jy : jr y) {z : Int} (jz : jr z) (I : jIx N u H tm er T h) : mj_Ok 60 274 [.ref 0, .int (jn x), .int (jn y), .int (jn z)] h (rZa (sameQ N u H) (A_changes N x y z) tm er T) := (mj_Ok.up (by decide) (ra_changes jx jy jz I)).to (fun r k => k.za)
theorem ga_rootsBetween {x : Int} (jx : jr x) {y : Int} (jy : jr y) {z : Int} (jz : jr z) {v : Int} (jv : jr v) {w : Int} (jw : jr w) (I : jIx N u H tm er T h) : mj_Ok 60 272 [.ref 0, .int (jn x), .int (jn y), .int (jn z), .int (jn v), .int (jn w)] h (rZa (sameQ N u H) (A_rootsBetween N x y z v w) tm er T) := (mj_Ok.up (by decide) (ra_rootsBetween jx jy jz jv jw I)).to (fun r k => k.za)
end RVT
/-! Stretching and values on any polynomial of the row; Sturm's stretch and changesAt. -/
theorem sp_p {s : Int} (hs : 1 ≤ s ∧ s ≤ 1048576) {j : Nat} (hj : j ≤ 13) : jnl (s ^ j).natAbs ≤ 9 := by
  refine jnl_le_lt.mpr (Nat.lt_of_le_of_lt (m := 1048576 ^ 13) ?_ (by decide +kernel))
  rw [Int.natAbs_pow]
  exact Nat.le_trans (Nat.pow_le_pow_left (by omega) j) (Nat.pow_le_pow_right (by decide) hj)
theorem hr_l {v : Int} {C Z m k : Nat} (hm : m ≤ 13) (hk : k ≤ 13) (hZ : 1 ≤ Z) (hfit : 13 * (C * Z ^ 13) < jB ^ 239) (h : v.natAbs ≤ m * (C * Z ^ k)) : jnl v.natAbs ≤ 239 := by
  refine jnl_le_lt.mpr (Nat.lt_of_le_of_lt (Nat.le_trans h ?_) hfit)
  exact Nat.mul_le_mul hm (Nat.mul_le_mul_left _ (Nat.pow_le_pow_right hZ hk))
section MVP
variable {g h : mj_H} {n D p q : Nat} {V : Nat → Int} {X : Nat → Nat → Int}
theorem mD_spr_loop {d : Nat} {s : Int} (kp : cK p = 13) (hp : 180 ≤ p) (hdp : d < cL (p + 3)) (hd : d ≤ 12) (hs : 1 ≤ s ∧ s ≤ 1048576) (hV : ∀ e, e ≤ d → jnl (V (p + 4 + 2 * e)).natAbs ≤ 1500) (hC : ∀ e, e ≤ d → jnl (V (p + 4 + 2 * e) * s ^ (d - e)).natAbs ≤ 240 ∧ jnl (V (p + 4 + 2 * e) * s ^ (d - e)).natAbs ≤ cL (p + 4 + 2 * e + 1)) {Q : mj_R → Prop} (hend : ∀ (V1 : Nat → Int) (h1 : mj_H), jM g n V1 X h1 → (∀ e, e < cL (p + 3) → V1 (p + 4 + 2 * e) = V (p + 4 + 2 * e) * s ^ (d - e)) → (∀ x, x ≠ 164 → x ≠ 166 → x ≠ 168 → (x < p + 4 ∨ p + 4 + 2 * cL (p + 3) ≤ x) → V1 x = V x) → Q (.inl none, h1)) : ∀ k, k ≤ d → ∀ (V1 : Nat → Int) (h1 : mj_H), jM g n V1 X h1 → (∀ e, e < cL (p + 3) → V1 (p + 4 + 2 * e) = if e < k then V (p + 4 + 2 * e) else V (p + 4 + 2 * e) * s ^ (d - e)) → V1 168 = s ^ (d - k) → (∀ x, x ≠ 164 → x ≠ 166 → x ≠ 168 → (x < p + 4 ∨ p + 4 + 2 * cL (p + 3) ≤ x) → V1 x = V x) → mj_T (D + 2) mj_m26 16 [some (.ref 19), some (.ref p), some (.long (jl s)), none, some (.int (jn ((k : Int) - 1)))] [] h1 Q
  | 0, hk, V1, h1, m, e1, e2, e3 => by
    refine mj_T.pl rfl rfl rfl rfl ?_
    refine mj_T.if0 (a := (((0 : Nat) : Int) - 1)) rfl ⟨by omega, by omega⟩ (fun c1 => ?_) (fun c1 => ?_)
    · simp only [jc, Bool.not_eq_true', Bool.not_eq_false', decide_eq_true_eq, decide_eq_false_iff_not] at c1
      exact mj_T.ret rfl rfl rfl (hend V1 _ m (fun e he => by rw [e1 e he, if_neg (by omega)]) e3)
    · exfalso
      simp [jc] at c1
  | k + 1, hk, V1, h1, m, e1, e2, e3 => by
    have lc1 : cL (164 + 1) = 240 := mK_z.2.2.2.2.2.2.2.1
    have lc2 : cL (166 + 1) = 240 := mK_z.2.2.2.2.2.2.2.2.1
    have lc3 : cL (168 + 1) = 40 := mK_z.2.2.2.2.2.2.2.2.2.1
    have hpp := mP_pos kp
    have hsx : (d - (k + 1)).succ = d - k := by omega
    have hs3 := jnl_R (v := s) (by omega)
    have ek := e1 k (by omega)
    rw [if_pos (by omega)] at ek
    rw [show ((k + 1 : Nat) : Int) - 1 = (k : Int) by omega]
    refine mj_T.pl rfl rfl rfl rfl ?_
    refine mj_T.if0 (a := ((k : Nat) : Int)) rfl ⟨by omega, by omega⟩ (fun c1 => ?_) (fun c1 => ?_)
    · exfalso
      simp only [jc, Bool.not_eq_true', Bool.not_eq_false', decide_eq_true_eq, decide_eq_false_iff_not] at c1
      omega
    · simp only [jc, Bool.not_eq_true', Bool.not_eq_false', decide_eq_true_eq, decide_eq_false_iff_not] at c1
      refine mj_T.pl rfl rfl rfl rfl ?_
      refine jT.lc 1 rfl rfl ?_
      refine mj_T.lif (a := s) (b := ((1 : Nat) : Int)) rfl rfl ⟨by omega, by omega⟩ ⟨by omega, by omega⟩ (fun c2 => ?_) (fun c2 => ?_)
      · simp only [jc, Bool.not_eq_true', Bool.not_eq_false', decide_eq_true_eq, decide_eq_false_iff_not] at c2
        exact mj_T.ret rfl rfl rfl (hend V1 _ m (fun e he => by rw [e1 e he, show s = 1 by omega, Int.one_pow, Int.mul_one]; split <;> rfl) e3)
      · simp only [jc, Bool.not_eq_true', Bool.not_eq_false', decide_eq_true_eq, decide_eq_false_iff_not] at c2
        refine mj_T.pl rfl rfl rfl rfl ?_
        refine mT_get m 11 cq_d19 (by decide) rfl rfl ?_
        refine mj_T.pl rfl rfl rfl rfl ?_
        refine mj_T.call rfl rfl (Nat.le_of_ble_eq_true rfl) (Nat.le_of_ble_eq_true rfl) (mV_of m 18 cq_d166 (by decide) rfl (by decide) rfl _) rfl (mj_Ok.up (by omega) (mW_setLong (D := 0) (v := s) m cq_d166 ⟨by omega, by omega⟩ (by rw [lc2]; exact Nat.le_trans hs3 (by decide)))) (fun v g3 hq => ?_) (fun i g3 hq => ?_)
        rotate_left
        · obtain ⟨_, _, hq⟩ := hq; cases hq
        obtain ⟨_, m4, hq⟩ := hq
        cases hq
        have m4 := m4.to (V' := (jvu V1 166 s)) (by rfl) rfl
        refine mj_T.eq (pc2 := 35) (st2 := []) ?_ rfl rfl rfl rfl
        refine mj_T.pl rfl rfl rfl rfl ?_
        refine mT_get m4 11 cq_d19 (by decide) rfl rfl ?_
        refine mj_T.pl rfl rfl rfl rfl ?_
        refine mT_get m4 11 cq_d19 (by decide) rfl rfl ?_
        refine mj_T.pl rfl rfl rfl rfl ?_
        refine mT_get m4 11 cq_d19 (by decide) rfl rfl ?_
        refine mj_T.call rfl rfl (Nat.le_of_ble_eq_true rfl) (Nat.le_of_ble_eq_true rfl) (mV_of m4 18 cq_d164 (by decide) rfl (by decide) rfl _) rfl (mj_Ok.up (by omega) (mW_setProduct (D := 0) m4 cq_d164 cq_d168 cq_d166 (by omega) (by omega) (by omega) (by rw [((jvu_ne _ _ _ (by omega)).trans (rfl : V1 168 = _)), (jvu_at _ _ _)]; exact (by rw [lc1, e2, ← Int.pow_succ]; exact Nat.le_trans (sp_p hs (by omega)) (by decide))) (hca := by rw [((jvu_ne _ _ _ (by omega)).trans (rfl : V1 168 = _))]; rw [e2]; exact Nat.le_trans (sp_p hs (by omega)) (by decide)) (hcb := by rw [(jvu_at _ _ _)]; exact Nat.le_trans hs3 (by decide)))) (fun v g5 hq => ?_) (fun i g5 hq => ?_)
        rotate_left
        · obtain ⟨_, _, hq⟩ := hq; cases hq
        obtain ⟨_, m6, hq⟩ := hq
        cases hq
        have m6 := m6.to (V' := (jvu (jvu V1 166 s) 164 ((V1 168) * s))) (by rw [((jvu_ne _ _ _ (by omega)).trans (rfl : V1 168 = _)), (jvu_at _ _ _)]) rfl
        refine mj_T.eq (pc2 := 50) (st2 := []) ?_ rfl rfl rfl rfl
        refine mj_T.pl rfl rfl rfl rfl ?_
        refine mT_get m6 11 cq_d19 (by decide) rfl rfl ?_
        refine mj_T.pl rfl rfl rfl rfl ?_
        refine mT_get m6 11 cq_d19 (by decide) rfl rfl ?_
        refine mj_T.call rfl rfl (Nat.le_of_ble_eq_true rfl) (Nat.le_of_ble_eq_true rfl) (mV_of m6 18 cq_d168 (by decide) rfl (by decide) rfl _) rfl (mj_Ok.up (by omega) (mW_set (D := 0) m6 cq_d168 cq_d164 (by omega) (by rw [(jvu_at _ _ _)]; exact (by rw [lc3, e2, ← Int.pow_succ]; exact Nat.le_trans (sp_p hs (by omega)) (by decide))))) (fun v g7 hq => ?_) (fun i g7 hq => ?_)
        rotate_left
        · obtain ⟨_, _, hq⟩ := hq; cases hq
        obtain ⟨_, m8, hq⟩ := hq
        cases hq
        have m8 := m8.to (V' := (jvu (jvu (jvu V1 166 s) 164 ((V1 168) * s)) 168 ((V1 168) * s))) (by rw [(jvu_at _ _ _)]) rfl
        refine mj_T.eq (pc2 := 61) (st2 := []) ?_ rfl rfl rfl rfl
        refine mj_T.pl rfl rfl rfl rfl ?_
        refine mT_get m8 11 cq_d19 (by decide) rfl rfl ?_
        iterate 2 refine mj_T.pl rfl rfl rfl rfl ?_
        refine mj_T.call rfl rfl (Nat.le_of_ble_eq_true rfl) (Nat.le_of_ble_eq_true rfl) (mV_of m8 13 kp (by decide) rfl (by decide) rfl _) rfl (mj_Ok.up (by omega) (mP_at (D := 0) m8 kp (e := k) (by omega))) (fun v g9 hq => ?_) (fun i g9 hq => ?_)
        rotate_left
        · cases hq
        cases hq
        refine mj_T.eq (pc2 := 71) (st2 := [.ref (p + 4 + 2 * k), .ref 164]) ?_ rfl rfl rfl rfl
        refine mj_T.pl rfl rfl rfl rfl ?_
        refine mT_get m8 11 cq_d19 (by decide) rfl rfl ?_
        refine mj_T.call rfl rfl (Nat.le_of_ble_eq_true rfl) (Nat.le_of_ble_eq_true rfl) (mV_of m8 18 cq_d164 (by decide) rfl (by decide) rfl _) rfl (mj_Ok.up (by omega) (mW_setProduct (D := 0) m8 cq_d164 ((mK_p kp).2.2.2 _ (by omega)) cq_d168 (by omega) (by omega) (by omega) (by rw [((jvu_ne _ _ _ (by omega)).trans ((jvu_ne _ _ _ (by omega)).trans ((jvu_ne _ _ _ (by omega)).trans (rfl : V1 (p + 4 + 2 * k) = _)))), (jvu_at _ _ _)]; exact (by rw [lc1, ek, e2, ← Int.pow_succ, hsx]; exact (hC k (by omega)).1)) (hca := by rw [((jvu_ne _ _ _ (by omega)).trans ((jvu_ne _ _ _ (by omega)).trans ((jvu_ne _ _ _ (by omega)).trans (rfl : V1 (p + 4 + 2 * k) = _))))]; rw [ek]; exact hV k (by omega)) (hcb := by rw [(jvu_at _ _ _)]; rw [e2, ← Int.pow_succ]; exact Nat.le_trans (sp_p hs (by omega)) (by decide)))) (fun v g10 hq => ?_) (fun i g10 hq => ?_)
        rotate_left
        · obtain ⟨_, _, hq⟩ := hq; cases hq
        obtain ⟨_, m11, hq⟩ := hq
        cases hq
        have m11 := m11.to (V' := (jvu (jvu (jvu (jvu V1 166 s) 164 ((V1 168) * s)) 168 ((V1 168) * s)) 164 ((V1 (p + 4 + 2 * k)) * ((V1 168) * s)))) (by rw [((jvu_ne _ _ _ (by omega)).trans ((jvu_ne _ _ _ (by omega)).trans ((jvu_ne _ _ _ (by omega)).trans (rfl : V1 (p + 4 + 2 * k) = _)))), (jvu_at _ _ _)]) rfl
        refine mj_T.eq (pc2 := 78) (st2 := []) ?_ rfl rfl rfl rfl
        iterate 2 refine mj_T.pl rfl rfl rfl rfl ?_
        refine mj_T.call rfl rfl (Nat.le_of_ble_eq_true rfl) (Nat.le_of_ble_eq_true rfl) (mV_of m11 13 kp (by decide) rfl (by decide) rfl _) rfl (mj_Ok.up (by omega) (mP_at (D := 0) m11 kp (e := k) (by omega))) (fun v g12 hq => ?_) (fun i g12 hq => ?_)
        rotate_left
        · cases hq
        cases hq
        refine mj_T.eq (pc2 := 84) (st2 := [.ref (p + 4 + 2 * k)]) ?_ rfl rfl rfl rfl
        refine mj_T.pl rfl rfl rfl rfl ?_
        refine mT_get m11 11 cq_d19 (by decide) rfl rfl ?_
        refine mj_T.call rfl rfl (Nat.le_of_ble_eq_true rfl) (Nat.le_of_ble_eq_true rfl) (mV_of m11 18 ((mK_p kp).2.2.2 _ (by omega)) (by decide) rfl (by decide) rfl _) rfl (mj_Ok.up (by omega) (mW_set (D := 0) m11 ((mK_p kp).2.2.2 _ (by omega)) cq_d164 (by omega) (by rw [(jvu_at _ _ _)]; exact (by rw [ek, e2, ← Int.pow_succ, hsx]; exact (hC k (by omega)).2)))) (fun v g13 hq => ?_) (fun i g13 hq => ?_)
        rotate_left
        · obtain ⟨_, _, hq⟩ := hq; cases hq
        obtain ⟨_, m14, hq⟩ := hq
        cases hq
        have m14 := m14.to (V' := (jvu (jvu (jvu (jvu (jvu V1 166 s) 164 ((V1 168) * s)) 168 ((V1 168) * s)) 164 ((V1 (p + 4 + 2 * k)) * ((V1 168) * s))) (p + 4 + 2 * k) ((V1 (p + 4 + 2 * k)) * ((V1 168) * s)))) (by rw [(jvu_at _ _ _)]) rfl
        refine mj_T.eq (pc2 := 91) (st2 := []) ?_ rfl rfl rfl rfl
        refine mj_T.iinc rfl rfl ?_
        refine mj_T.eq (loc2 := [some (.ref 19), some (.ref p), some (.long (jl s)), none, some (.int (jn (((k : Nat) : Int) + (-1))))]) ?_ rfl rfl rfl rfl
        refine mj_T.pl rfl rfl rfl rfl ?_
        refine mj_T.eq (mD_spr_loop kp hp hdp hd hs hV hC hend k (by omega) _ _ m14 (fun e he => ?_) ?_ (fun x x1 x2 x3 x4 => ?_)) rfl (by rw [show (((k : Nat) : Int) + (-1)) = (k : Int) - 1 by omega]) rfl rfl
        · by_cases q : e = k
          · rw [q, if_neg (by omega), (jvu_at _ _ _), ek, e2, ← Int.pow_succ, hsx]
          · rw [((jvu_ne _ _ _ (by omega)).trans ((jvu_ne _ _ _ (by omega)).trans ((jvu_ne _ _ _ (by omega)).trans ((jvu_ne _ _ _ (by omega)).trans ((jvu_ne _ _ _ (by omega)).trans (rfl : V1 (p + 4 + 2 * e) = _)))))), e1 e he]
            by_cases q2 : e < k
            · rw [if_pos q2, if_pos (by omega)]
            · rw [if_neg q2, if_neg (by omega)]
        · rw [((jvu_ne _ _ _ (by omega)).trans ((jvu_ne _ _ _ (by omega)).trans (jvu_at _ _ _))), e2, ← Int.pow_succ, hsx]
        · rw [((jvu_ne _ _ _ (by omega)).trans ((jvu_ne _ _ _ (by omega)).trans ((jvu_ne _ _ _ (by omega)).trans ((jvu_ne _ _ _ (by omega)).trans ((jvu_ne _ _ _ (by omega)).trans (rfl : V1 x = _))))))]
          exact e3 x x1 x2 x3 x4
theorem mD_spr (m : jM g n V X h) {d : Nat} {s : Int} (kp : cK p = 13) (hp : 180 ≤ p) (hdp : d < cL (p + 3)) (hd : d ≤ 12) (hs : 1 ≤ s ∧ s ≤ 1048576) (hV : ∀ e, e ≤ d → jnl (V (p + 4 + 2 * e)).natAbs ≤ 1500) (hC : ∀ e, e ≤ d → jnl (V (p + 4 + 2 * e) * s ^ (d - e)).natAbs ≤ 240 ∧ jnl (V (p + 4 + 2 * e) * s ^ (d - e)).natAbs ≤ cL (p + 4 + 2 * e + 1)) (hXp : X p 2 = (d : Int)) : mj_Ok (D + 3) 26 [.ref 19, .ref p, .long (jl s)] h (fun r => ∃ (V2 : Nat → Int) (h2 : mj_H), jM g n V2 X h2 ∧ (∀ e, e < cL (p + 3) → V2 (p + 4 + 2 * e) = V (p + 4 + 2 * e) * s ^ (d - e)) ∧ (∀ x, x ≠ 164 → x ≠ 166 → x ≠ 168 → (x < p + 4 ∨ p + 4 + 2 * cL (p + 3) ≤ x) → V2 x = V x) ∧ r = (.inl none, h2)) := by
  have lc1 : cL (164 + 1) = 240 := mK_z.2.2.2.2.2.2.2.1
  have lc2 : cL (166 + 1) = 240 := mK_z.2.2.2.2.2.2.2.2.1
  have lc3 : cL (168 + 1) = 40 := mK_z.2.2.2.2.2.2.2.2.2.1
  have hpp := mP_pos kp
  refine mj_Ok.of (M := mj_m26) rfl rfl rfl ?_
  refine mj_T.pl rfl rfl rfl rfl ?_
  refine mT_get m 11 cq_d19 (by decide) rfl rfl ?_
  refine jT.lc 1 rfl rfl ?_
  refine mj_T.call rfl rfl (Nat.le_of_ble_eq_true rfl) (Nat.le_of_ble_eq_true rfl) (mV_of m 18 cq_d168 (by decide) rfl (by decide) rfl _) rfl (mj_Ok.up (by omega) (mW_setLong (D := 0) (v := ((1 : Nat) : Int)) m cq_d168 ⟨by decide, by decide⟩ (by rw [lc3]; decide +kernel))) (fun v g1 hq => ?_) (fun i g1 hq => ?_)
  rotate_left
  · obtain ⟨_, _, hq⟩ := hq; cases hq
  obtain ⟨_, m2, hq⟩ := hq
  cases hq
  have m2 := m2.to (V' := (jvu V 168 ((1 : Nat) : Int))) (by rfl) rfl
  refine mj_T.eq (pc2 := 8) (st2 := []) ?_ rfl rfl rfl rfl
  refine mj_T.pl rfl rfl rfl rfl ?_
  refine mT_get (v := .int (jn (d : Int))) m2 13 kp (by decide) rfl (congrArg (fun z : Int => some (Value.int (jn z))) (hXp)) ?_
  refine mj_T.pl rfl rfl rfl rfl ?_
  refine mj_T.isub (a := (d : Int)) (b := 1) rfl ?_
  refine mj_T.pl (loc' := [some (.ref 19), some (.ref p), some (.long (jl s)), none, some (.int (jn ((d : Int) - 1)))]) rfl rfl rfl rfl ?_
  refine mj_T.eq (mD_spr_loop (V := V) kp hp hdp hd hs hV hC (fun V1 h1 m1 f1 f2 => ⟨V1, h1, m1, f1, f2, rfl⟩) d (Nat.le_refl d) _ _ m2 (fun e he => ?_) ?_ (fun x x1 x2 x3 x4 => ?_)) rfl ?_ rfl rfl
  · rw [((jvu_ne _ _ _ (by omega)).trans (rfl : V (p + 4 + 2 * e) = _))]
    by_cases q : e < d
    · rw [if_pos q]
    · rw [if_neg q, show d - e = 0 by omega, Int.pow_zero, Int.mul_one]
  · rw [Nat.sub_self, Int.pow_zero, (jvu_at _ _ _)]
    rfl
  · rw [((jvu_ne _ _ _ (by omega)).trans (rfl : V x = _))]
  · rfl
theorem mD_hrp_loop {x c : Int} (kp : cK p = 13) (hp : 180 ≤ p) (kq : cK q = 18) (hq : q ≠ 164 ∧ q ≠ 166) {C Z : Nat} (hZ : 1 ≤ Z) (hfit : 13 * (C * Z ^ 13) < jB ^ 239) (hx : x.natAbs ≤ Z) (hxl : jnl x.natAbs ≤ 1500) (hV8 : V q = x) (hF : ∀ e, e < cL (p + 3) → (V (p + 4 + 2 * e)).natAbs ≤ C) {Q : mj_R → Prop} (hend : ∀ (V1 : Nat → Int) (h1 : mj_H), jM g n V1 X h1 → (∀ a, a ≠ 164 → a ≠ 166 → V1 a = V a) → V1 164 = c → Q (.inl (some (.int (jn (jsg c)))), h1)) : ∀ k t, k + t ≤ 13 → k ≤ cL (p + 3) → ∀ (V1 : Nat → Int) (h1 : mj_H), jM g n V1 X h1 → (∀ a, a ≠ 164 → a ≠ 166 → V1 a = V a) → (V1 164).natAbs ≤ t * (C * Z ^ t) → hpv (fun e => V (p + 4 + 2 * e)) x k (V1 164) = c → mj_T (D + 2) mj_m28 13 [some (.ref 19), some (.ref p), some (.ref q), some (.int (jn ((k : Int) - 1)))] [] h1 Q
  | 0, t, hk, hkc, V1, h1, m, e2, e3, e4 => by
    refine mj_T.pl rfl rfl rfl rfl ?_
    refine mj_T.if0 (a := (((0 : Nat) : Int) - 1)) rfl ⟨by omega, by omega⟩ (fun c1 => ?_) (fun c1 => ?_)
    · simp only [jc, Bool.not_eq_true', Bool.not_eq_false', decide_eq_true_eq, decide_eq_false_iff_not] at c1
      refine mj_T.pl rfl rfl rfl rfl ?_
      refine mT_get m 11 cq_d19 (by decide) rfl rfl ?_
      refine mT_sg m cq_d164 rfl ?_ (hcl := Nat.le_trans (hr_l (by omega) (by omega) hZ hfit e3) (by decide))
      have e5 : V1 164 = c := e4
      rw [e5]
      exact mj_T.ret rfl rfl rfl (hend V1 _ m e2 e5)
    · exfalso
      simp [jc] at c1
  | k + 1, t, hk, hkc, V1, h1, m, e2, e3, e4 => by
    have lc1 : cL (164 + 1) = 240 := mK_z.2.2.2.2.2.2.2.1
    have lc2 : cL (166 + 1) = 240 := mK_z.2.2.2.2.2.2.2.2.1
    have lc3 : cL (168 + 1) = 40 := mK_z.2.2.2.2.2.2.2.2.2.1
    have hpp := mP_pos kp
    have ex : V1 q = x := (e2 q hq.1 hq.2).trans hV8
    have ek : V1 (p + 4 + 2 * k) = V (p + 4 + 2 * k) := e2 _ (by omega) (by omega)
    have hk1 : (V (p + 4 + 2 * k)).natAbs ≤ 1 * (C * Z ^ 0) := by
      rw [Nat.pow_zero, Nat.mul_one, Nat.one_mul]
      exact hF k (by omega)
    have sb := jva_step (k := x) e3 hx (hF k (by omega)) 1 (show (1 : Int).natAbs ≤ Z ^ (t + 1) from Nat.one_le_pow _ _ hZ)
    rw [show ((k + 1 : Nat) : Int) - 1 = (k : Int) by omega]
    refine mj_T.pl rfl rfl rfl rfl ?_
    refine mj_T.if0 (a := ((k : Nat) : Int)) rfl ⟨by omega, by omega⟩ (fun c1 => ?_) (fun c1 => ?_)
    · exfalso
      simp only [jc, Bool.not_eq_true', Bool.not_eq_false', decide_eq_true_eq, decide_eq_false_iff_not] at c1
      omega
    · simp only [jc, Bool.not_eq_true', Bool.not_eq_false', decide_eq_true_eq, decide_eq_false_iff_not] at c1
      refine mj_T.pl rfl rfl rfl rfl ?_
      refine mT_get m 11 cq_d19 (by decide) rfl rfl ?_
      refine mj_T.pl rfl rfl rfl rfl ?_
      refine mT_get m 11 cq_d19 (by decide) rfl rfl ?_
      refine mj_T.pl rfl rfl rfl rfl ?_
      refine mj_T.call rfl rfl (Nat.le_of_ble_eq_true rfl) (Nat.le_of_ble_eq_true rfl) (mV_of m 18 cq_d166 (by decide) rfl (by decide) rfl _) rfl (mj_Ok.up (by omega) (mW_setProduct (D := 0) m cq_d166 cq_d164 kq (by omega) (by omega) (by omega) (by rw [(rfl : V1 164 = _), (rfl : V1 q = _)]; exact (by rw [lc2, ex]; exact Nat.le_trans (hr_l (by omega) (by omega) hZ hfit sb.1) (by decide))) (hca := by rw [(rfl : V1 164 = _)]; exact Nat.le_trans (hr_l (by omega) (by omega) hZ hfit e3) (by decide)) (hcb := by rw [(rfl : V1 q = _)]; rw [ex]; exact hxl))) (fun v g2 hq => ?_) (fun i g2 hq => ?_)
      rotate_left
      · obtain ⟨_, _, hq⟩ := hq; cases hq
      obtain ⟨_, m3, hq⟩ := hq
      cases hq
      have m3 := m3.to (V' := (jvu V1 166 ((V1 164) * (V1 q)))) (by rw [(rfl : V1 164 = _), (rfl : V1 q = _)]) rfl
      refine mj_T.eq (pc2 := 29) (st2 := []) ?_ rfl rfl rfl rfl
      refine mj_T.pl rfl rfl rfl rfl ?_
      refine mT_get m3 11 cq_d19 (by decide) rfl rfl ?_
      iterate 2 refine mj_T.pl rfl rfl rfl rfl ?_
      refine mj_T.call rfl rfl (Nat.le_of_ble_eq_true rfl) (Nat.le_of_ble_eq_true rfl) (mV_of m3 13 kp (by decide) rfl (by decide) rfl _) rfl (mj_Ok.up (by omega) (mP_at (D := 0) m3 kp (e := k) (by omega))) (fun v g4 hq => ?_) (fun i g4 hq => ?_)
      rotate_left
      · cases hq
      cases hq
      refine mj_T.eq (pc2 := 38) (st2 := [.ref (p + 4 + 2 * k), .ref 166]) ?_ rfl rfl rfl rfl
      refine mj_T.pl rfl rfl rfl rfl ?_
      refine mj_T.call rfl rfl (Nat.le_of_ble_eq_true rfl) (Nat.le_of_ble_eq_true rfl) (mV_of m3 18 cq_d166 (by decide) rfl (by decide) rfl _) rfl (mj_Ok.up (by omega) (mW_plus (D := 0) (f := 1) m3 cq_d166 ((mK_p kp).2.2.2 _ (by omega)) (by omega) (Or.inl rfl) (by rw [((jvu_ne _ _ _ (by omega)).trans (rfl : V1 (p + 4 + 2 * k) = _))]; exact (by rw [lc2, ek]; exact Nat.le_trans (hr_l (by omega) (by omega) hZ hfit hk1) (by decide))) (by rw [(jvu_at _ _ _), ((jvu_ne _ _ _ (by omega)).trans (rfl : V1 (p + 4 + 2 * k) = _))]; exact (by rw [lc2, Int.one_mul, ex, ek, ← Int.mul_one (V (p + 4 + 2 * k))]; exact Nat.le_trans (hr_l (by omega) (by omega) hZ hfit sb.2.2) (by decide))))) (fun v g5 hq => ?_) (fun i g5 hq => ?_)
      rotate_left
      · obtain ⟨_, _, hq⟩ := hq; cases hq
      obtain ⟨_, m6, hq⟩ := hq
      cases hq
      have m6 := m6.to (V' := (jvu (jvu V1 166 ((V1 164) * (V1 q))) 166 (((V1 164) * (V1 q)) + 1 * (V1 (p + 4 + 2 * k))))) (by rw [(jvu_at _ _ _), ((jvu_ne _ _ _ (by omega)).trans (rfl : V1 (p + 4 + 2 * k) = _))]) rfl
      refine mj_T.eq (pc2 := 42) (st2 := []) ?_ rfl rfl rfl rfl
      refine mj_T.pl rfl rfl rfl rfl ?_
      refine mT_get m6 11 cq_d19 (by decide) rfl rfl ?_
      refine mj_T.pl rfl rfl rfl rfl ?_
      refine mT_get m6 11 cq_d19 (by decide) rfl rfl ?_
      refine mj_T.call rfl rfl (Nat.le_of_ble_eq_true rfl) (Nat.le_of_ble_eq_true rfl) (mV_of m6 18 cq_d164 (by decide) rfl (by decide) rfl _) rfl (mj_Ok.up (by omega) (mW_set (D := 0) m6 cq_d164 cq_d166 (by omega) (by rw [(jvu_at _ _ _)]; exact (by rw [lc1, Int.one_mul, ex, ek, ← Int.mul_one (V (p + 4 + 2 * k))]; exact Nat.le_trans (hr_l (by omega) (by omega) hZ hfit sb.2.2) (by decide))))) (fun v g7 hq => ?_) (fun i g7 hq => ?_)
      rotate_left
      · obtain ⟨_, _, hq⟩ := hq; cases hq
      obtain ⟨_, m8, hq⟩ := hq
      cases hq
      have m8 := m8.to (V' := (jvu (jvu (jvu V1 166 ((V1 164) * (V1 q))) 166 (((V1 164) * (V1 q)) + 1 * (V1 (p + 4 + 2 * k)))) 164 (((V1 164) * (V1 q)) + 1 * (V1 (p + 4 + 2 * k))))) (by rw [(jvu_at _ _ _)]) rfl
      refine mj_T.eq (pc2 := 53) (st2 := []) ?_ rfl rfl rfl rfl
      refine mj_T.iinc rfl rfl ?_
      refine mj_T.eq (loc2 := [some (.ref 19), some (.ref p), some (.ref q), some (.int (jn (((k : Nat) : Int) + (-1))))]) ?_ rfl rfl rfl rfl
      refine mj_T.pl rfl rfl rfl rfl ?_
      refine mj_T.eq (mD_hrp_loop kp hp kq hq hZ hfit hx hxl hV8 hF hend k (t + 1) (by omega) (by omega) _ _ m8 (fun a a1 a2 => ?_) ?_ ?_) rfl (by rw [show (((k : Nat) : Int) + (-1)) = (k : Int) - 1 by omega]) rfl rfl
      · rw [((jvu_ne _ _ _ (by omega)).trans ((jvu_ne _ _ _ (by omega)).trans ((jvu_ne _ _ _ (by omega)).trans (rfl : V1 a = _))))]
        exact e2 a a1 a2
      · rw [(jvu_at _ _ _), Int.one_mul, ex, ek, ← Int.mul_one (V (p + 4 + 2 * k))]
        exact sb.2.2
      · rw [(jvu_at _ _ _), Int.one_mul, ex, ek]
        exact e4
theorem mD_hrp (m : jM g n V X h) {x : Int} {k : Nat} (kp : cK p = 13) (hp : 180 ≤ p) (kq : cK q = 18) (hq : q ≠ 164 ∧ q ≠ 166) {C Z : Nat} (hZ : 1 ≤ Z) (hfit : 13 * (C * Z ^ 13) < jB ^ 239) (hx : x.natAbs ≤ Z) (hxl : jnl x.natAbs ≤ 1500) (hV8 : V q = x) (hF : ∀ e, e < cL (p + 3) → (V (p + 4 + 2 * e)).natAbs ≤ C) (hk : k ≤ 13) (hkc : k ≤ cL (p + 3)) (hXp : X p 2 = (k : Int) - 1) : mj_Ok (D + 3) 28 [.ref 19, .ref p, .ref q] h (fun r => ∃ (V2 : Nat → Int) (h2 : mj_H), jM g n V2 X h2 ∧ V2 164 = (hpv (fun e => V (p + 4 + 2 * e)) x k 0) ∧ (∀ a, a ≠ 164 → a ≠ 166 → V2 a = V a) ∧ r = (.inl (some (.int (jn (jsg (hpv (fun e => V (p + 4 + 2 * e)) x k 0))))), h2)) := by
  have lc1 : cL (164 + 1) = 240 := mK_z.2.2.2.2.2.2.2.1
  have lc2 : cL (166 + 1) = 240 := mK_z.2.2.2.2.2.2.2.2.1
  have lc3 : cL (168 + 1) = 40 := mK_z.2.2.2.2.2.2.2.2.2.1
  have hpp := mP_pos kp
  refine mj_Ok.of (M := mj_m28) rfl rfl rfl ?_
  refine mj_T.pl rfl rfl rfl rfl ?_
  refine mT_get m 11 cq_d19 (by decide) rfl rfl ?_
  refine jT.lc 0 rfl rfl ?_
  refine mj_T.call rfl rfl (Nat.le_of_ble_eq_true rfl) (Nat.le_of_ble_eq_true rfl) (mV_of m 18 cq_d164 (by decide) rfl (by decide) rfl _) rfl (mj_Ok.up (by omega) (mW_setLong (D := 0) (v := ((0 : Nat) : Int)) m cq_d164 ⟨by decide, by decide⟩ (by rw [lc1]; decide +kernel))) (fun v g1 hq => ?_) (fun i g1 hq => ?_)
  rotate_left
  · obtain ⟨_, _, hq⟩ := hq; cases hq
  obtain ⟨_, m2, hq⟩ := hq
  cases hq
  have m2 := m2.to (V' := (jvu V 164 ((0 : Nat) : Int))) (by rfl) rfl
  refine mj_T.eq (pc2 := 8) (st2 := []) ?_ rfl rfl rfl rfl
  refine mj_T.pl rfl rfl rfl rfl ?_
  refine mT_get (v := .int (jn ((k : Int) - 1))) m2 13 kp (by decide) rfl (congrArg (fun z : Int => some (Value.int (jn z))) (hXp)) ?_
  refine mj_T.pl (loc' := [some (.ref 19), some (.ref p), some (.ref q), some (.int (jn ((k : Int) - 1)))]) rfl rfl rfl rfl ?_
  exact mj_T.eq (mD_hrp_loop (V := jvu V 164 0) kp hp kq hq hZ hfit hx hxl ((jvu_ne _ _ _ hq.1).trans hV8) (fun e he => by rw [jvu_ne _ _ _ (by omega)]; exact hF e he) (fun V1 h1 m1 f1 f2 => ⟨V1, h1, m1, f2, fun a a1 a2 => (f1 a a1 a2).trans (jvu_ne _ _ _ a1), rfl⟩) k 0 (by omega) hkc _ _ m2 (fun a a1 a2 => rfl) (by rw [jvu_at]; exact Nat.zero_le _) (by rw [jvu_at]; exact hpv_cg _ _ (fun j hj => jvu_ne _ _ _ (by omega)))) rfl rfl rfl rfl
end MVP
/-! Sturm's stretch and changesAt; changes, rootsBetween of the class. -/
theorem szr_1 : ∀ d, d < 11 → ∀ e, e < d + 1 → bdf (25 - 2 * d) * 1048576 ^ (d - e) < jB ^ (56 - 4 * e) := by decide +kernel
theorem szr_2 : ∀ d, d < 13 → ∀ e, e < d + 1 → bM * 1048576 ^ (d - e) < jB ^ (30 - 2 * e) := by decide +kernel
theorem SJ.room {A : pz_P} {k : Nat} {V : Nat → Int} {X : Nat → Nat → Int} (j : SJ A k V X) {i : Nat} (hi : i ≤ k) {s : Int} (hs : 1 ≤ s ∧ s ≤ 1048576) {e : Nat} (he : e ≤ sdg X i) : jnl (srw V i e * s ^ (sdg X i - e)).natAbs ≤ 56 ∧ jnl (srw V i e * s ^ (sdg X i - e)).natAbs ≤ cL (sro i + 4 + 2 * e + 1) := by
  have hk := j.k12
  have hd := j.d12 hi
  have hc := (j.2.1 i hi).2
  have hb := j.2.2 i hi e
  have hp : (s ^ (sdg X i - e)).natAbs ≤ 1048576 ^ (sdg X i - e) := by
    rw [Int.natAbs_pow]
    exact Nat.pow_le_pow_left (by omega) _
  rw [(sro_k (t := i) (by omega)).2] at hc
  have hcap := mK_z.2.2.2.2.2.2.1 i (by omega) e (by omega)
  rw [hcap]
  by_cases c : i < 2
  · rw [if_pos c] at hb ⊢
    have h1 : (srw V i e * s ^ (sdg X i - e)).natAbs < jB ^ (30 - 2 * e) := by
      rw [Int.natAbs_mul]
      exact Nat.lt_of_le_of_lt (Nat.mul_le_mul hb hp) (szr_2 _ (by omega) e (by omega))
    have h2 := jnl_le_lt.mpr h1
    exact ⟨by omega, h2⟩
  · rw [if_neg c] at hb ⊢
    have h1 : (srw V i e * s ^ (sdg X i - e)).natAbs < jB ^ (56 - 4 * e) := by
      rw [Int.natAbs_mul]
      exact Nat.lt_of_le_of_lt (Nat.mul_le_mul hb hp) (szr_1 _ (by omega) e (by omega))
    have h2 := jnl_le_lt.mpr h1
    exact ⟨by omega, h2⟩
theorem SJ.fdg {A : pz_P} {k : Nat} {V : Nat → Int} {X : Nat → Nat → Int} (j : SJ A k V X) {i : Nat} (hi : i ≤ k) : fdg (srw V i) 13 = sdg X i + 1 := by
  have hd := j.d12 hi
  obtain ⟨a, b⟩ := j.1.1 i hi
  exact fdg_top (by omega) (fun e he => b e (by omega)) a
theorem sro_far {i t : Nat} (hi : i < 14) (ht : t < 14) (hne : i ≠ t) : sro i + 4 + 2 * cL (sro i + 3) ≤ sro t ∨ sro t + 4 + 2 * cL (sro t + 3) ≤ sro i := mP_far (sro_k hi).1 (sro_k ht).1 ((sro_2 hi).2.2 t ht |>.1 hne)
/-- the row after it has been stretched -/
def STR (s : Int) (k : Nat) (V V1 : Nat → Int) (X : Nat → Nat → Int) : Prop := ∀ t, t ≤ k → ∀ e, e < cL (sro t + 3) → V1 (sro t + 4 + 2 * e) = srw V t e * s ^ (sdg X t - e)
theorem vlz_hom {f : Nat → Int} {x y c : Int} {d : Nat} (h : fdg f 13 = d + 1) : vlz f (x * c) (y * c) = c ^ d * vlz f x y := by
  have go : ∀ m, m ≤ d → ∀ v, hpv (fun e => f e * (y * c) ^ (d - e)) (x * c) m (c ^ (d - m) * v) = c ^ d * hpv (fun e => f e * y ^ (d - e)) x m v := by
    intro m
    induction m with
    | zero =>
      intro _ v
      rfl
    | succ m ih =>
      intro hm v
      show hpv (fun e => f e * (y * c) ^ (d - e)) (x * c) m (c ^ (d - (m + 1)) * v * (x * c) + f m * (y * c) ^ (d - m)) = c ^ d * hpv (fun e => f e * y ^ (d - e)) x m (v * x + f m * y ^ (d - m))
      rw [← ih (by omega)]
      have e1 : c ^ (d - (m + 1)) * c = c ^ (d - m) := by
        rw [← Int.pow_succ, show (d - (m + 1)).succ = d - m by omega]
      have e2 : c ^ (d - (m + 1)) * v * (x * c) + f m * (y * c) ^ (d - m) = c ^ (d - m) * (v * x + f m * y ^ (d - m)) := by
        rw [Int.mul_pow, ← e1, Int.mul_add]
        generalize c ^ (d - (m + 1)) = p
        generalize y ^ (d - m) = q
        rw [show p * v * (x * c) = p * c * (v * x) by ac_rfl, show f m * (q * (p * c)) = p * c * (f m * q) by ac_rfl]
      rw [e2]
  unfold vlz
  rw [h, Nat.add_sub_cancel]
  have e0 := go d (Nat.le_refl d)
  show hpv (fun e => f e * (y * c) ^ (d - e)) (x * c) d (0 * (x * c) + f d * (y * c) ^ (d - d)) = c ^ d * hpv (fun e => f e * y ^ (d - e)) x d (0 * x + f d * y ^ (d - d))
  rw [← e0, Nat.sub_self, Int.pow_zero, Int.pow_zero, Int.pow_zero, Int.zero_mul, Int.zero_mul, Int.one_mul]
theorem SJ.hom {A : pz_P} {k : Nat} {V : Nat → Int} {X : Nat → Nat → Int} (j : SJ A k V X) {x y c : Int} (hc : 0 < c) : chg (sat (srw V) (x * c) (y * c)) (k + 1) = chg (sat (srw V) x y) (k + 1) := chg_cg (k + 1) (fun i hi => by
  unfold sat
  rw [vlz_hom (j.fdg (Nat.le_of_lt_succ hi)), ← jsg_mul2, jsg_pos (ipw_p hc _), Int.one_mul])
theorem ch_fit : 13 * (jB ^ 56 * (jB ^ 14) ^ 13) < jB ^ 239 := by decide +kernel
theorem sat_rg (R : Nat → pz_P) (x y : Int) (i : Nat) : -1 ≤ sat R x y i ∧ sat R x y i ≤ 1 := jsg_range _
section MSA
variable {g h : mj_H} {n D r u q : Nat} {V : Nat → Int} {X : Nat → Nat → Int} {N : Nat → Int} {H : Nat → Nat → Int}
theorem mR_str_loop {A : pz_P} {k : Nat} (j : SJ A k V X) (hl : X 172 2 = ((k + 1 : Nat) : Int)) {s : Int} (hs : 1 ≤ s ∧ s ≤ 1048576) : ∀ (u i : Nat), i + u = k + 1 → ∀ (V1 : Nat → Int) (h1 : mj_H), jM g n V1 X h1 → (∀ t, t ≤ k → ∀ e, e < cL (sro t + 3) → V1 (sro t + 4 + 2 * e) = if t < i then srw V t e * s ^ (sdg X t - e) else srw V t e) → mj_T (D + 4) mj_m74 2 [some (.ref 172), some (.long (jl s)), none, some (.int (jn (i : Int)))] [] h1 (fun z => ∃ (V2 : Nat → Int) (h2 : mj_H), jM g n V2 X h2 ∧ STR s k V V2 X ∧ z = (.inl none, h2))
  | 0, i, hi, V1, h1, m, e1 => by
    have hk := j.k12
    iterate 2 refine mj_T.pl rfl rfl rfl rfl ?_
    refine mT_get (v := .int (jn ((k + 1 : Nat) : Int))) m 16 cq_d172 (by decide) rfl (congrArg (fun z : Int => some (Value.int (jn z))) (hl)) ?_
    refine mj_T.icmp (a := ((i : Nat) : Int)) (b := ((k + 1 : Nat) : Int)) rfl ⟨by omega, by omega⟩ ⟨by omega, by omega⟩ (fun c1 => ?_) (fun c1 => ?_)
    · simp only [jc, decide_eq_true_eq, decide_eq_false_iff_not] at c1
      exact mj_T.ret rfl rfl rfl ⟨V1, _, m, fun t ht e he => by rw [e1 t ht e he, if_pos (by omega)], rfl⟩
    · exfalso
      simp only [jc, decide_eq_true_eq, decide_eq_false_iff_not] at c1
      omega
  | u + 1, i, hi, V1, h1, m, e1 => by
    have hk := j.k12
    have hL : cL 173 = 14 := mK_r.2.2.2.1
    have hcd := (j.2.1 i (by omega)).2
    have hd12 := j.d12 (i := i) (by omega)
    have hV1 : ∀ e, e ≤ sdg X i → V1 (sro i + 4 + 2 * e) = srw V i e := fun e he => by rw [e1 i (by omega) e (by omega), if_neg (by omega)]
    iterate 2 refine mj_T.pl rfl rfl rfl rfl ?_
    refine mT_get (v := .int (jn ((k + 1 : Nat) : Int))) m 16 cq_d172 (by decide) rfl (congrArg (fun z : Int => some (Value.int (jn z))) (hl)) ?_
    refine mj_T.icmp (a := ((i : Nat) : Int)) (b := ((k + 1 : Nat) : Int)) rfl ⟨by omega, by omega⟩ ⟨by omega, by omega⟩ (fun c1 => ?_) (fun c1 => ?_)
    · exfalso
      simp only [jc, decide_eq_true_eq, decide_eq_false_iff_not] at c1
      omega
    · simp only [jc, decide_eq_true_eq, decide_eq_false_iff_not] at c1
      iterate 2 refine mj_T.pl rfl rfl rfl rfl ?_
      refine mT_get m 16 cq_d172 (by decide) rfl rfl ?_
      refine mT_alen m 5 cq_d173 (by decide) rfl ?_
      refine mj_T.icmp (a := ((i : Nat) : Int)) (b := ((cL 173 : Nat) : Int)) rfl ⟨by omega, by omega⟩ ⟨by omega, by omega⟩ (fun c2 => ?_) (fun c2 => ?_)
      · exfalso
        simp only [jc, decide_eq_true_eq, decide_eq_false_iff_not, hL] at c2
        omega
      · simp only [jc, decide_eq_true_eq, decide_eq_false_iff_not, hL] at c2
        refine mj_T.pl rfl rfl rfl rfl ?_
        refine mT_get m 16 cq_d172 (by decide) rfl rfl ?_
        refine mj_T.pl rfl rfl rfl rfl ?_
        refine mT_get m 16 cq_d172 (by decide) rfl rfl ?_
        refine mj_T.pl rfl rfl rfl rfl ?_
        refine mT_aald m 5 cq_d173 (by decide) rfl rfl (by omega) ⟨by omega, by omega⟩ ?_
        refine mj_T.eq (st2 := [.ref (sro i), .ref 19]) ?_ rfl rfl rfl rfl
        refine mj_T.pl rfl rfl rfl rfl ?_
        refine mj_T.call rfl rfl (Nat.le_of_ble_eq_true rfl) (Nat.le_of_ble_eq_true rfl) (mV_of m 11 cq_d19 (by decide) rfl (by decide) rfl _) rfl (mj_Ok.up (by omega) (mD_spr (D := 0) m (sro_k (t := i) (by omega)).1 (sro_2 (by omega)).1 hcd (by omega) hs (fun e he => by rw [hV1 e he]; have := j.l60 (i := i) (by omega) e; omega) (fun e he => by rw [hV1 e he]; have := j.room (i := i) (by omega) hs he; exact ⟨by omega, this.2⟩) (j.dg (by omega)))) (fun v g3 hq => ?_) (fun i g3 hq => ?_)
        rotate_left
        · obtain ⟨_, _, _, _, _, hq⟩ := hq; cases hq
        obtain ⟨V3, _, m3, f1, f2, hq⟩ := hq
        cases hq
        refine mj_T.eq (pc2 := 33) (st2 := []) ?_ rfl rfl rfl rfl
        refine mj_T.iinc rfl rfl ?_
        rw [show ((i : Nat) : Int) + 1 = ((i + 1 : Nat) : Int) by omega]
        refine mj_T.eq (loc2 := [some (.ref 172), some (.long (jl s)), none, some (.int (jn (((i + 1) : Nat) : Int)))]) ?_ rfl rfl rfl rfl
        refine mj_T.pl rfl rfl rfl rfl ?_
        refine mR_str_loop j hl hs u (i + 1) (by omega) V3 _ m3 (fun t ht e he => ?_)
        by_cases c : t = i
        · subst c
          rw [if_pos (by omega), f1 e he, e1 t ht e he, if_neg (by omega)]
        · have hfar := sro_far (i := t) (t := i) (by omega) (by omega) c
          have ht1 := (sro_2 (i := t) (by omega)).1
          rw [f2 _ (by omega) (by omega) (by omega) (by omega), e1 t ht e he]
          by_cases c2 : t < i
          · rw [if_pos c2, if_pos (by omega)]
          · rw [if_neg c2, if_neg (by omega)]
theorem mR_str {A : pz_P} {k : Nat} (m : jM g n V X h) (j : SJ A k V X) (hl : X 172 2 = ((k + 1 : Nat) : Int)) {s : Int} (hs : 1 ≤ s ∧ s ≤ 1048576) : mj_Ok (D + 5) 74 [.ref 172, .long (jl s)] h (fun z => ∃ (V2 : Nat → Int) (h2 : mj_H), jM g n V2 X h2 ∧ STR s k V V2 X ∧ z = (.inl none, h2)) := by
  refine mj_Ok.of (M := mj_m74) rfl rfl rfl ?_
  refine mj_T.pl rfl rfl rfl rfl ?_
  refine mj_T.pl (loc' := [some (.ref 172), some (.long (jl s)), none, some (.int (jn 0))]) rfl rfl rfl rfl ?_
  exact mR_str_loop j hl hs (k + 1) 0 (by omega) V _ m (fun t ht e he => by rw [if_neg (by omega)]; unfold srw; rw [pcs_in he])
theorem mR_cht_loop {A : pz_P} {k : Nat} {V0 : Nat → Int} (j : SJ A k V0 X) (hl : X 172 2 = ((k + 1 : Nat) : Int)) {s x : Int} (hst : (1 ≤ s ∧ s ≤ 1048576) ∧ STR s k V0 V X) (kq : cK q = 18) (hq2 : q ≠ 164 ∧ q ≠ 166) (hx : x.natAbs ≤ jB ^ 14) (hxl : jnl x.natAbs ≤ 1500) (hV8 : V q = x) : ∀ (u i : Nat), i + u = k + 1 → ∀ (V1 : Nat → Int) (h1 : mj_H) (l5 : Option Value), jM g n V1 X h1 → (∀ a, a ≠ 164 → a ≠ 166 → V1 a = V a) → mj_T (D + 4) mj_m76 7 [some (.ref 172), some (.ref q), some (.int (jn ((chg (sat (srw V0) x s) i).1 : Int))), some (.int (jn (chg (sat (srw V0) x s) i).2)), some (.int (jn (i : Int))), l5] [] h1 (fun z => ∃ (V2 : Nat → Int) (h2 : mj_H), jM g n V2 X h2 ∧ (∀ a, a ≠ 164 → a ≠ 166 → V2 a = V a) ∧ z = (.inl (some (.int (jn ((chg (sat (srw V0) x s) (k + 1)).1 : Int)))), h2))
  | 0, i, hi, V1, h1, l5, m, f0 => by
    have hk := j.k12
    have hcb := chg_le (sat (srw V0) x s) i
    iterate 2 refine mj_T.pl rfl rfl rfl rfl ?_
    refine mT_get (v := .int (jn ((k + 1 : Nat) : Int))) m 16 cq_d172 (by decide) rfl (congrArg (fun z : Int => some (Value.int (jn z))) (hl)) ?_
    refine mj_T.icmp (a := ((i : Nat) : Int)) (b := ((k + 1 : Nat) : Int)) rfl ⟨by omega, by omega⟩ ⟨by omega, by omega⟩ (fun c1 => ?_) (fun c1 => ?_)
    · simp only [jc, decide_eq_true_eq, decide_eq_false_iff_not] at c1
      refine mj_T.pl rfl rfl rfl rfl ?_
      obtain rfl : i = k + 1 := by omega
      exact mj_T.ret rfl rfl rfl ⟨V1, _, m, f0, rfl⟩
    · exfalso
      simp only [jc, decide_eq_true_eq, decide_eq_false_iff_not] at c1
      omega
  | u + 1, i, hi, V1, h1, l5, m, f0 => by
    have hk := j.k12
    have hL : cL 173 = 14 := mK_r.2.2.2.1
    have hcb := chg_le (sat (srw V0) x s) i
    have hcr := chg_rg (s := sat (srw V0) x s) i (fun w _ => sat_rg _ _ _ w)
    have hd12 := j.d12 (i := i) (by omega)
    have hcd := (j.2.1 i (by omega)).2
    have hsi := (sro_2 (i := i) (by omega)).1
    have hV1 : ∀ e, e < cL (sro i + 3) → V1 (sro i + 4 + 2 * e) = srw V0 i e * s ^ (sdg X i - e) := fun e he => (f0 _ (by omega) (by omega)).trans (hst.2 i (by omega) e he)
    have hbd : ∀ e, (srw V0 i e * s ^ (sdg X i - e)).natAbs ≤ jB ^ 56 := fun e => by
      by_cases c : e ≤ sdg X i
      · have q0 := (j.room (i := i) (by omega) hst.1 c).1
        exact Nat.le_of_lt (jnl_le_lt.mp q0)
      · rw [(j.1.1 i (by omega)).2 e (by omega), Int.zero_mul]
        exact Nat.zero_le _
    have hv9 : jsg (hpv (fun e => V1 (sro i + 4 + 2 * e)) x (sdg X i + 1) 0) = sat (srw V0) x s i := by
      have hf := j.fdg (i := i) (by omega)
      unfold sat vlz
      rw [hf, Nat.add_sub_cancel]
      exact congrArg jsg (hpv_cg (sdg X i + 1) 0 (fun e he => hV1 e (by omega)))
    iterate 2 refine mj_T.pl rfl rfl rfl rfl ?_
    refine mT_get (v := .int (jn ((k + 1 : Nat) : Int))) m 16 cq_d172 (by decide) rfl (congrArg (fun z : Int => some (Value.int (jn z))) (hl)) ?_
    refine mj_T.icmp (a := ((i : Nat) : Int)) (b := ((k + 1 : Nat) : Int)) rfl ⟨by omega, by omega⟩ ⟨by omega, by omega⟩ (fun c1 => ?_) (fun c1 => ?_)
    · exfalso
      simp only [jc, decide_eq_true_eq, decide_eq_false_iff_not] at c1
      omega
    · simp only [jc, decide_eq_true_eq, decide_eq_false_iff_not] at c1
      iterate 2 refine mj_T.pl rfl rfl rfl rfl ?_
      refine mT_get m 16 cq_d172 (by decide) rfl rfl ?_
      refine mT_alen m 5 cq_d173 (by decide) rfl ?_
      refine mj_T.icmp (a := ((i : Nat) : Int)) (b := ((cL 173 : Nat) : Int)) rfl ⟨by omega, by omega⟩ ⟨by omega, by omega⟩ (fun c2 => ?_) (fun c2 => ?_)
      · exfalso
        simp only [jc, decide_eq_true_eq, decide_eq_false_iff_not, hL] at c2
        omega
      · simp only [jc, decide_eq_true_eq, decide_eq_false_iff_not, hL] at c2
        refine mj_T.pl rfl rfl rfl rfl ?_
        refine mT_get m 16 cq_d172 (by decide) rfl rfl ?_
        refine mj_T.pl rfl rfl rfl rfl ?_
        refine mT_get m 16 cq_d172 (by decide) rfl rfl ?_
        refine mj_T.pl rfl rfl rfl rfl ?_
        refine mT_aald m 5 cq_d173 (by decide) rfl rfl (by omega) ⟨by omega, by omega⟩ ?_
        refine mj_T.eq (st2 := [.ref (sro i), .ref 19]) ?_ rfl rfl rfl rfl
        refine mj_T.pl rfl rfl rfl rfl ?_
        refine mj_T.call rfl rfl (Nat.le_of_ble_eq_true rfl) (Nat.le_of_ble_eq_true rfl) (mV_of m 11 cq_d19 (by decide) rfl (by decide) rfl _) rfl (mj_Ok.up (by omega) (mD_hrp (D := 0) (x := x) (k := sdg X i + 1) m (sro_k (t := i) (by omega)).1 (sro_2 (by omega)).1 kq hq2 (C := jB ^ 56) (Z := jB ^ 14) (by decide +kernel) ch_fit hx hxl (by rw [f0 q hq2.1 hq2.2]; exact hV8) (fun e he => by rw [hV1 e he]; exact hbd e) (by omega) (by omega) (by rw [j.dg (i := i) (by omega)]; omega))) (fun v g3 hq => ?_) (fun i g3 hq => ?_)
        rotate_left
        · obtain ⟨_, _, _, _, _, hq⟩ := hq; cases hq
        obtain ⟨V3, _, m3, _, f3, hq⟩ := hq
        cases hq
        rw [hv9]
        have hvr := sat_rg (srw V0) x s i
        have hp := sg_mul hvr hcr
        refine mj_T.eq (pc2 := 41) (st2 := [.int (jn (sat (srw V0) x s i))]) ?_ rfl rfl rfl rfl
        refine mj_T.pl (loc' := [some (.ref 172), some (.ref q), some (.int (jn (((chg (sat (srw V0) x s) i).1 : Nat) : Int))), some (.int (jn (chg (sat (srw V0) x s) i).2)), some (.int (jn ((i : Nat) : Int))), some (.int (jn (sat (srw V0) x s i)))]) rfl rfl rfl rfl ?_
        iterate 3 refine mj_T.pl rfl rfl rfl rfl ?_
        refine mj_T.imul (a := (sat (srw V0) x s i)) (b := (chg (sat (srw V0) x s) i).2) rfl ?_
        refine mj_T.if0 (a := ((sat (srw V0) x s i) * (chg (sat (srw V0) x s) i).2)) rfl ⟨by omega, by omega⟩ (fun c4 => ?_) (fun c4 => ?_)
        · simp only [jc, Bool.not_eq_true', Bool.not_eq_false', decide_eq_true_eq, decide_eq_false_iff_not] at c4
          have q48 : ¬ (sat (srw V0) x s i) * (chg (sat (srw V0) x s) i).2 < 0 := by omega
          refine mj_T.pl rfl rfl rfl rfl ?_
          refine mj_T.iadd (a := (((chg (sat (srw V0) x s) i).1 : Nat) : Int)) (b := 0) rfl ?_
          refine mj_T.pl (loc' := [some (.ref 172), some (.ref q), some (.int (jn ((((chg (sat (srw V0) x s) i).1 : Nat) : Int) + 0))), some (.int (jn (chg (sat (srw V0) x s) i).2)), some (.int (jn ((i : Nat) : Int))), some (.int (jn (sat (srw V0) x s i)))]) rfl rfl rfl rfl ?_
          refine mj_T.pl rfl rfl rfl rfl ?_
          refine mj_T.if0 (a := (sat (srw V0) x s i)) rfl ⟨by omega, by omega⟩ (fun c5 => ?_) (fun c5 => ?_)
          · simp only [jc, Bool.not_eq_true', Bool.not_eq_false', decide_eq_true_eq, decide_eq_false_iff_not] at c5
            have q60 : (sat (srw V0) x s i) ≠ 0 := c5
            refine mj_T.pl rfl rfl rfl rfl ?_
            refine mj_T.pl (loc' := [some (.ref 172), some (.ref q), some (.int (jn ((((chg (sat (srw V0) x s) i).1 : Nat) : Int) + 0))), some (.int (jn (sat (srw V0) x s i))), some (.int (jn ((i : Nat) : Int))), some (.int (jn (sat (srw V0) x s i)))]) rfl rfl rfl rfl ?_
            refine mj_T.iinc rfl rfl ?_
            rw [show ((i : Nat) : Int) + 1 = ((i + 1 : Nat) : Int) by omega]
            refine mj_T.eq (loc2 := [some (.ref 172), some (.ref q), some (.int (jn ((((chg (sat (srw V0) x s) i).1 : Nat) : Int) + 0))), some (.int (jn (sat (srw V0) x s i))), some (.int (jn (((i + 1) : Nat) : Int))), some (.int (jn (sat (srw V0) x s i)))]) ?_ rfl rfl rfl rfl
            refine mj_T.pl rfl rfl rfl rfl ?_
            have e9 := chg_ge (s := sat (srw V0) x s) (i := i) rfl q60 (by omega)
            refine mj_T.eq (mR_cht_loop j hl hst kq hq2 hx hxl hV8 u (i + 1) (by omega) V3 _ (some (.int (jn (sat (srw V0) x s i)))) m3 (fun a a1 a2 => (f3 a a1 a2).trans (f0 a a1 a2))) rfl ?_ rfl rfl
            rw [e9.1, e9.2]
          · simp only [jc, Bool.not_eq_true', Bool.not_eq_false', decide_eq_true_eq, decide_eq_false_iff_not] at c5
            have q60 : (sat (srw V0) x s i) = 0 := by omega
            iterate 2 refine mj_T.pl rfl rfl rfl rfl ?_
            refine mj_T.pl (loc' := [some (.ref 172), some (.ref q), some (.int (jn ((((chg (sat (srw V0) x s) i).1 : Nat) : Int) + 0))), some (.int (jn (chg (sat (srw V0) x s) i).2)), some (.int (jn ((i : Nat) : Int))), some (.int (jn (sat (srw V0) x s i)))]) rfl rfl rfl rfl ?_
            refine mj_T.iinc rfl rfl ?_
            rw [show ((i : Nat) : Int) + 1 = ((i + 1 : Nat) : Int) by omega]
            refine mj_T.eq (loc2 := [some (.ref 172), some (.ref q), some (.int (jn ((((chg (sat (srw V0) x s) i).1 : Nat) : Int) + 0))), some (.int (jn (chg (sat (srw V0) x s) i).2)), some (.int (jn (((i + 1) : Nat) : Int))), some (.int (jn (sat (srw V0) x s i)))]) ?_ rfl rfl rfl rfl
            refine mj_T.pl rfl rfl rfl rfl ?_
            have e9 := chg_z (s := sat (srw V0) x s) (i := i) q60
            refine mj_T.eq (mR_cht_loop j hl hst kq hq2 hx hxl hV8 u (i + 1) (by omega) V3 _ (some (.int (jn (sat (srw V0) x s i)))) m3 (fun a a1 a2 => (f3 a a1 a2).trans (f0 a a1 a2))) rfl ?_ rfl rfl
            rw [e9.1, e9.2]
        · simp only [jc, Bool.not_eq_true', Bool.not_eq_false', decide_eq_true_eq, decide_eq_false_iff_not] at c4
          have q48 : (sat (srw V0) x s i) * (chg (sat (srw V0) x s) i).2 < 0 := by omega
          iterate 2 refine mj_T.pl rfl rfl rfl rfl ?_
          refine mj_T.iadd (a := (((chg (sat (srw V0) x s) i).1 : Nat) : Int)) (b := 1) rfl ?_
          refine mj_T.pl (loc' := [some (.ref 172), some (.ref q), some (.int (jn ((((chg (sat (srw V0) x s) i).1 : Nat) : Int) + 1))), some (.int (jn (chg (sat (srw V0) x s) i).2)), some (.int (jn ((i : Nat) : Int))), some (.int (jn (sat (srw V0) x s i)))]) rfl rfl rfl rfl ?_
          refine mj_T.pl rfl rfl rfl rfl ?_
          refine mj_T.if0 (a := (sat (srw V0) x s i)) rfl ⟨by omega, by omega⟩ (fun c6 => ?_) (fun c6 => ?_)
          · simp only [jc, Bool.not_eq_true', Bool.not_eq_false', decide_eq_true_eq, decide_eq_false_iff_not] at c6
            have q60 : (sat (srw V0) x s i) ≠ 0 := c6
            refine mj_T.pl rfl rfl rfl rfl ?_
            refine mj_T.pl (loc' := [some (.ref 172), some (.ref q), some (.int (jn ((((chg (sat (srw V0) x s) i).1 : Nat) : Int) + 1))), some (.int (jn (sat (srw V0) x s i))), some (.int (jn ((i : Nat) : Int))), some (.int (jn (sat (srw V0) x s i)))]) rfl rfl rfl rfl ?_
            refine mj_T.iinc rfl rfl ?_
            rw [show ((i : Nat) : Int) + 1 = ((i + 1 : Nat) : Int) by omega]
            refine mj_T.eq (loc2 := [some (.ref 172), some (.ref q), some (.int (jn ((((chg (sat (srw V0) x s) i).1 : Nat) : Int) + 1))), some (.int (jn (sat (srw V0) x s i))), some (.int (jn (((i + 1) : Nat) : Int))), some (.int (jn (sat (srw V0) x s i)))]) ?_ rfl rfl rfl rfl
            refine mj_T.pl rfl rfl rfl rfl ?_
            have e9 := chg_lt (s := sat (srw V0) x s) (i := i) rfl q48
            refine mj_T.eq (mR_cht_loop j hl hst kq hq2 hx hxl hV8 u (i + 1) (by omega) V3 _ (some (.int (jn (sat (srw V0) x s i)))) m3 (fun a a1 a2 => (f3 a a1 a2).trans (f0 a a1 a2))) rfl ?_ rfl rfl
            rw [e9.1, e9.2]
          · simp only [jc, Bool.not_eq_true', Bool.not_eq_false', decide_eq_true_eq, decide_eq_false_iff_not] at c6
            have q60 : (sat (srw V0) x s i) = 0 := by omega
            iterate 2 refine mj_T.pl rfl rfl rfl rfl ?_
            refine mj_T.pl (loc' := [some (.ref 172), some (.ref q), some (.int (jn ((((chg (sat (srw V0) x s) i).1 : Nat) : Int) + 1))), some (.int (jn (chg (sat (srw V0) x s) i).2)), some (.int (jn ((i : Nat) : Int))), some (.int (jn (sat (srw V0) x s i)))]) rfl rfl rfl rfl ?_
            refine mj_T.iinc rfl rfl ?_
            rw [show ((i : Nat) : Int) + 1 = ((i + 1 : Nat) : Int) by omega]
            refine mj_T.eq (loc2 := [some (.ref 172), some (.ref q), some (.int (jn ((((chg (sat (srw V0) x s) i).1 : Nat) : Int) + 1))), some (.int (jn (chg (sat (srw V0) x s) i).2)), some (.int (jn (((i + 1) : Nat) : Int))), some (.int (jn (sat (srw V0) x s i)))]) ?_ rfl rfl rfl rfl
            refine mj_T.pl rfl rfl rfl rfl ?_
            exfalso
            rw [q60, Int.zero_mul] at q48
            omega
theorem mR_cht {A : pz_P} {k : Nat} {V0 : Nat → Int} (j : SJ A k V0 X) (hl : X 172 2 = ((k + 1 : Nat) : Int)) {s x : Int} (hst : (1 ≤ s ∧ s ≤ 1048576) ∧ STR s k V0 V X) (kq : cK q = 18) (hq2 : q ≠ 164 ∧ q ≠ 166) (hx : x.natAbs ≤ jB ^ 14) (hxl : jnl x.natAbs ≤ 1500) (hV8 : V q = x) (m : jM g n V X h) : mj_Ok (D + 5) 76 [.ref 172, .ref q] h (fun z => ∃ (V2 : Nat → Int) (h2 : mj_H), jM g n V2 X h2 ∧ (∀ a, a ≠ 164 → a ≠ 166 → V2 a = V a) ∧ z = (.inl (some (.int (jn ((chg (sat (srw V0) x s) (k + 1)).1 : Int)))), h2)) := by
  refine mj_Ok.of (M := mj_m76) rfl rfl rfl ?_
  refine mj_T.pl rfl rfl rfl rfl ?_
  refine mj_T.pl (loc' := [some (.ref 172), some (.ref q), some (.int (jn 0)), none, none, none]) rfl rfl rfl rfl ?_
  refine mj_T.pl rfl rfl rfl rfl ?_
  refine mj_T.pl (loc' := [some (.ref 172), some (.ref q), some (.int (jn 0)), some (.int (jn 0)), none, none]) rfl rfl rfl rfl ?_
  refine mj_T.pl rfl rfl rfl rfl ?_
  refine mj_T.pl (loc' := [some (.ref 172), some (.ref q), some (.int (jn 0)), some (.int (jn 0)), some (.int (jn 0)), none]) rfl rfl rfl rfl ?_
  exact mR_cht_loop j hl hst kq hq2 hx hxl hV8 (k + 1) 0 (by omega) V _ none m (fun _ _ _ => rfl)
theorem mR_chl {A : pz_P} {k : Nat} {V0 : Nat → Int} (j : SJ A k V0 X) (hl : X 172 2 = ((k + 1 : Nat) : Int)) {s x : Int} (hst : (1 ≤ s ∧ s ≤ 1048576) ∧ STR s k V0 V X) (hx : -1000000 ≤ x ∧ x ≤ 1000000) (m : jM g n V X h) : mj_Ok (D + 6) 75 [.ref 172, .long (jl x)] h (fun z => ∃ (V2 : Nat → Int) (h2 : mj_H), jM g n V2 X h2 ∧ STR s k V0 V2 X ∧ z = (.inl (some (.int (jn ((chg (sat (srw V0) x s) (k + 1)).1 : Int)))), h2)) := by
  have hk := j.k12
  have lc8 : cL (178 + 1) = 3 := mK_z.2.2.2.2.2.2.2.2.2.2.2.2.2.1
  have hx14 : x.natAbs ≤ jB ^ 14 := Nat.le_trans (show x.natAbs ≤ 1000000 by omega) (by decide +kernel)
  have hfar : ∀ t, t ≤ k → ∀ e, sro t + 4 + 2 * e ≠ 178 := fun t ht e => by
    have := (sro_2 (i := t) (by omega)).1
    omega
  refine mj_Ok.of (M := mj_m75) rfl rfl rfl ?_
  refine mj_T.pl rfl rfl rfl rfl ?_
  refine mT_get m 16 cq_d172 (by decide) rfl rfl ?_
  refine mj_T.pl rfl rfl rfl rfl ?_
  refine mj_T.call rfl rfl (Nat.le_of_ble_eq_true rfl) (Nat.le_of_ble_eq_true rfl) (mV_of m 18 cq_d178 (by decide) rfl (by decide) rfl _) rfl (mj_Ok.up (by omega) (mW_setLong (D := 0) (v := x) m cq_d178 ⟨by omega, by omega⟩ (by rw [lc8]; exact jnl_R (by omega)))) (fun v g1 hq => ?_) (fun i g1 hq => ?_)
  rotate_left
  · obtain ⟨_, _, hq⟩ := hq; cases hq
  obtain ⟨_, m1, hq⟩ := hq
  cases hq
  refine mj_T.eq (pc2 := 8) (st2 := []) ?_ rfl rfl rfl rfl
  iterate 2 refine mj_T.pl rfl rfl rfl rfl ?_
  refine mT_get m1 16 cq_d172 (by decide) rfl rfl ?_
  refine mj_T.call rfl rfl (Nat.le_of_ble_eq_true rfl) (Nat.le_of_ble_eq_true rfl) (mV_of m1 16 cq_d172 (by decide) rfl (by decide) rfl _) rfl (mj_Ok.up (by omega) (mR_cht (D := 0) (V0 := V0) (x := x) (s := s) j hl ⟨hst.1, fun t ht e he => by rw [jvu_ne _ _ _ (hfar t ht e)]; exact hst.2 t ht e he⟩ cq_d178 (by decide) hx14 (by have := jnl_R (v := x) (by omega); omega) (jvu_at _ _ _) m1)) (fun v g2 hq => ?_) (fun i g2 hq => ?_)
  rotate_left
  · obtain ⟨_, _, _, _, hq⟩ := hq; cases hq
  obtain ⟨V4, _, m4, f4, hq⟩ := hq
  cases hq
  refine mj_T.eq (pc2 := 16) (st2 := [.int (jn (((chg (sat (srw V0) x s) (k + 1)).1 : Nat) : Int))]) ?_ rfl rfl rfl rfl
  exact mj_T.ret rfl rfl rfl ⟨V4, _, m4, fun t ht e he => by rw [f4 _ (by have := (sro_2 (i := t) (by omega)).1; omega) (by have := (sro_2 (i := t) (by omega)).1; omega), jvu_ne _ _ _ (hfar t ht e)]; exact hst.2 t ht e he, rfl⟩
theorem mD_strkF (m : jM g n V X h) {k : Nat} {s : Int} (hk : k ≤ 13) (hX80 : X 80 2 = (k : Int) - 1) (hs : 1 ≤ s ∧ s ≤ 1000) (hC : ∀ e, e < 13 → (V (80 + 4 + 2 * e)).natAbs ≤ 2000000000000000000) : mj_Ok (D + 3) 26 [.ref 19, .ref 80, .long (jl s)] h (fun r => ∃ (V2 : Nat → Int) (h2 : mj_H), jM g n V2 X h2 ∧ (∀ e, e < 13 → V2 (80 + 4 + 2 * e) = V (80 + 4 + 2 * e) * s ^ ((k - 1) - e)) ∧ (∀ x, x ≠ 164 → x ≠ 166 → x ≠ 168 → (x < 80 + 4 ∨ 80 + 4 + 26 ≤ x) → V2 x = V x) ∧ r = (.inl none, h2)) := by
  rcases Nat.eq_zero_or_pos k with q | q
  · subst q
    exact (mD_stretch0 m (by rw [hX80]; rfl)).to (fun r o => by
      obtain ⟨V2, h2, m2, e1, e2, e3⟩ := o
      exact ⟨V2, h2, m2, fun e he => by rw [e1 e he, Nat.zero_sub, Int.pow_zero, Int.mul_one], e2, e3⟩)
  · obtain ⟨d, rfl⟩ : ∃ d, k = d + 1 := ⟨k - 1, by omega⟩
    rw [Nat.add_sub_cancel]
    exact (mD_stretch m (d := d) (by omega) (by rw [hX80]; omega) hs hC).to (fun r o => by
      obtain ⟨V2, h2, m2, e1, e2, e3⟩ := o
      exact ⟨V2, h2, m2, e1, e2, e3⟩)
theorem mD_valueF (m : jM g n V X h) (kr : cK r = 2) (hX : ∀ i, i < 13 → (X r i).natAbs ≤ 2000000000000000000) {x y : Int} (hx : x.natAbs ≤ 1000) (hy : 1 ≤ y ∧ y ≤ 1000) : mj_Ok (D + 5) 27 [.ref 19, .ref r, .int (jn x), .int (jn y)] h (fun z => ∃ (V2 : Nat → Int) (h2 : mj_H), jM g n V2 (xup X 80 2 ((fdg (X r) 13 : Int) - 1)) h2 ∧ V2 164 = vlz (X r) x y ∧ (∀ a, a ≠ 164 → a ≠ 166 → a ≠ 168 → (a < 80 + 4 ∨ 80 + 4 + 26 ≤ a) → V2 a = V a) ∧ z = (.inl (some (.int (jn (jsg (vlz (X r) x y))))), h2)) := by
  have hl := fdg_le (X r) 13
  have c3 : cL (168 + 1) = 40 := mK_z.2.2.2.2.2.2.2.2.2.1
  refine mj_Ok.of (M := mj_m27) rfl rfl rfl ?_
  refine mj_T.pl rfl rfl rfl rfl ?_
  refine mT_get m 11 cq_d19 (by decide) rfl rfl ?_
  refine mj_T.pl rfl rfl rfl rfl ?_
  refine jT.lc 1 rfl rfl ?_
  refine mj_T.call rfl rfl (Nat.le_of_ble_eq_true rfl) (Nat.le_of_ble_eq_true rfl) (mV_of m 13 cq_d80 (by decide) rfl (by decide) rfl _) rfl (mj_Ok.up (by omega) (mP_loadR1 (D := 0) m cq_d80 kr (by decide +kernel) hX (fun i hi => by have := mK_z.2.2.2.2.1 i hi; omega))) (fun v g1 hq => ?_) (fun i g1 hq => by obtain ⟨_, _, hq⟩ := hq; cases hq)
  obtain ⟨_, m3, hq⟩ := hq
  cases hq
  have a1 : ∀ e, e < 13 → pfl V 80 (X r) 13 (80 + 4 + 2 * e) = X r e := fun e he => pfl_at V 80 (X r) he
  have a2 : ∀ a, (a < 80 + 4 ∨ 80 + 4 + 26 ≤ a) → pfl V 80 (X r) 13 a = V a := fun a ha => pfl_off _ _ _ ha
  generalize pfl V 80 (X r) 13 = V1 at m3 a1 a2
  refine mj_T.eq (pc2 := 9) (st2 := []) ?_ rfl rfl rfl rfl
  iterate 2 refine mj_T.pl rfl rfl rfl rfl ?_
  refine mT_get m3 11 cq_d19 (by decide) rfl rfl ?_
  refine mj_T.pl rfl rfl rfl rfl ?_
  refine mj_T.i2l rfl ⟨by omega, by omega⟩ ?_
  refine mj_T.call rfl rfl (Nat.le_of_ble_eq_true rfl) (Nat.le_of_ble_eq_true rfl) (mV_of m3 11 cq_d19 (by decide) rfl (by decide) rfl _) rfl (mj_Ok.up (by omega) (mD_strkF (D := 0) m3 hl (xup_at _ _ _ _) hy (fun e he => by rw [a1 e he]; exact hX e he))) (fun v g6 hq => ?_) (fun i g6 hq => by obtain ⟨_, _, _, _, _, hq⟩ := hq; cases hq)
  obtain ⟨V7, _, m8, b1, b2, hq⟩ := hq
  cases hq
  refine mj_T.eq (pc2 := 19) (st2 := []) ?_ rfl rfl rfl rfl
  refine mj_T.pl rfl rfl rfl rfl ?_
  refine mT_get m8 11 cq_d19 (by decide) rfl rfl ?_
  refine mj_T.pl rfl rfl rfl rfl ?_
  refine mj_T.i2l rfl ⟨by omega, by omega⟩ ?_
  refine mj_T.call rfl rfl (Nat.le_of_ble_eq_true rfl) (Nat.le_of_ble_eq_true rfl) (mV_of m8 18 cq_d168 (by decide) rfl (by decide) rfl _) rfl (mj_Ok.up (by omega) (mW_setLong (D := 0) (v := x) m8 cq_d168 ⟨by omega, by omega⟩ (by rw [c3]; exact Nat.le_trans (jR_l10 ⟨by omega, by omega⟩) (by decide)))) (fun v g10 hq => ?_) (fun i g10 hq => by obtain ⟨_, _, hq⟩ := hq; cases hq)
  obtain ⟨_, m12, hq⟩ := hq
  cases hq
  have d1 : jvu V7 168 x 168 = x := jvu_at _ _ _
  have d2 : ∀ s, s ≠ 168 → jvu V7 168 x s = V7 s := fun s hne => jvu_ne _ _ _ hne
  generalize jvu V7 168 x = V9 at m12 d1 d2
  have f1 : ∀ e, e < 13 → V9 (80 + 4 + 2 * e) = X r e * y ^ ((fdg (X r) 13 - 1) - e) := fun e he => by rw [d2 _ (by omega), b1 e he, a1 e he]
  have f2 : hpv (fun e => V9 (80 + 4 + 2 * e)) x (fdg (X r) 13) 0 = vlz (X r) x y := hpv_cg _ _ (fun j hj => f1 j (by omega))
  refine mj_T.eq (pc2 := 28) (st2 := []) ?_ rfl rfl rfl rfl
  iterate 2 refine mj_T.pl rfl rfl rfl rfl ?_
  refine mT_get m12 11 cq_d19 (by decide) rfl rfl ?_
  refine mj_T.pl rfl rfl rfl rfl ?_
  refine mT_get m12 11 cq_d19 (by decide) rfl rfl ?_
  refine mj_T.call rfl rfl (Nat.le_of_ble_eq_true rfl) (Nat.le_of_ble_eq_true rfl) (mV_of m12 11 cq_d19 (by decide) rfl (by decide) rfl _) rfl (mj_Ok.up (by omega) (mD_hor (D := 0) m12 hl (xup_at _ _ _ _) hx d1 (fun e he => by rw [f1 e he]; exact (str_c (hX e he) hy (by omega)).1))) (fun v g14 hq => ?_) (fun i g14 hq => by obtain ⟨_, _, _, _, _, hq⟩ := hq; cases hq)
  obtain ⟨V17, _, m16, e1, e2, hq⟩ := hq
  rw [f2] at e1 hq
  cases hq
  refine mj_T.eq (pc2 := 40) (st2 := [.int (jn (jsg (vlz (X r) x y)))]) ?_ rfl rfl rfl rfl
  exact mj_T.ret rfl rfl rfl ⟨V17, _, m16, e1, fun a a1 a2x a3 a4 => (e2 a a1 a2x).trans ((d2 a a3).trans ((b2 a a1 a2x a3 a4).trans (a2 a a4))), rfl⟩
theorem cv_134 (A : AS N u H) (s : cC N u H h) {a : Int} (ra : -2147483648 ≤ a ∧ a ≤ 2147483647) {f1 : Int} (rf1 : -2147483648 ≤ f1 ∧ f1 ≤ 2147483647) {f2 : Int} (rf2 : -2147483648 ≤ f2 ∧ f2 ≤ 2147483647) : mj_Ok 59 134 [.ref 1, .int (jn a), .int (jn f1), .int (jn f2)] h (cA (fun k => if k = 0 then 1 else if k = 2 then 2 else 3) (A_changes N a f1 f2)) := by
  obtain ⟨V, X, m, b, d, c, jx⟩ := cS.nr A s
  have jx : rjR X := jx
  refine mj_Ok.of (M := mj_m134) rfl rfl rfl ?_
  iterate 2 refine mj_T.pl rfl rfl rfl rfl ?_
  refine mj_T.call rfl rfl (Nat.le_of_ble_eq_true rfl) (Nat.le_of_ble_eq_true rfl) (mV_of m 19 cq_d1 (by decide) rfl (by decide) rfl _) rfl (mj_Ok.up (by omega) (mC_rowOf (D := 0) m (i := a) (by omega))) (fun v g1 hq => ?_) (fun i g1 hq => ?_)
  rotate_left
  · rcases hq with ⟨_, hq⟩ | ⟨hn, hq⟩
    · cases hq
    · cases hq
      exact Or.inl ⟨rfl, fun z => an.n hn⟩
  rcases hq with ⟨ka, hq⟩ | ⟨_, hq⟩
  rotate_left
  · cases hq
  cases hq
  refine mj_T.eq (pc2 := 5) (st2 := [.ref (4 + a.toNat)]) ?_ rfl rfl rfl rfl
  refine mj_T.pl (loc' := [some (.ref 1), some (.int (jn a)), some (.int (jn f1)), some (.int (jn f2)), some (.ref (4 + a.toNat))]) rfl rfl rfl rfl ?_
  iterate 2 refine mj_T.pl rfl rfl rfl rfl ?_
  refine mj_T.call rfl rfl (Nat.le_of_ble_eq_true rfl) (Nat.le_of_ble_eq_true rfl) rfl rfl (mj_Ok.up (by omega) (mC_fraction (D := 0) (i := f1) (j := f2) (by omega) (by omega))) (fun v g2 hq => ?_) (fun i g2 hq => ?_)
  rotate_left
  · rcases hq with ⟨_, hq⟩ | ⟨hn, hq⟩
    · cases hq
    · cases hq
      exact Or.inl ⟨rfl, fun z => an.y ka (an.n hn)⟩
  rcases hq with ⟨kf, hq⟩ | ⟨_, hq⟩
  rotate_left
  · cases hq
  cases hq
  refine mj_T.eq (pc2 := 12) (st2 := []) ?_ rfl rfl rfl rfl
  refine mj_T.pl rfl rfl rfl rfl ?_
  refine mj_T.call rfl rfl (Nat.le_of_ble_eq_true rfl) (Nat.le_of_ble_eq_true rfl) rfl rfl (mj_Ok.up (by omega) (mC_zero (D := 0) m (mK_rt a.toNat (by omega)) (c.sm A.1 ka))) (fun v g3 hq => ?_) (fun i g3 hq => ?_)
  rotate_left
  · rcases hq with ⟨_, hq⟩ | ⟨hn, hq⟩
    · cases hq
    · cases hq
      exact Or.inl ⟨rfl, fun z => an.y ka (an.y kf (an.n (fun q => hn (by rw [fdg_congr 13 (c.rw ka)]; exact q))))⟩
  rcases hq with ⟨kz, hq⟩ | ⟨_, hq⟩
  rotate_left
  · cases hq
  cases hq
  refine mj_T.eq (pc2 := 17) (st2 := []) ?_ rfl rfl rfl rfl
  refine mj_T.pl rfl rfl rfl rfl ?_
  refine mT_get m 19 cq_d1 (by decide) rfl rfl ?_
  iterate 2 refine mj_T.pl rfl rfl rfl rfl ?_
  refine mj_T.call rfl rfl (Nat.le_of_ble_eq_true rfl) (Nat.le_of_ble_eq_true rfl) rfl rfl (mj_Ok.up (by omega) (mS_cont (D := 0) m (mK_rt a.toNat (by omega)) (c.sm A.1 ka))) (fun v g4 hq => ?_) (fun i g4 hq => ?_)
  rotate_left
  · cases hq
  cases hq
  refine mj_T.eq (pc2 := 28) (st2 := [.long (jl ((cgd (X (4 + a.toNat)) 13 : Nat) : Int)), .ref (4 + a.toNat), .ref 172]) ?_ rfl rfl rfl rfl
  refine mj_T.call rfl rfl (Nat.le_of_ble_eq_true rfl) (Nat.le_of_ble_eq_true rfl) (mV_of m 16 cq_d172 (by decide) rfl (by decide) rfl _) rfl (mj_Ok.up (by omega) (mR_sbegin (D := 0) m b d (mK_rt a.toNat (by omega)) (c.sm A.1 ka) kz)) (fun v g5 hq => ?_) (fun i g5 hq => ?_)
  rotate_left
  · obtain ⟨_, _, _, _, _, _, _, _, hq⟩ := hq; cases hq
  obtain ⟨V7, X7, _, m7, gs, b7, fx, d7, hq⟩ := hq
  cases hq
  rw [(c).rw13 ka] at gs
  obtain ⟨k9, hk9, l9, rw9, j9⟩ := gs
  refine mj_T.eq (pc2 := 31) (st2 := []) ?_ rfl rfl rfl rfl
  refine mj_T.pl rfl rfl rfl rfl ?_
  refine mT_get m7 19 cq_d1 (by decide) rfl rfl ?_
  refine mj_T.pl rfl rfl rfl rfl ?_
  refine mj_T.i2l rfl ⟨by omega, by omega⟩ ?_
  refine mj_T.call rfl rfl (Nat.le_of_ble_eq_true rfl) (Nat.le_of_ble_eq_true rfl) (mV_of m7 16 cq_d172 (by decide) rfl (by decide) rfl _) rfl (mj_Ok.up (by omega) (mR_str (D := 0) (s := f2) m7 j9 l9 ⟨by omega, by omega⟩)) (fun v g6 hq => ?_) (fun i g6 hq => ?_)
  rotate_left
  · obtain ⟨_, _, _, _, hq⟩ := hq; cases hq
  obtain ⟨V8, _, m8, st8, hq⟩ := hq
  cases hq
  have hst : (1 ≤ f2 ∧ f2 ≤ 1048576) ∧ STR f2 k9 V7 V8 X7 := ⟨⟨by omega, by omega⟩, st8⟩
  refine mj_T.eq (pc2 := 40) (st2 := []) ?_ rfl rfl rfl rfl
  refine mj_T.pl rfl rfl rfl rfl ?_
  refine mT_get m8 19 cq_d1 (by decide) rfl rfl ?_
  refine mj_T.pl rfl rfl rfl rfl ?_
  refine mj_T.i2l rfl ⟨by omega, by omega⟩ ?_
  refine mj_T.call rfl rfl (Nat.le_of_ble_eq_true rfl) (Nat.le_of_ble_eq_true rfl) (mV_of m8 16 cq_d172 (by decide) rfl (by decide) rfl _) rfl (mj_Ok.up (by omega) (mR_chl (D := 0) (V0 := V7) (s := f2) (x := f1) j9 l9 hst ⟨by omega, by omega⟩ m8)) (fun v g7 hq => ?_) (fun i g7 hq => ?_)
  rotate_left
  · obtain ⟨_, _, _, _, hq⟩ := hq; cases hq
  obtain ⟨V8, _, m9, t10, hq⟩ := hq
  cases hq
  have b46 := chg_le (sat (srw V7) f1 f2) (k9 + 1)
  refine mj_T.eq (pc2 := 49) (st2 := [.int (jn (((chg (sat (srw V7) f1 f2) (k9 + 1)).1 : Nat) : Int))]) ?_ rfl rfl rfl rfl
  exact mj_T.ret rfl rfl rfl ⟨_, ⟨by omega, by omega⟩, rfl, an.y ka (an.y kf (an.y (by rw [← fdg_congr 13 (c.rw ka)]; exact kz) (an.e ⟨k9, _, _, rw9, rfl⟩)))⟩
theorem cv_132 (A : AS N u H) (s : cC N u H h) {a : Int} (ra : -2147483648 ≤ a ∧ a ≤ 2147483647) {x1 : Int} (rx1 : -2147483648 ≤ x1 ∧ x1 ≤ 2147483647) {y1 : Int} (ry1 : -2147483648 ≤ y1 ∧ y1 ≤ 2147483647) {x2 : Int} (rx2 : -2147483648 ≤ x2 ∧ x2 ≤ 2147483647) {y2 : Int} (ry2 : -2147483648 ≤ y2 ∧ y2 ≤ 2147483647) : mj_Ok 59 132 [.ref 1, .int (jn a), .int (jn x1), .int (jn y1), .int (jn x2), .int (jn y2)] h (cA (fun k => if k = 0 then 1 else if k = 2 then 2 else if k = 3 then 3 else 4) (A_rootsBetween N a x1 y1 x2 y2)) := by
  obtain ⟨V, X, m, b, d, c, jx⟩ := cS.nr A s
  have jx : rjR X := jx
  refine mj_Ok.of (M := mj_m132) rfl rfl rfl ?_
  iterate 2 refine mj_T.pl rfl rfl rfl rfl ?_
  refine mj_T.call rfl rfl (Nat.le_of_ble_eq_true rfl) (Nat.le_of_ble_eq_true rfl) (mV_of m 19 cq_d1 (by decide) rfl (by decide) rfl _) rfl (mj_Ok.up (by omega) (mC_rowOf (D := 0) m (i := a) (by omega))) (fun v g1 hq => ?_) (fun i g1 hq => ?_)
  rotate_left
  · rcases hq with ⟨_, hq⟩ | ⟨hn, hq⟩
    · cases hq
    · cases hq
      exact Or.inl ⟨rfl, fun z => an.n hn⟩
  rcases hq with ⟨ka, hq⟩ | ⟨_, hq⟩
  rotate_left
  · cases hq
  cases hq
  refine mj_T.eq (pc2 := 5) (st2 := [.ref (4 + a.toNat)]) ?_ rfl rfl rfl rfl
  refine mj_T.pl (loc' := [some (.ref 1), some (.int (jn a)), some (.int (jn x1)), some (.int (jn y1)), some (.int (jn x2)), some (.int (jn y2)), some (.ref (4 + a.toNat))]) rfl rfl rfl rfl ?_
  iterate 2 refine mj_T.pl rfl rfl rfl rfl ?_
  refine mj_T.call rfl rfl (Nat.le_of_ble_eq_true rfl) (Nat.le_of_ble_eq_true rfl) rfl rfl (mj_Ok.up (by omega) (mC_fraction (D := 0) (i := x1) (j := y1) (by omega) (by omega))) (fun v g2 hq => ?_) (fun i g2 hq => ?_)
  rotate_left
  · rcases hq with ⟨_, hq⟩ | ⟨hn, hq⟩
    · cases hq
    · cases hq
      exact Or.inl ⟨rfl, fun z => an.y ka (an.n (fun q => hn q.1.1))⟩
  rcases hq with ⟨kf, hq⟩ | ⟨_, hq⟩
  rotate_left
  · cases hq
  cases hq
  refine mj_T.eq (pc2 := 12) (st2 := []) ?_ rfl rfl rfl rfl
  iterate 2 refine mj_T.pl rfl rfl rfl rfl ?_
  refine mj_T.call rfl rfl (Nat.le_of_ble_eq_true rfl) (Nat.le_of_ble_eq_true rfl) rfl rfl (mj_Ok.up (by omega) (mC_fraction (D := 0) (i := x2) (j := y2) (by omega) (by omega))) (fun v g3 hq => ?_) (fun i g3 hq => ?_)
  rotate_left
  · rcases hq with ⟨_, hq⟩ | ⟨hn, hq⟩
    · cases hq
    · cases hq
      exact Or.inl ⟨rfl, fun z => an.y ka (an.n (fun q => hn q.1.2))⟩
  rcases hq with ⟨kg, hq⟩ | ⟨_, hq⟩
  rotate_left
  · cases hq
  cases hq
  have hpr : (-1000000 ≤ x1 * y2 ∧ x1 * y2 ≤ 1000000) ∧ (-1000000 ≤ x2 * y1 ∧ x2 * y1 ≤ 1000000) ∧ (1 ≤ y1 * y2 ∧ y1 * y2 ≤ 1000000) := by
    have a1 : x1 * y2 ≤ 1000 * y2 := Int.mul_le_mul_of_nonneg_right (by omega) (by omega)
    have a2 : -1000 * y2 ≤ x1 * y2 := Int.mul_le_mul_of_nonneg_right (by omega) (by omega)
    have a3 : x2 * y1 ≤ 1000 * y1 := Int.mul_le_mul_of_nonneg_right (by omega) (by omega)
    have a4 : -1000 * y1 ≤ x2 * y1 := Int.mul_le_mul_of_nonneg_right (by omega) (by omega)
    have a5 : y1 * y2 ≤ 1000 * y2 := Int.mul_le_mul_of_nonneg_right (by omega) (by omega)
    have a6 : 1 * y2 ≤ y1 * y2 := Int.mul_le_mul_of_nonneg_right (by omega) (by omega)
    omega
  refine mj_T.eq (pc2 := 19) (st2 := []) ?_ rfl rfl rfl rfl
  iterate 2 refine mj_T.pl rfl rfl rfl rfl ?_
  refine mj_T.imul (a := x1) (b := y2) rfl ?_
  iterate 2 refine mj_T.pl rfl rfl rfl rfl ?_
  refine mj_T.imul (a := x2) (b := y1) rfl ?_
  refine mj_T.icmp (a := (x1 * y2)) (b := (x2 * y1)) rfl ⟨by omega, by omega⟩ ⟨by omega, by omega⟩ (fun c4 => ?_) (fun c4 => ?_)
  · simp only [jc, Bool.not_eq_true', Bool.not_eq_false', decide_eq_true_eq, decide_eq_false_iff_not] at c4
    refine mj_T.pl rfl rfl rfl rfl ?_
    refine mj_T.call rfl rfl (Nat.le_of_ble_eq_true rfl) (Nat.le_of_ble_eq_true rfl) rfl rfl (mj_Ok.up (by omega) (mC_zero (D := 0) m (mK_rt a.toNat (by omega)) (c.sm A.1 ka))) (fun v g5 hq => ?_) (fun i g5 hq => ?_)
    rotate_left
    · rcases hq with ⟨_, hq⟩ | ⟨hn, hq⟩
      · cases hq
      · cases hq
        exact Or.inl ⟨rfl, fun z => an.y ka (an.y ⟨⟨kf, kg⟩, by omega⟩ (an.n (fun q => hn (by rw [fdg_congr 13 (c.rw ka)]; exact q))))⟩
    rcases hq with ⟨kz, hq⟩ | ⟨_, hq⟩
    rotate_left
    · cases hq
    cases hq
    refine mj_T.eq (pc2 := 43) (st2 := []) ?_ rfl rfl rfl rfl
    refine mj_T.pl rfl rfl rfl rfl ?_
    refine mT_get m 19 cq_d1 (by decide) rfl rfl ?_
    iterate 3 refine mj_T.pl rfl rfl rfl rfl ?_
    refine mj_T.call rfl rfl (Nat.le_of_ble_eq_true rfl) (Nat.le_of_ble_eq_true rfl) (mV_of m 11 cq_d19 (by decide) rfl (by decide) rfl _) rfl (mj_Ok.up (by omega) (mD_valueF (D := 0) m (mK_rt a.toNat (by omega)) (fun i hi => by have q : sml (X (4 + a.toNat)) := (c).sm A.1 ka; have := q i hi; omega) (x := x1) (y := y1) (by omega) kf.2)) (fun v g6 hq => ?_) (fun i g6 hq => ?_)
    rotate_left
    · obtain ⟨_, _, _, _, _, hq⟩ := hq; cases hq
    obtain ⟨V7, _, m8, _, fr51, hq⟩ := hq
    cases hq
    have hj51 := jsg_range (vlz (X (4 + a.toNat)) x1 y1)
    have b9 : by0 V7 := fun x hx => by
      have k := bydl_f hx
      rw [fr51 x k.2.2.2.2.2.1 k.2.2.2.2.2.2.1 k.2.2.2.2.2.2.2.1 k.2.2.1]
      exact b x hx
    have hfd51 := fdg_le (X (4 + a.toNat)) 13
    have d10 : DG (xup X 80 2 ((fdg (X (4 + a.toNat)) 13 : Int) - 1)) := DG.deg d (by rw [show cL (80 + 3) = 13 from mK_z.2.2.1]; omega)
    refine mj_T.eq (pc2 := 54) (st2 := [.int (jn (jsg (vlz (X (4 + a.toNat)) x1 y1)))]) ?_ rfl rfl rfl rfl
    refine mj_T.if0 (a := (jsg (vlz (X (4 + a.toNat)) x1 y1))) rfl ⟨by omega, by omega⟩ (fun c11 => ?_) (fun c11 => ?_)
    · simp only [jc, Bool.not_eq_true', Bool.not_eq_false', decide_eq_true_eq, decide_eq_false_iff_not] at c11
      have hv1 : vlz (rwN N a) x1 y1 = 0 := (vlz_cg (f' := X (4 + a.toNat)) (c.rw ka)).symm.trans (jsg_eq0 (by omega))
      exact mj_T.throws rfl rfl rfl (Nat.le_of_ble_eq_true rfl) (fun z => an.y ka (an.y ⟨⟨kf, kg⟩, by omega⟩ (an.y (by rw [← fdg_congr 13 (c.rw ka)]; exact kz) (an.n (fun q => q.1 hv1)))))
    · simp only [jc, Bool.not_eq_true', Bool.not_eq_false', decide_eq_true_eq, decide_eq_false_iff_not] at c11
      have hv1 : vlz (rwN N a) x1 y1 ≠ 0 := fun e => by
        rw [← vlz_cg (f' := X (4 + a.toNat)) (c.rw ka)] at e
        rw [e] at c11
        exact absurd c11 (by decide)
      refine mj_T.pl rfl rfl rfl rfl ?_
      refine mT_get m8 19 cq_d1 (by decide) rfl rfl ?_
      iterate 3 refine mj_T.pl rfl rfl rfl rfl ?_
      refine mj_T.call rfl rfl (Nat.le_of_ble_eq_true rfl) (Nat.le_of_ble_eq_true rfl) (mV_of m8 11 cq_d19 (by decide) rfl (by decide) rfl _) rfl (mj_Ok.up (by omega) (mD_valueF (D := 0) m8 (mK_rt a.toNat (by omega)) (fun i hi => by have q : sml ((xup X 80 2 ((fdg (X (4 + a.toNat)) 13 : Int) - 1)) (4 + a.toNat)) := ((c.sb ((sBn.rf X).tr (sBn.deg cq_d80)))).sm A.1 ka; have := q i hi; omega) (x := x2) (y := y2) (by omega) kg.2)) (fun v g12 hq => ?_) (fun i g12 hq => ?_)
      rotate_left
      · obtain ⟨_, _, _, _, _, hq⟩ := hq; cases hq
      obtain ⟨V13, _, m14, _, fr67, hq⟩ := hq
      cases hq
      have hj67 := jsg_range (vlz ((xup X 80 2 ((fdg (X (4 + a.toNat)) 13 : Int) - 1)) (4 + a.toNat)) x2 y2)
      have b15 : by0 V13 := fun x hx => by
        have k := bydl_f hx
        rw [fr67 x k.2.2.2.2.2.1 k.2.2.2.2.2.2.1 k.2.2.2.2.2.2.2.1 k.2.2.1]
        exact b9 x hx
      have hfd67 := fdg_le ((xup X 80 2 ((fdg (X (4 + a.toNat)) 13 : Int) - 1)) (4 + a.toNat)) 13
      have d16 : DG (xup (xup X 80 2 ((fdg (X (4 + a.toNat)) 13 : Int) - 1)) 80 2 ((fdg ((xup X 80 2 ((fdg (X (4 + a.toNat)) 13 : Int) - 1)) (4 + a.toNat)) 13 : Int) - 1)) := DG.deg d10 (by rw [show cL (80 + 3) = 13 from mK_z.2.2.1]; omega)
      refine mj_T.eq (pc2 := 70) (st2 := [.int (jn (jsg (vlz ((xup X 80 2 ((fdg (X (4 + a.toNat)) 13 : Int) - 1)) (4 + a.toNat)) x2 y2)))]) ?_ rfl rfl rfl rfl
      refine mj_T.if0 (a := (jsg (vlz ((xup X 80 2 ((fdg (X (4 + a.toNat)) 13 : Int) - 1)) (4 + a.toNat)) x2 y2))) rfl ⟨by omega, by omega⟩ (fun c17 => ?_) (fun c17 => ?_)
      · simp only [jc, Bool.not_eq_true', Bool.not_eq_false', decide_eq_true_eq, decide_eq_false_iff_not] at c17
        have hv2 : vlz (rwN N a) x2 y2 ≠ 0 := fun e => by
          rw [← vlz_cg (f' := (xup X 80 2 ((fdg (X (4 + a.toNat)) 13 : Int) - 1)) (4 + a.toNat)) ((c.sb ((sBn.rf X).tr (sBn.deg cq_d80))).rw ka)] at e
          rw [e] at c17
          exact absurd c17 (by decide)
        refine mj_T.pl rfl rfl rfl rfl ?_
        refine mT_get m14 19 cq_d1 (by decide) rfl rfl ?_
        iterate 2 refine mj_T.pl rfl rfl rfl rfl ?_
        refine mj_T.call rfl rfl (Nat.le_of_ble_eq_true rfl) (Nat.le_of_ble_eq_true rfl) rfl rfl (mj_Ok.up (by omega) (mS_cont (D := 0) m14 (mK_rt a.toNat (by omega)) ((c.sb (((sBn.rf X).tr (sBn.deg cq_d80)).tr (sBn.deg cq_d80))).sm A.1 ka))) (fun v g18 hq => ?_) (fun i g18 hq => ?_)
        rotate_left
        · cases hq
        cases hq
        refine mj_T.eq (pc2 := 92) (st2 := [.long (jl ((cgd ((xup (xup X 80 2 ((fdg (X (4 + a.toNat)) 13 : Int) - 1)) 80 2 ((fdg ((xup X 80 2 ((fdg (X (4 + a.toNat)) 13 : Int) - 1)) (4 + a.toNat)) 13 : Int) - 1)) (4 + a.toNat)) 13 : Nat) : Int)), .ref (4 + a.toNat), .ref 172]) ?_ rfl rfl rfl rfl
        refine mj_T.call rfl rfl (Nat.le_of_ble_eq_true rfl) (Nat.le_of_ble_eq_true rfl) (mV_of m14 16 cq_d172 (by decide) rfl (by decide) rfl _) rfl (mj_Ok.up (by omega) (mR_sbegin (D := 0) m14 b15 d16 (mK_rt a.toNat (by omega)) ((c.sb (((sBn.rf X).tr (sBn.deg cq_d80)).tr (sBn.deg cq_d80))).sm A.1 ka) (by rw [fdg_congr 13 ((c.sb (((sBn.rf X).tr (sBn.deg cq_d80)).tr (sBn.deg cq_d80))).rw ka), ← fdg_congr 13 (c.rw ka)]; exact kz))) (fun v g19 hq => ?_) (fun i g19 hq => ?_)
        rotate_left
        · obtain ⟨_, _, _, _, _, _, _, _, hq⟩ := hq; cases hq
        obtain ⟨V7, X7, _, m7, gs, b7, fx, d7, hq⟩ := hq
        cases hq
        rw [((c.sb (((sBn.rf X).tr (sBn.deg cq_d80)).tr (sBn.deg cq_d80)))).rw13 ka] at gs
        obtain ⟨k9, hk9, l9, rw9, j9⟩ := gs
        refine mj_T.eq (pc2 := 95) (st2 := []) ?_ rfl rfl rfl rfl
        refine mj_T.pl rfl rfl rfl rfl ?_
        refine mT_get m7 19 cq_d1 (by decide) rfl rfl ?_
        iterate 2 refine mj_T.pl rfl rfl rfl rfl ?_
        refine mj_T.imul (a := y1) (b := y2) rfl ?_
        refine mj_T.i2l rfl ⟨by omega, by omega⟩ ?_
        refine mj_T.call rfl rfl (Nat.le_of_ble_eq_true rfl) (Nat.le_of_ble_eq_true rfl) (mV_of m7 16 cq_d172 (by decide) rfl (by decide) rfl _) rfl (mj_Ok.up (by omega) (mR_str (D := 0) (s := (y1 * y2)) m7 j9 l9 ⟨by omega, by omega⟩)) (fun v g20 hq => ?_) (fun i g20 hq => ?_)
        rotate_left
        · obtain ⟨_, _, _, _, hq⟩ := hq; cases hq
        obtain ⟨V8, _, m8, st8, hq⟩ := hq
        cases hq
        have hst : (1 ≤ (y1 * y2) ∧ (y1 * y2) ≤ 1048576) ∧ STR (y1 * y2) k9 V7 V8 X7 := ⟨⟨by omega, by omega⟩, st8⟩
        refine mj_T.eq (pc2 := 107) (st2 := []) ?_ rfl rfl rfl rfl
        refine mj_T.pl rfl rfl rfl rfl ?_
        refine mT_get m8 19 cq_d1 (by decide) rfl rfl ?_
        iterate 2 refine mj_T.pl rfl rfl rfl rfl ?_
        refine mj_T.imul (a := x1) (b := y2) rfl ?_
        refine mj_T.i2l rfl ⟨by omega, by omega⟩ ?_
        refine mj_T.call rfl rfl (Nat.le_of_ble_eq_true rfl) (Nat.le_of_ble_eq_true rfl) (mV_of m8 16 cq_d172 (by decide) rfl (by decide) rfl _) rfl (mj_Ok.up (by omega) (mR_chl (D := 0) (V0 := V7) (s := (y1 * y2)) (x := (x1 * y2)) j9 l9 hst ⟨by omega, by omega⟩ m8)) (fun v g21 hq => ?_) (fun i g21 hq => ?_)
        rotate_left
        · obtain ⟨_, _, _, _, hq⟩ := hq; cases hq
        obtain ⟨V22, _, m23, t24, hq⟩ := hq
        cases hq
        have b116 := chg_le (sat (srw V7) (x1 * y2) (y1 * y2)) (k9 + 1)
        refine mj_T.eq (pc2 := 119) (st2 := [.int (jn (((chg (sat (srw V7) (x1 * y2) (y1 * y2)) (k9 + 1)).1 : Nat) : Int))]) ?_ rfl rfl rfl rfl
        refine mj_T.pl rfl rfl rfl rfl ?_
        refine mT_get m23 19 cq_d1 (by decide) rfl rfl ?_
        iterate 2 refine mj_T.pl rfl rfl rfl rfl ?_
        refine mj_T.imul (a := x2) (b := y1) rfl ?_
        refine mj_T.i2l rfl ⟨by omega, by omega⟩ ?_
        refine mj_T.call rfl rfl (Nat.le_of_ble_eq_true rfl) (Nat.le_of_ble_eq_true rfl) (mV_of m23 16 cq_d172 (by decide) rfl (by decide) rfl _) rfl (mj_Ok.up (by omega) (mR_chl (D := 0) (V0 := V7) (s := (y1 * y2)) (x := (x2 * y1)) j9 l9 ⟨hst.1, t24⟩ ⟨by omega, by omega⟩ m23)) (fun v g25 hq => ?_) (fun i g25 hq => ?_)
        rotate_left
        · obtain ⟨_, _, _, _, hq⟩ := hq; cases hq
        obtain ⟨V26, _, m27, t28, hq⟩ := hq
        cases hq
        have b128 := chg_le (sat (srw V7) (x2 * y1) (y1 * y2)) (k9 + 1)
        refine mj_T.eq (pc2 := 131) (st2 := [.int (jn (((chg (sat (srw V7) (x2 * y1) (y1 * y2)) (k9 + 1)).1 : Nat) : Int)), .int (jn (((chg (sat (srw V7) (x1 * y2) (y1 * y2)) (k9 + 1)).1 : Nat) : Int))]) ?_ rfl rfl rfl rfl
        refine mj_T.isub (a := (((chg (sat (srw V7) (x1 * y2) (y1 * y2)) (k9 + 1)).1 : Nat) : Int)) (b := (((chg (sat (srw V7) (x2 * y1) (y1 * y2)) (k9 + 1)).1 : Nat) : Int)) rfl ?_
        exact mj_T.ret rfl rfl rfl ⟨_, ⟨by omega, by omega⟩, rfl, an.y ka (an.y ⟨⟨kf, kg⟩, by omega⟩ (an.y (by rw [← fdg_congr 13 (c.rw ka)]; exact kz) (an.y ⟨hv1, hv2⟩ (an.e ⟨k9, _, _, rw9, by rw [j9.hom (x := x1) (y := y1) (c := y2) (by omega), show (y1 * y2 : Int) = y2 * y1 from Int.mul_comm _ _, j9.hom (x := x2) (y := y2) (c := y1) (by omega)]⟩))))⟩
      · simp only [jc, Bool.not_eq_true', Bool.not_eq_false', decide_eq_true_eq, decide_eq_false_iff_not] at c17
        have hv2 : vlz (rwN N a) x2 y2 = 0 := (vlz_cg (f' := (xup X 80 2 ((fdg (X (4 + a.toNat)) 13 : Int) - 1)) (4 + a.toNat)) ((c.sb ((sBn.rf X).tr (sBn.deg cq_d80))).rw ka)).symm.trans (jsg_eq0 (by omega))
        exact mj_T.throws rfl rfl rfl (Nat.le_of_ble_eq_true rfl) (fun z => an.y ka (an.y ⟨⟨kf, kg⟩, by omega⟩ (an.y (by rw [← fdg_congr 13 (c.rw ka)]; exact kz) (an.n (fun q => q.2 hv2)))))
  · simp only [jc, Bool.not_eq_true', Bool.not_eq_false', decide_eq_true_eq, decide_eq_false_iff_not] at c4
    exact mj_T.throws rfl rfl rfl (Nat.le_of_ble_eq_true rfl) (fun z => an.y ka (an.n (fun q => by have := q.2; omega)))
end MSA
