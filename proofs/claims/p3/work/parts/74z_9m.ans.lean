/-! What a call answers: a code (0: none), and a number where the code is 0. -/
/-- conditions with the codes that they have where they don't hold; then what the answer is -/
def an : List (Prop × Int) → (Int → Prop) → Int → Int → Prop
  | [], F, c, z => c = 0 ∧ F z
  | p :: l, F, c, z => (¬ p.1 ∧ c = p.2) ∨ (p.1 ∧ an l F c z)
theorem an.ag {F : Int → Prop} (hF : ∀ z1 z2, F z1 → F z2 → z1 = z2) : ∀ {l : List (Prop × Int)} {c1 z1 c2 z2 : Int}, (∀ p ∈ l, p.2 ≠ 0) → an l F c1 z1 → an l F c2 z2 → c1 = c2 ∧ (c1 = 0 → z1 = z2)
  | [], c1, z1, c2, z2, _, a, b => ⟨a.1.trans b.1.symm, fun _ => hF _ _ a.2 b.2⟩
  | p :: l, c1, z1, c2, z2, hk, a, b => by
    have h0 := hk p List.mem_cons_self
    rcases a with ⟨a1, a2⟩ | ⟨a1, a2⟩
    · rcases b with ⟨b1, b2⟩ | ⟨b1, b2⟩
      · exact ⟨a2.trans b2.symm, fun e => absurd (a2.symm.trans e) h0⟩
      · exact absurd b1 a1
    · rcases b with ⟨b1, b2⟩ | ⟨b1, b2⟩
      · exact absurd a1 b1
      · exact an.ag hF (fun q hq => hk q (List.mem_cons_of_mem _ hq)) a2 b2
/-- the class's call: its answer, or what is thrown and the code that the law makes of it -/
def cA (cd : Nat → Int) (A : Int → Int → Prop) (r : mj_R) : Prop := match r.1 with
  | .inl v => ∃ z : Int, jr z ∧ v = some (.int (jn z)) ∧ A 0 z
  | .inr k => ∀ z, A (cd k) z
/-- the law's small method: its code, the answer in its cell -/
def oA (A : Int → Int → Prop) (Φ : SP) (r : mj_R) : Prop := ∃ c z : Int, A c z ∧ jr c ∧ r.1 = .inl (some (.int (jn c))) ∧ (c = 0 → jR z ∧ ∃ f : Nat → Value, r.2[571]? = some (.inl (1, 1, f)) ∧ f 0 = .long (jl z)) ∧ yZ Φ r.2
/-- the reference's call: its answer, and what it has thrown -/
def rZa (P : SP) (A : Int → Int → Prop) (tm er : Int) (T : Nat → Int) (r : mj_R) : Prop := ∃ (c z : Int) (N' : Nat → Int) (u' : Nat) (H' : Nat → Nat → Int), A c z ∧ jr z ∧ r.1 = .inl (some (.int (jn z))) ∧ P N' u' H' ∧ jItx N' u' H' c tm er T r.2
/-- both sides hold the same, and the reference has thrown c -/
def YXt (c tm er : Int) (T : Nat → Int) (h : mj_H) : Prop := ∃ (N : Nat → Int) (u : Nat) (H : Nat → Nat → Int) (hr : mj_H), cC N u H h ∧ jEm 563 hr h ∧ jItx N u H c tm er T hr
theorem YXt.to {c tm er : Int} {T : Nat → Int} {h : mj_H} (y : YXt c tm er T h) : YX tm er T h := by
  obtain ⟨N, u, H, hr, a, b, k⟩ := y
  exact ⟨N, u, H, hr, a, b, k.to⟩
section YXA
variable {hr h : mj_H} {tm er c : Int} {T : Nat → Int}
theorem YXt.thrown {D : Nat} (y : YXt c tm er T h) : mj_Ok (D + 1) 175 [.ref 563] h (fun r => r = (.inl (some (.int (jn c))), h)) := by
  obtain ⟨N, u, H, hr, _, ⟨_, _, _, E⟩, ⟨S, N1, B, X, V, ⟨bg, ov, db, sv, rfl⟩, K, e⟩⟩ := y
  have h1 := E 0 _ rfl
  refine mj_Ok.of (M := mj_m175) rfl rfl rfl ?_
  refine mj_T.pl rfl rfl rfl rfl ?_
  refine mj_T.gfl (v := .int (jn c)) rfl h1 (by rw [← e]; rfl) ?_
  exact mj_T.ret rfl rfl rfl rfl
theorem YX.calla {D j : Nat} {as as2 : List Value} {tm' er' : Int} {T' : Nat → Int} {Φ Ψ : SP} {A : Int → Int → Prop} (E : jEm 563 hr h) (hl : 571 < h.length) (y : yZ Φ h) (ag : AgP Φ Ψ) (c : mj_Ok D j as hr (rZa Ψ A tm' er' T')) (has : ∀ N, as.map (mj_rn (jro 563 N)) = as2) : mj_Ok D j as2 h (fun r => ∃ c z : Int, A c z ∧ jr z ∧ r.1 = .inl (some (.int (jn z))) ∧ YXt c tm' er' T' r.2 ∧ r.2[571]? = h[571]?) := by
  have hL := E.2.2.1
  have := E.run c (fun r q h3 => by
    obtain ⟨_, _, N', u', H', _, _, _, _, k⟩ := q
    exact jI_s8 k.to.tI h3)
  rw [has] at this
  refine this.to (fun r hq => ?_)
  obtain ⟨r0, hr', ⟨c, z, N2, u2, H2, a, jz, v0, p2, k⟩, v1, d, _, f⟩ := hq
  obtain ⟨N1, u1, H1, p1, s1⟩ := y
  have s2 : cC N1 u1 H1 r.2 := s1.fr (fun a ha => by
    have l : a < 563 := by
      rcases Nat.lt_or_ge a 563 with c | c
      · exact c
      · exact absurd (cK_out c) ha
    exact f a (by omega) (Or.inl l))
  have v0 : r0 = .inl (some (.int (jn z))) := v0
  refine ⟨c, z, a, jz, ?_, ⟨N2, u2, H2, hr', s2.cg (ag _ _ _ _ _ _ p1 p2), d, k⟩, f 571 hl (Or.inr (by decide))⟩
  rw [v1, v0]
  first
  | rfl
  | done
end YXA
theorem jcx.lastv {h : mj_H} {D pc q r1 r2 r3 r4 r5 : Nat} {M : mj_M} {loc : mj_L} {st : List Value} {Q : mj_R → Prop} {x : Int64} {f : Nat → Value} (hf : h[q]? = some (.inl (1, 1, f))) (hc : M.2.2.2.2.1 pc = some (.lastore, r1, r2, r3, r4, r5)) (k : ∀ e : mj_E, (∃ f : Nat → Value, (h.set q e)[q]? = some (.inl (1, 1, f)) ∧ f 0 = .long x) → mj_T D M (pc + 1) loc st (h.set q e) Q) : mj_T D M pc loc (.long x :: .int (jn 0) :: .ref q :: st) h Q := by
  refine mj_T.step hc rfl (pc' := pc + 1) (loc' := loc) (st' := st) (h' := h.set q (.inl (1, 1, updV f 0 (.long x)))) ?_ (k _ ⟨_, List.getElem?_set_self (List.getElem?_eq_some_iff.mp hf).1, rfl⟩)
  simp only [mj_step, hf]
  rfl
section JZL
variable {n : Nat} {tm : Int} {h : mj_H} {Φ : SP} {A : Int → Int → Prop}
theorem jz_311 {p1 : Int} {p2 : Int} {p3 : Int} (w : jLw cK cL cR 571 n tm h) (rp1 : -2147483648 ≤ p1 ∧ p1 ≤ 2147483647) (rp2 : -2147483648 ≤ p2 ∧ p2 ≤ 2147483647) (rp3 : -2147483648 ≤ p3 ∧ p3 ≤ 2147483647) (c : mj_Ok 59 103 [.ref 1, .int (jn p1), .int (jn p2), .int (jn p3)] h (fun r => yZ Φ r.2 ∧ cA (fun k => if k = 0 then 1 else 2) A r)) : mj_Ok 60 311 [.ref 1, .int (jn p1), .int (jn p2), .int (jn p3), .ref 571] h (oA A Φ) := by
  have hg : h.length ≤ n := Nat.le_of_eq w.1.1
  refine mj_Ok.of (M := mj_m311) (loc := [some (.ref 1), some (.int (jn p1)), some (.int (jn p2)), some (.int (jn p3)), some (.ref 571), none]) rfl rfl rfl ?_
  iterate 6 refine mj_T.pl rfl rfl rfl rfl ?_
  refine mj_T.call rfl rfl (Nat.le_of_ble_eq_true rfl) (Nat.le_of_ble_eq_true rfl) (jrv_of w.1 cK4.1 (by decide) rfl (by decide) rfl _) rfl ((mj_Ok.up (by decide) (jc_103 (D := 0) cTY hg w.1 cK4.1 rp1 rp2 rp3)).and c) (fun v h1 hq => ?_) (fun i h1 hq => ?_)
  · obtain ⟨⟨_, o1⟩, y1, z, jz, rfl, az⟩ := hq
    obtain ⟨_, _, f, hf⟩ := w.thr o1
    refine mj_T.i2l rfl jz ?_
    refine jcx.lastv hf rfl (fun e ce => ?_)
    iterate 2 refine mj_T.pl rfl rfl rfl rfl ?_
    exact mj_T.ret rfl rfl rfl ⟨0, z, az, ⟨by decide, by decide⟩, rfl, fun _ => ⟨⟨by have := jz.1; omega, by have := jz.2; omega⟩, ce⟩, yZ.set y1⟩
  · obtain ⟨⟨hi, o1⟩, y1, y2⟩ := hq
    simp only [List.mem_cons, List.not_mem_nil, or_false] at hi
    rcases hi with hi | hi
    · subst hi
      refine Or.inr ⟨5, 17, rfl, (Nat.le_of_ble_eq_true rfl), ?_⟩
      refine mj_T.pl rfl rfl rfl rfl ?_
      exact mj_T.ret rfl rfl rfl ⟨1, 0, y2 0, ⟨by decide, by decide⟩, rfl, fun q => absurd q (by decide), y1⟩
    · subst hi
      refine Or.inr ⟨5, 21, rfl, (Nat.le_of_ble_eq_true rfl), ?_⟩
      refine mj_T.pl rfl rfl rfl rfl ?_
      exact mj_T.ret rfl rfl rfl ⟨2, 0, y2 0, ⟨by decide, by decide⟩, rfl, fun q => absurd q (by decide), y1⟩
end JZL
/-! The reference's calls that change registers: what is answered and thrown. -/
def rIc (c : Int) (F : Int → Prop) (N0 : Nat → Int) (u : Nat) (H : Nat → Nat → Int) (tm er : Int) (T : Nat → Int) (r : mj_R) : Prop := ∃ (z : Int) (h' : mj_H), (jr z ∧ F z) ∧ r = (.inl (some (.int (jn z))), h') ∧ jItx N0 u H c tm er T h'
def rOc (tm er : Int) (T : Nat → Int) (N0 : Nat → Int) (u0 : Nat) (H : Nat → Nat → Int) (r : Nat) (c : Int) (w : Nat → Int) (z : mj_R) : Prop := (sml w ∧ rIc 0 (fun v => v = (fdg w 13 : Int) - 1) (jfl N0 r w 13) (upu u0) (pushH N0 H) tm er T z) ∨ (¬ sml w ∧ rIc c (fun _ => True) N0 u0 H tm er T z)
def RRc (tm er : Int) (T : Nat → Int) (N0 : Nat → Int) (u0 : Nat) (H : Nat → Nat → Int) (reg : Prop) (res : (Nat → Int) → Prop) (to : Int) (z : mj_R) : Prop := (reg ∧ ∃ w, res w ∧ rOc tm er T N0 u0 H to.toNat 2 w z) ∨ (¬ reg ∧ rIc 1 (fun _ => True) N0 u0 H tm er T z)
def RPc (k : Int) (cf : Int → Prop) (tm er : Int) (T : Nat → Int) (N0 : Nat → Int) (u0 : Nat) (H : Nat → Nat → Int) (reg : Prop) (P : pz_P) (to : Int) (z : mj_R) : Prop := (reg ∧ ((fit13 P ∧ ∃ w : Nat → Int, (∀ j, j < 13 → w j = P j) ∧ rIc 0 (fun v => v = (fdg w 13 : Int) - 1) (jfl N0 to.toNat w 13) (upu u0) (pushH N0 H) tm er T z) ∨ (¬ fit13 P ∧ rIc k (fun _ => True) N0 u0 H tm er T z))) ∨ (¬ reg ∧ ∃ c, cf c ∧ rIc c (fun _ => True) N0 u0 H tm er T z)
theorem fdg_jdg (V : Nat → Int) (p : Nat) : ∀ k, fdg (fun e => V (p * 13 + e)) k = jdg V p k
  | 0 => rfl
  | k + 1 => by
    unfold fdg jdg
    rw [fdg_jdg V p k]
section RAK
variable {h : mj_H} {D : Nat} {S N B X V : Nat → Int} {tm er : Int} {T : Nat → Int} {N0 : Nat → Int} {u0 : Nat} {H : Nat → Nat → Int}
theorem ra_puts {r p : Nat} {c : Int} (hr : r ≤ 5) (hp : p ≤ 50) (hc : jr c) (K : jKx N0 u0 H tm er S N B T) (hs : rS S N B T X V h) (e3 : S 3 = 0) : mj_Ok (D + 5) 229 [.ref 0, .int (jn (r : Nat)), .int (jn (p : Nat)), .int (jn c)] h (rOc tm er T N0 u0 H r c (fun e => V (p * 13 + e))) := by
  have hd := jdg_le V p 13
  refine mj_Ok.of (M := mj_m229) rfl rfl rfl ?_
  iterate 2 refine mj_T.pl rfl rfl rfl rfl ?_
  refine mj_T.call (ins := .invokevirtual 195) rfl rfl (Nat.le_of_ble_eq_true rfl) (Nat.le_of_ble_eq_true rfl) (by simp [mj_recv, rS_f hs]) rfl (jp_isInBounds (D := D + 2) (rG S N B T X) (p := p) hp (fun e he => jS_700 hs (by omega)) hs) (fun v' h' hq' => ?_) (fun i h' hq' => by cases hq')
  cases hq'
  have hb := jib_le V p 13
  refine mj_T.if0 (a := ((jib V p 13 : Nat) : Int)) rfl ⟨by omega, by omega⟩ (fun hc1 => ?_) (fun hc1 => ?_)
  · simp only [jc, Bool.not_eq_true', decide_eq_false_iff_not] at hc1
    have h2 := jib_one (V := V) (p := p) 13 (by omega)
    have h3 : ∀ e, e < 13 → -999999999999999999 ≤ V (p * 13 + e) ∧ V (p * 13 + e) ≤ 999999999999999999 := fun e he => by
      have k1 := jnl_le_lt.mp (h2 e he)
      rw [show jB ^ 2 = 1000000000000000000 from rfl] at k1
      omega
    refine mj_T.pl rfl rfl rfl rfl ?_
    refine mj_T.call (ins := .invokevirtual 201) rfl rfl (Nat.le_of_ble_eq_true rfl) (Nat.le_of_ble_eq_true rfl) (by simp [mj_recv, rS_f hs]) rfl (rx_keeps (D := D + 3) K hs) (fun v' h1 hq' => ?_) (fun i h' hq' => by obtain ⟨_, _, _, _, _, _, h⟩ := hq'; cases h)
    obtain ⟨S', B', _, hs1, K1, k1, hq'⟩ := hq'
    cases hq'
    iterate 3 refine mj_T.pl rfl rfl rfl rfl ?_
    refine mj_T.call (ins := .invokevirtual 204) rfl rfl (Nat.le_of_ble_eq_true rfl) (Nat.le_of_ble_eq_true rfl) (by simp [mj_recv, rS_f hs1]) rfl (rp_stores (D := D) (p := p) (r := r) hp hr hs1) (fun v' h2 hq' => ?_) (fun i h' hq' => by obtain ⟨_, _, h⟩ := hq'; cases h)
    obtain ⟨_, hs2, hq'⟩ := hq'
    cases hq'
    iterate 2 refine mj_T.pl rfl rfl rfl rfl ?_
    refine mj_T.call (ins := .invokevirtual 114) rfl rfl (Nat.le_of_ble_eq_true rfl) (Nat.le_of_ble_eq_true rfl) (by simp [mj_recv, rS_f hs2]) rfl (jp_degreeOf (D := D + 2) (rG S' (jfl N r (fun e => V (p * 13 + e)) 13) B' T X) (p := p) hp hs2) (fun v' h' hq' => ?_) (fun i h' hq' => by cases hq')
    cases hq'
    exact mj_T.ret rfl rfl rfl (Or.inl ⟨fun e he => by have := h3 e he; show (V (p * 13 + e)).natAbs ≤ 999999999999999999; omega, _, h2, ⟨⟨by omega, by omega⟩, by rw [fdg_jdg]⟩, rfl, ⟨S', _, B', X, V, hs2, K1.row (gN_row K.1.1 hr h3) (jfl_cg K.2.1 r _), k1.trans e3⟩⟩)
  simp only [jc, Bool.not_eq_false', decide_eq_true_eq] at hc1
  have hno : ¬ sml (fun e => V (p * 13 + e)) := fun q => jib_no (V := V) (p := p) 13 (by omega) (fun e he => jnl_two.mpr (q e he))
  iterate 2 refine mj_T.pl rfl rfl rfl rfl ?_
  refine mj_T.call (ins := .invokevirtual 198) rfl rfl (Nat.le_of_ble_eq_true rfl) (Nat.le_of_ble_eq_true rfl) (by simp [mj_recv, rS_f hs]) rfl (rp_fails (D := D + 3) (c := c) hs) (fun v' h1 hq' => ?_) (fun i h' hq' => by obtain ⟨_, _, h⟩ := hq'; cases h)
  obtain ⟨_, hs1, hq'⟩ := hq'
  cases hq'
  exact mj_T.ret rfl rfl rfl (Or.inr ⟨hno, 0, h1, ⟨⟨by decide, by decide⟩, trivial⟩, rfl, ⟨_, N, B, X, V, hs1, K.put hc (by decide) (by decide) (by decide) (by decide) (by decide), jvu_at _ _ _⟩⟩)
end RAK
section RAS
variable {h : mj_H} {tm er : Int} {T : Nat → Int} {N0 : Nat → Int} {u0 : Nat} {H : Nat → Nat → Int}
theorem ra_sums {x y z : Int} (hx : jr x) (hy : jr y) (hz : jr z) {f : Int} (hf : f = 1 ∨ f = -1) (hI : jIx N0 u0 H tm er T h) : mj_Ok 40 232 [.ref 0, .int (jn x), .int (jn y), .int (jn z), .int (jn f)] h (RRc tm er T N0 u0 H ((0 ≤ x ∧ x ≤ 5) ∧ (0 ≤ y ∧ y ≤ 5) ∧ (0 ≤ z ∧ z ≤ 5)) (fun w => ∀ j, j < 13 → w j = sumN N0 f y z j) x) := by
  refine mj_Ok.of (M := mj_m232) rfl rfl rfl ?_
  obtain ⟨S, N, B, X, V, hs, K⟩ := hI
  iterate 2 refine mj_T.pl rfl rfl rfl rfl ?_
  refine rT_put (v := 0) hs rfl rfl (by decide) rfl (fun g1 hs1 => ?_)
  have K1 := K.put (k := 3) (v := 0) ⟨by decide, by decide⟩ (by decide) (by decide) (by decide) (by decide) (by decide)
  have e1 : jvu S 3 0 3 = 0 := jvu_at S 3 0
  generalize jvu S 3 0 = S1 at hs1 K1 e1
  iterate 3 refine mj_T.pl rfl rfl rfl rfl ?_
  refine mj_T.call (ins := .invokestatic 210) rfl rfl (Nat.le_of_ble_eq_true rfl) (Nat.le_of_ble_eq_true rfl) rfl rfl (mj_Ok.up (by decide) (rx_areRegisters (D := 0) hx hy hz)) (fun v' h' hq' => ?_) (fun i h' hq' => by rcases hq' with ⟨_, _, h⟩ | ⟨_, h⟩ <;> cases h)
  rcases hq' with ⟨⟨x1, x2⟩, ⟨y3, y4, z5, z6⟩, hq'⟩ | ⟨hno, hq'⟩
  case' inr =>
    cases hq'
    refine mj_T.if0 (a := 0) rfl ⟨by decide, by decide⟩ (fun hc => ?_) (fun hc => ?_)
    · simp [jc] at hc
    iterate 2 refine mj_T.pl rfl rfl rfl rfl ?_
    refine mj_T.call (ins := .invokevirtual 198) rfl rfl (Nat.le_of_ble_eq_true rfl) (Nat.le_of_ble_eq_true rfl) (by simp [mj_recv, rS_f hs1]) rfl (mj_Ok.up (by decide) (rp_fails (D := 0) (c := 1) hs1)) (fun v' g2 hq' => ?_) (fun i h' hq' => by obtain ⟨_, _, h⟩ := hq'; cases h)
    obtain ⟨_, hs2, hq'⟩ := hq'
    cases hq'
    exact mj_T.ret rfl rfl rfl (Or.inr ⟨hno, 0, g2, ⟨⟨by decide, by decide⟩, trivial⟩, rfl, ⟨_, N, B, X, V, hs2, K1.put ⟨by decide, by decide⟩ (by decide) (by decide) (by decide) (by decide) (by decide), jvu_at _ _ _⟩⟩)
  cases hq'
  refine mj_T.if0 (a := 1) rfl ⟨by decide, by decide⟩ (fun hc => ?_) (fun hc => ?_)
  rotate_left
  · simp [jc] at hc
  obtain ⟨x, rfl⟩ := Int.eq_ofNat_of_zero_le x1
  obtain ⟨y, rfl⟩ := Int.eq_ofNat_of_zero_le y3
  obtain ⟨z, rfl⟩ := Int.eq_ofNat_of_zero_le z5
  iterate 3 refine mj_T.pl rfl rfl rfl rfl ?_
  refine mj_T.call (ins := .invokevirtual 213) rfl rfl (Nat.le_of_ble_eq_true rfl) (Nat.le_of_ble_eq_true rfl) (by simp [mj_recv, rS_f hs1]) rfl (mj_Ok.up (by decide) (rp_loads (D := 0) (p := 0) (r := y) (by decide) (by omega) K1.nR hs1)) (fun v' g3 hq' => ?_) (fun i h' hq' => by obtain ⟨_, _, h⟩ := hq'; cases h)
  obtain ⟨_, hs3, hq'⟩ := hq'
  cases hq'
  have a3 : ∀ e, e < 13 → jfl V 0 (fun e => N (y * 13 + e)) 13 (0 * 13 + e) = N (y * 13 + e) := fun e he => jfl_at _ _ _ he
  have b3 : ∀ s, (s < 0 * 13 ∨ 0 * 13 + 13 ≤ s) → jfl V 0 (fun e => N (y * 13 + e)) 13 s = V s := fun s hc => jfl_off _ _ _ hc
  generalize jfl V 0 (fun e => N (y * 13 + e)) 13 = W3 at hs3 a3 b3
  iterate 3 refine mj_T.pl rfl rfl rfl rfl ?_
  refine mj_T.call (ins := .invokevirtual 213) rfl rfl (Nat.le_of_ble_eq_true rfl) (Nat.le_of_ble_eq_true rfl) (by simp [mj_recv, rS_f hs3]) rfl (mj_Ok.up (by decide) (rp_loads (D := 0) (p := 1) (r := z) (by decide) (by omega) K1.nR hs3)) (fun v' g4 hq' => ?_) (fun i h' hq' => by obtain ⟨_, _, h⟩ := hq'; cases h)
  obtain ⟨_, hs4, hq'⟩ := hq'
  cases hq'
  have a4 : ∀ e, e < 13 → jfl W3 1 (fun e => N (z * 13 + e)) 13 (1 * 13 + e) = N (z * 13 + e) := fun e he => jfl_at _ _ _ he
  have b4 : ∀ s, (s < 1 * 13 ∨ 1 * 13 + 13 ≤ s) → jfl W3 1 (fun e => N (z * 13 + e)) 13 s = W3 s := fun s hc => jfl_off _ _ _ hc
  generalize jfl W3 1 (fun e => N (z * 13 + e)) 13 = W4 at hs4 a4 b4
  have c0 : ∀ e, e < 13 → (W4 (0 * 13 + e) + f * W4 (1 * 13 + e)).natAbs ≤ 10 ^ 18 + 10 ^ 18 := fun e he => by
    rw [a4 e he, b4 _ (by omega), a3 e he]
    have h1 := K1.sh (r := y) (e := e) (by omega) he
    have h2 := K1.sh (r := z) (e := e) (by omega) he
    rcases hf with q | q <;> subst q <;> omega
  iterate 5 refine mj_T.pl rfl rfl rfl rfl ?_
  refine mj_T.call (ins := .invokevirtual 216) rfl rfl (Nat.le_of_ble_eq_true rfl) (Nat.le_of_ble_eq_true rfl) (by simp [mj_recv, rS_f hs4]) rfl (mj_Ok.up (by decide) (jp_addsPoly (D := 0) (rG S1 N B T X) (p := 0) (a := 0) (b := 1) (f := f) (by decide) (by decide) (by decide) hf (fun e he => jnl_of_lt (c0 e he) rp_small) hs4)) (fun v' g5 hq' => ?_) (fun i h' hq' => by obtain ⟨_, _, h⟩ := hq'; cases h)
  obtain ⟨_, hs5, hq'⟩ := hq'
  cases hq'
  iterate 4 refine mj_T.pl rfl rfl rfl rfl ?_
  refine mj_T.call (ins := .invokevirtual 219) rfl rfl (Nat.le_of_ble_eq_true rfl) (Nat.le_of_ble_eq_true rfl) (by simp [mj_recv, rS_f hs5]) rfl (mj_Ok.up (by decide) (ra_puts (D := 0) (r := x) (p := 0) (c := 2) (by omega) (by decide) ⟨by decide, by decide⟩ K1 hs5 e1)) (fun v' h' hq' => ?_) (fun i h' hq' => by rcases hq' with ⟨_, _, _, _, h, _⟩ | ⟨_, _, _, _, h, _⟩ <;> cases h)
  have hN : ∀ r e, r ≤ 5 → e < 13 → N (r * 13 + e) = rwN N0 (r : Int) e := fun r e hr he => by
    show _ = if e < 13 then N0 ((r : Int).toNat * 13 + e) else 0
    rw [if_pos he, Int.toNat_natCast]
    exact K1.2.1 _ (by omega)
  have hres : ∀ j, j < 13 → (fun e => (jfl W4 0 (fun e => W4 (0 * 13 + e) + f * W4 (1 * 13 + e)) 13) (0 * 13 + e)) j = sumN N0 f (y : Int) (z : Int) j := fun j hj => by
    show (jfl W4 0 (fun e => W4 (0 * 13 + e) + f * W4 (1 * 13 + e)) 13) (0 * 13 + j) = rwN N0 (y : Int) j + f * rwN N0 (z : Int) j
    rw [jfl_at _ _ _ hj, a4 j hj, b4 _ (by omega), a3 j hj, hN y j (by omega) hj, hN z j (by omega) hj]
  rcases hq' with ⟨hs9, z9, h9, hz9, e9, hI9⟩ | ⟨hs9, z9, h9, hz9, e9, hI9⟩
  · cases e9
    exact mj_T.ret rfl rfl rfl (Or.inl ⟨⟨⟨by omega, by omega⟩, ⟨by omega, by omega⟩, ⟨by omega, by omega⟩⟩, _, hres, Or.inl ⟨hs9, z9, _, hz9, rfl, hI9⟩⟩)
  · cases e9
    exact mj_T.ret rfl rfl rfl (Or.inl ⟨⟨⟨by omega, by omega⟩, ⟨by omega, by omega⟩, ⟨by omega, by omega⟩⟩, _, hres, Or.inr ⟨hs9, z9, _, hz9, rfl, hI9⟩⟩)
theorem ra_subtract {x y z : Int} (hx : jr x) (hy : jr y) (hz : jr z) (hI : jIx N0 u0 H tm er T h) : mj_Ok 41 231 [.ref 0, .int (jn x), .int (jn y), .int (jn z)] h (RRc tm er T N0 u0 H ((0 ≤ x ∧ x ≤ 5) ∧ (0 ≤ y ∧ y ≤ 5) ∧ (0 ≤ z ∧ z ≤ 5)) (fun w => ∀ j, j < 13 → w j = sumN N0 (-1) y z j) x) := by
  refine mj_Ok.of (M := mj_m231) rfl rfl rfl ?_
  have hI0 := hI
  obtain ⟨S, N, B, X, V, hs, K⟩ := hI0
  iterate 5 refine mj_T.pl rfl rfl rfl rfl ?_
  refine mj_T.call (ins := .invokevirtual 207) rfl rfl (Nat.le_of_ble_eq_true rfl) (Nat.le_of_ble_eq_true rfl) (by simp [mj_recv, rS_f hs]) rfl (ra_sums (f := -1) hx hy hz (Or.inr rfl) hI) (fun v' h9 hq' => ?_) (fun i h' hq' => by rcases hq' with ⟨_, _, _, ⟨_, _, _, _, h, _⟩ | ⟨_, _, _, _, h, _⟩⟩ | ⟨_, _, _, _, h, _⟩ <;> cases h)
  rcases hq' with ⟨hr, w, hw, ⟨hs9, z9, h9, hz9, e9, hI9⟩ | ⟨hs9, z9, h9, hz9, e9, hI9⟩⟩ | ⟨hr, z9, h9, hz9, e9, hI9⟩
  · cases e9
    exact mj_T.ret rfl rfl rfl (Or.inl ⟨hr, w, hw, Or.inl ⟨hs9, z9, _, hz9, rfl, hI9⟩⟩)
  · cases e9
    exact mj_T.ret rfl rfl rfl (Or.inl ⟨hr, w, hw, Or.inr ⟨hs9, z9, _, hz9, rfl, hI9⟩⟩)
  · cases e9
    exact mj_T.ret rfl rfl rfl (Or.inr ⟨hr, z9, _, hz9, rfl, hI9⟩)
end RAS

/-! Answers of the calls that change registers, in one form. -/
theorem itR.oneD {N : Nat → Int} (g : gN N) {w1 w2 : Nat → Int} {D1 D2 : Int} (a : itR N w1 D1) (b : itR N w2 D2) : D1 = D2 := by
  obtain ⟨M1, a0, a1, a2, a3, a4⟩ := a
  obtain ⟨M2, b0, b1, b2, b3, b4⟩ := b
  have hlin := itp_lin (Y := fun i => N (85 + i)) a1 b1 (wgt_N g) (N 78).toNat (Nat.le_refl _)
  have hx : ∀ j, j < 13 → D2 * w1 j = D1 * w2 j := fun j hj => by
    have e1 := a2 j hj
    have e2 := b2 j hj
    have e3 := hlin j
    generalize itp (fun i => N (79 + i)) (fun i => N (85 + i)) M1 (N 78).toNat (N 78).toNat j = I1 at e1 e3
    generalize itp (fun i => N (79 + i)) (fun i => N (85 + i)) M2 (N 78).toNat (N 78).toNat j = I2 at e2 e3
    have hne : M1 * M2 ≠ 0 := Int.mul_ne_zero (by omega) (by omega)
    refine Int.eq_of_mul_eq_mul_left hne ?_
    have l1 : M1 * M2 * (D2 * w1 j) = D1 * D2 * (M2 * I1) := by
      rw [show M1 * M2 * (D2 * w1 j) = M2 * D2 * (M1 * w1 j) by ac_rfl, e1]
      ac_rfl
    have l2 : M1 * M2 * (D1 * w2 j) = D1 * D2 * (M1 * I2) := by
      rw [show M1 * M2 * (D1 * w2 j) = M1 * D1 * (M2 * w2 j) by ac_rfl, e2]
      ac_rfl
    rw [l1, l2, e3]
  have n1 : D1 = ((D1.natAbs : Nat) : Int) := by omega
  have n2 : D2 = ((D2.natAbs : Nat) : Int) := by omega
  have d1 : D1.natAbs ∣ D2.natAbs := cp_dvd a4 (fun j hj => by rw [← n1, ← n2]; exact hx j hj)
  have d2 : D2.natAbs ∣ D1.natAbs := cp_dvd b4 (fun j hj => by rw [← n1, ← n2]; exact (hx j hj).symm)
  have de : D1.natAbs = D2.natAbs := Nat.dvd_antisymm d1 d2
  omega
theorem an.n {p : Prop} {k z : Int} {l : List (Prop × Int)} {F : Int → Prop} (h : ¬ p) : an ((p, k) :: l) F k z := Or.inl ⟨h, rfl⟩
theorem an.y {p : Prop} {k c z : Int} {l : List (Prop × Int)} {F : Int → Prop} (h : p) (q : an l F c z) : an ((p, k) :: l) F c z := Or.inr ⟨h, q⟩
theorem an.e {z : Int} {F : Int → Prop} (h : F z) : an [] F 0 z := ⟨rfl, h⟩
abbrev rg2 (a b : Int) : Prop := (0 ≤ a ∧ a ≤ 5) ∧ (0 ≤ b ∧ b ≤ 5)
abbrev rg3 (a b c : Int) : Prop := (0 ≤ a ∧ a ≤ 5) ∧ (0 ≤ b ∧ b ≤ 5) ∧ (0 ≤ c ∧ c ≤ 5)
/-- the degree of what is laid -/
def dgF (R : Nat → Int) (z : Int) : Prop := z = (fdg R 13 : Int) - 1
theorem dgF.of {R w : Nat → Int} (h : ∀ j, j < 13 → w j = R j) : dgF R ((fdg w 13 : Int) - 1) := by
  unfold dgF
  rw [fdg_congr 13 h]
theorem dgF.one {R : Nat → Int} (z1 z2 : Int) (a : dgF R z1) (b : dgF R z2) : z1 = z2 := a.trans b.symm
abbrev A_sum (N : Nat → Int) (f to a b : Int) : Int → Int → Prop := an [(rg3 to a b, 1), (sml (sumN N f a b), 2)] (dgF (sumN N f a b))
abbrev A_multiply (N : Nat → Int) (to a b : Int) : Int → Int → Prop := an [(rg3 to a b, 1), (fit13 (pz_mul (rwN N a) (rwN N b)), 2)] (dgF (pz_mul (rwN N a) (rwN N b)))
abbrev A_power (N : Nat → Int) (to a e : Int) : Int → Int → Prop := an [(rg2 to a, 1), (0 ≤ e ∧ e ≤ 12, 2), (fit13 (pw (rwN N a) e.toNat), 3)] (dgF (pw (rwN N a) e.toNat))
abbrev A_derive (N : Nat → Int) (to a : Int) : Int → Int → Prop := an [(rg2 to a, 1), (sml (drN N a), 2)] (dgF (drN N a))
abbrev A_substitute (N : Nat → Int) (to a b : Int) : Int → Int → Prop := an [(rg3 to a b, 1), (fit13 (hw (rwN N a) (rwN N b) 13), 2)] (dgF (hw (rwN N a) (rwN N b) 13))
abbrev A_divide (N : Nat → Int) (x y z u : Int) : Int → Int → Prop := an [((0 ≤ x ∧ x ≤ 5) ∧ (0 ≤ y ∧ y ≤ 5) ∧ (0 ≤ z ∧ z ≤ 5) ∧ (0 ≤ u ∧ u ≤ 5), 1), (x ≠ y, 2), (0 < fdg (rwN N u) 13, 3), (fit13 (dvQ (rwN N z) (rwN N u)) ∧ fit13 (dvT (rwN N z) (rwN N u)), 4)] (fun v => v = ((fdg (rwN N z) 13 - (fdg (rwN N u) 13 - 1) : Nat) : Int))
abbrev A_gcd (N : Nat → Int) (to a b : Int) : Int → Int → Prop := an [(rg3 to a b, 1), (∃ R, gcR (rwN N a) (rwN N b) R ∧ fit13 R, 2)] (fun v => ∃ R, gcR (rwN N a) (rwN N b) R ∧ dgF R v)
abbrev A_primitive (N : Nat → Int) (to a : Int) : Int → Int → Prop := an [(rg2 to a, 1), (fit13 (ppr (rwN N a)), 2)] (dgF (ppr (rwN N a)))
abbrev A_simple (N : Nat → Int) (to a : Int) : Int → Int → Prop := an [(rg2 to a, 1), (0 < fdg (rwN N a) 13, 2), (∃ S, smR (rwN N a) S ∧ fit13 S, 3)] (fun v => ∃ S, smR (rwN N a) S ∧ dgF S v)
abbrev A_residue (N : Nat → Int) (to a p : Int) : Int → Int → Prop := an [(rg2 to a, 1), (prm p, 2)] (dgF (fun j => rwN N a j % p))
abbrev A_setTerm (N : Nat → Int) (to e x : Int) : Int → Int → Prop := an [(0 ≤ to ∧ to ≤ 5, 1), (0 ≤ e ∧ e ≤ 12, 2), (-999999999999999999 ≤ x ∧ x ≤ 999999999999999999, 3)] (dgF (fun j => if j = e.toNat then x else rwN N to j))
abbrev A_addPoint (N : Nat → Int) (x y : Int) : Int → Int → Prop := an [((-9 ≤ x ∧ x ≤ 9) ∧ (-999 ≤ y ∧ y ≤ 999), 1), (N 78 ≠ 6 ∧ ∀ j : Nat, (j : Int) < N 78 → N (79 + j) ≠ x, 2)] (fun v => v = (((N 78).toNat + 1 : Nat) : Int))
abbrev A_read (T : Nat → Int) (tm : Nat) (to : Int) : Int → Int → Prop := an [(0 ≤ to ∧ to ≤ 5, 1), (rdErr T tm = -1, 2), (∃ P, rdV T tm = some P, 3)] (fun v => ∃ P, rdV T tm = some P ∧ dgF P v)
section AAG
variable {N : Nat → Int} {c1 z1 c2 z2 : Int}
theorem A_sum.ag {f to a b : Int} (p : A_sum N f to a b c1 z1) (q : A_sum N f to a b c2 z2) : c1 = c2 ∧ (c1 = 0 → z1 = z2) := an.ag dgF.one (by simp) p q
theorem A_multiply.ag {to a b : Int} (p : A_multiply N to a b c1 z1) (q : A_multiply N to a b c2 z2) : c1 = c2 ∧ (c1 = 0 → z1 = z2) := an.ag dgF.one (by simp) p q
theorem A_power.ag {to a b : Int} (p : A_power N to a b c1 z1) (q : A_power N to a b c2 z2) : c1 = c2 ∧ (c1 = 0 → z1 = z2) := an.ag dgF.one (by simp) p q
theorem A_derive.ag {to a : Int} (p : A_derive N to a c1 z1) (q : A_derive N to a c2 z2) : c1 = c2 ∧ (c1 = 0 → z1 = z2) := an.ag dgF.one (by simp) p q
theorem A_substitute.ag {to a b : Int} (p : A_substitute N to a b c1 z1) (q : A_substitute N to a b c2 z2) : c1 = c2 ∧ (c1 = 0 → z1 = z2) := an.ag dgF.one (by simp) p q
theorem A_divide.ag {x y z u : Int} (p : A_divide N x y z u c1 z1) (q : A_divide N x y z u c2 z2) : c1 = c2 ∧ (c1 = 0 → z1 = z2) := an.ag (fun _ _ a b => a.trans b.symm) (by simp) p q
theorem A_gcd.ag {to a b : Int} (p : A_gcd N to a b c1 z1) (q : A_gcd N to a b c2 z2) : c1 = c2 ∧ (c1 = 0 → z1 = z2) := an.ag (fun z1 z2 a b => by
  obtain ⟨R1, a1, a2⟩ := a
  obtain ⟨R2, b1, b2⟩ := b
  have e := gcR.one a1 b1
  subst e
  exact dgF.one _ _ a2 b2) (by simp) p q
theorem A_primitive.ag {to a : Int} (p : A_primitive N to a c1 z1) (q : A_primitive N to a c2 z2) : c1 = c2 ∧ (c1 = 0 → z1 = z2) := an.ag dgF.one (by simp) p q
theorem A_simple.ag {to a : Int} (p : A_simple N to a c1 z1) (q : A_simple N to a c2 z2) : c1 = c2 ∧ (c1 = 0 → z1 = z2) := an.ag (fun z1 z2 a b => by
  obtain ⟨R1, a1, a2⟩ := a
  obtain ⟨R2, b1, b2⟩ := b
  have e := smR.one a1 b1
  subst e
  exact dgF.one _ _ a2 b2) (by simp) p q
theorem A_residue.ag {to a b : Int} (p : A_residue N to a b c1 z1) (q : A_residue N to a b c2 z2) : c1 = c2 ∧ (c1 = 0 → z1 = z2) := an.ag dgF.one (by simp) p q
theorem A_setTerm.ag {to a b : Int} (p : A_setTerm N to a b c1 z1) (q : A_setTerm N to a b c2 z2) : c1 = c2 ∧ (c1 = 0 → z1 = z2) := an.ag dgF.one (by simp) p q
theorem A_addPoint.ag {a b : Int} (p : A_addPoint N a b c1 z1) (q : A_addPoint N a b c2 z2) : c1 = c2 ∧ (c1 = 0 → z1 = z2) := an.ag (fun _ _ a b => a.trans b.symm) (by simp) p q
theorem A_read.ag {T : Nat → Int} {tm : Nat} {to : Int} (p : A_read T tm to c1 z1) (q : A_read T tm to c2 z2) : c1 = c2 ∧ (c1 = 0 → z1 = z2) := an.ag (fun z1 z2 a b => by
  obtain ⟨R1, a1, a2⟩ := a
  obtain ⟨R2, b1, b2⟩ := b
  rw [a1] at b1
  cases b1
  exact dgF.one _ _ a2 b2) (by simp) p q
end AAG
section ACL
variable {g h : mj_H} {n u : Nat} {N : Nat → Int} {H : Nat → Nat → Int}
theorem RO.ca {reg : Prop} {fail : Nat → Prop} {res : (Nat → Int) → Prop} {to : Int} {z : mj_R} (cd : Nat → Int) {A : Int → Int → Prop} (r : RO g n N u H reg fail res to z) (h1 : ¬ reg → ∀ z, A (cd 0) z) (h2 : ∀ k, reg → fail k → ∀ z, A (cd k) z) (h3 : ∀ w, reg → res w → sml w → A 0 ((fdg w 13 : Int) - 1)) : cA cd A z := by
  rcases r with ⟨a, w, h9, s, b, _, rfl⟩ | ⟨k, h9, hk, _, rfl⟩
  · have := fdg_le w 13
    exact ⟨_, ⟨by omega, by omega⟩, rfl, h3 w a b s⟩
  · intro z
    rcases hk with ⟨a, rfl⟩ | ⟨a, b⟩
    · exact h1 a z
    · exact h2 k a b z
theorem ca_103 (B : AS N u H) (s : cC N u H h) {to : Int} (r0 : -2147483648 ≤ to ∧ to ≤ 2147483647) {a : Int} (r1 : -2147483648 ≤ a ∧ a ≤ 2147483647) {b : Int} (r2 : -2147483648 ≤ b ∧ b ≤ 2147483647) : mj_Ok 59 103 [.ref 1, .int (jn to), .int (jn a), .int (jn b)] h (fun r => yZ (Q_sum N u H (-1) to a b) r.2 ∧ cA (fun k => if k = 0 then 1 else 2) (A_sum N (-1) to a b) r) := ((cz_103 B s r0 r1 r2).and (mj_Ok.up (by decide) (pX_subtract (D := 0) (Nat.le_refl _) B s r0 r1 r2))).to (fun z hz => ⟨hz.1.yz, RO.ca _ hz.2 (fun q z => an.n q) (fun k q hk z => by
  obtain ⟨a, rfl⟩ := hk
  exact an.y q (an.n a)) (fun w q hw _ => an.y q (an.y hw.1 (an.e (dgF.of hw.2))))⟩)
end ACL
section ARF
variable {h : mj_H} {u : Nat} {N : Nat → Int} {H : Nat → Nat → Int} {tm er : Int} {T : Nat → Int}
theorem rIc.za {c : Int} {F : Int → Prop} {N' : Nat → Int} {u' : Nat} {H' : Nat → Nat → Int} {r : mj_R} {P : SP} {A : Int → Int → Prop} (k : rIc c F N' u' H' tm er T r) (p : P N' u' H') (hA : ∀ z, F z → A c z) : rZa P A tm er T r := by
  obtain ⟨z, h', ⟨jz, hz⟩, rfl, I⟩ := k
  exact ⟨c, z, _, _, _, hA z hz, jz, rfl, p, I⟩
theorem rZa.mono {P P' : SP} {A : Int → Int → Prop} {r : mj_R} (k : rZa P A tm er T r) (hp : ∀ N u H, P N u H → P' N u H) : rZa P' A tm er T r := by
  obtain ⟨c, z, N', u', H', a, b, d, e, f⟩ := k
  exact ⟨c, z, N', u', H', a, b, d, hp _ _ _ e, f⟩
theorem RRc.za {reg : Prop} {R : Nat → Int} {to : Int} {r : mj_R} (k : RRc tm er T N u H reg (fun w => ∀ j, j < 13 → w j = R j) to r) : rZa (clQ (reg ∧ sml R) R to.toNat N u H) (an [(reg, 1), (sml R, 2)] (dgF R)) tm er T r := by
  rcases k with ⟨a, w, hw, ⟨s, k⟩ | ⟨s, k⟩⟩ | ⟨a, k⟩
  · exact k.za (Or.inl ⟨⟨a, sml_cg hw s⟩, w, hw, rfl, rfl, rfl⟩) (fun z hz => an.y a (an.y (sml_cg hw s) (an.e (Eq.trans hz (dgF.of hw)))))
  · exact k.za (Or.inr ⟨fun q => s (sml_cg (fun j hj => (hw j hj).symm) q.2), rfl, rfl, rfl⟩) (fun z _ => an.y a (an.n (fun q => s (sml_cg (fun j hj => (hw j hj).symm) q))))
  · exact k.za (Or.inr ⟨fun q => a q.1, rfl, rfl, rfl⟩) (fun z _ => an.n a)
theorem RPc.za {kk : Int} {cf : Int → Prop} {reg : Prop} {R : Nat → Int} {to : Int} {r : mj_R} {A : Int → Int → Prop} (k : RPc kk cf tm er T N u H reg R to r) (h1 : ∀ c, ¬ reg → cf c → ∀ z, A c z) (h2 : reg → ¬ fit13 R → ∀ z, A kk z) (h3 : ∀ z, reg → fit13 R → dgF R z → A 0 z) : rZa (clQ (reg ∧ fit13 R) R to.toNat N u H) A tm er T r := by
  rcases k with ⟨a, ⟨s, w, hw, k⟩ | ⟨s, k⟩⟩ | ⟨a, c, hc, k⟩
  · exact k.za (Or.inl ⟨⟨a, s⟩, w, hw, rfl, rfl, rfl⟩) (fun z hz => h3 z a s (Eq.trans hz (dgF.of hw)))
  · exact k.za (Or.inr ⟨fun q => s q.2, rfl, rfl, rfl⟩) (fun z _ => h2 a s z)
  · exact k.za (Or.inr ⟨fun q => a q.1, rfl, rfl, rfl⟩) (fun z _ => h1 c a hc z)
theorem ga_subtract {x : Int} (jx : jr x) {y : Int} (jy : jr y) {z : Int} (jz : jr z) (I : jIx N u H tm er T h) : mj_Ok 60 231 [.ref 0, .int (jn x), .int (jn y), .int (jn z)] h (rZa (Q_sum N u H (-1) x y z) (A_sum N (-1) x y z) tm er T) := (mj_Ok.up (by decide) (ra_subtract jx jy jz I)).to (fun r k => RRc.za k)
end ARF
def rZal (P : SP) (A : Int → Int → Prop) (tm er : Int) (T : Nat → Int) (r : mj_R) : Prop := ∃ (c z : Int) (N' : Nat → Int) (u' : Nat) (H' : Nat → Nat → Int), A c z ∧ jR z ∧ r.1 = .inl (some (.long (jl z))) ∧ P N' u' H' ∧ jItx N' u' H' c tm er T r.2
def rJc (c : Int) (F : Int → Prop) (N0 : Nat → Int) (u : Nat) (H : Nat → Nat → Int) (tm er : Int) (T : Nat → Int) (r : mj_R) : Prop := ∃ (z : Int) (h' : mj_H), (jR z ∧ F z) ∧ r = (.inl (some (.long (jl z))), h') ∧ jItx N0 u H c tm er T h'
abbrev A_interpolate (N : Nat → Int) (to : Int) : Int → Int → Prop := an [(0 ≤ to ∧ to ≤ 5, 1), (∃ (w : Nat → Int) (D : Int), itR N w D ∧ sml w, 2)] (fun v => ∃ w : Nat → Int, itR N w v)
theorem A_interpolate.ag {N : Nat → Int} (g : gN N) {to c1 z1 c2 z2 : Int} (p : A_interpolate N to c1 z1) (q : A_interpolate N to c2 z2) : c1 = c2 ∧ (c1 = 0 → z1 = z2) := an.ag (fun z1 z2 a b => by
  obtain ⟨w1, a1⟩ := a
  obtain ⟨w2, b1⟩ := b
  exact itR.oneD g a1 b1) (by simp) p q
section ACI
variable {h : mj_H} {u : Nat} {N : Nat → Int} {H : Nat → Nat → Int} {tm er : Int} {T : Nat → Int}
theorem rJc.za {c : Int} {F : Int → Prop} {N' : Nat → Int} {u' : Nat} {H' : Nat → Nat → Int} {r : mj_R} {P : SP} {A : Int → Int → Prop} (k : rJc c F N' u' H' tm er T r) (p : P N' u' H') (hA : ∀ z, F z → A c z) : rZal P A tm er T r := by
  obtain ⟨z, h', ⟨jz, hz⟩, rfl, I⟩ := k
  exact ⟨c, z, _, _, _, hA z hz, jz, rfl, p, I⟩
end ACI
/-! Answers of the calls that only read: the class. -/
/-- how many of the first are not 0 -/
def tmc (f : Nat → Int) : Nat → Nat
  | 0 => 0
  | k + 1 => if f k = 0 then tmc f k else tmc f k + 1
theorem tmc_z {f : Nat → Int} {k : Nat} (h : f k = 0) : tmc f (k + 1) = tmc f k := if_pos h
theorem tmc_s {f : Nat → Int} {k : Nat} (h : f k ≠ 0) : tmc f (k + 1) = tmc f k + 1 := if_neg h
theorem tmc_mono {f : Nat → Int} {a : Nat} : ∀ b, a ≤ b → tmc f a ≤ tmc f b
  | 0, h => by rw [show a = 0 by omega]; exact Nat.le_refl _
  | b + 1, h => by
    by_cases q : a = b + 1
    · rw [q]
      exact Nat.le_refl _
    · have h1 := tmc_mono (f := f) (a := a) b (by omega)
      by_cases z : f b = 0
      · rw [tmc_z z]
        exact h1
      · rw [tmc_s z]
        omega
/-- the exponent of the t-th term from above -/
def exF (R : Nat → Int) (t z : Int) : Prop := ∃ e : Nat, z = (e : Int) ∧ e < 13 ∧ R e ≠ 0 ∧ (tmc R 13 : Int) - tmc R (e + 1) = t
theorem exF.one {R : Nat → Int} {t : Int} (z1 z2 : Int) (a : exF R t z1) (b : exF R t z2) : z1 = z2 := by
  obtain ⟨e1, a1, a2, a3, a4⟩ := a
  obtain ⟨e2, b1, b2, b3, b4⟩ := b
  rcases Nat.lt_trichotomy e1 e2 with c | c | c
  · have h1 := tmc_mono (f := R) (a := e1 + 1) e2 (by omega)
    have h2 := tmc_s b3
    omega
  · omega
  · have h1 := tmc_mono (f := R) (a := e2 + 1) e1 (by omega)
    have h2 := tmc_s a3
    omega
abbrev A_degree (N : Nat → Int) (a : Int) : Int → Int → Prop := an [(0 ≤ a ∧ a ≤ 5, 1)] (dgF (rwN N a))
abbrev A_terms (N : Nat → Int) (a : Int) : Int → Int → Prop := an [(0 ≤ a ∧ a ≤ 5, 1)] (fun z => z = ((tmc (rwN N a) 13 : Nat) : Int))
abbrev A_exponent (N : Nat → Int) (a t : Int) : Int → Int → Prop := an [((0 ≤ a ∧ a ≤ 5) ∧ 0 ≤ t ∧ t < (tmc (rwN N a) 13 : Int), 1)] (exF (rwN N a) t)
abbrev A_coefficient (N : Nat → Int) (a e : Int) : Int → Int → Prop := an [(0 ≤ a ∧ a ≤ 5, 1), (0 ≤ e ∧ e ≤ 12, 2)] (fun z => z = jsg (rwN N a e.toNat))
abbrev A_content (N : Nat → Int) (a : Int) : Int → Int → Prop := an [(0 ≤ a ∧ a ≤ 5, 1)] (fun z => z = jsg ((cgd (rwN N a) 13 : Nat) : Int))
def smF (f f' : Nat → Int) (z : Int) : Prop := (z = 1 ∧ ∀ j, j < 13 → f j = f' j) ∨ (z = 0 ∧ ¬ ∀ j, j < 13 → f j = f' j)
theorem smF.one {f f' : Nat → Int} (z1 z2 : Int) (a : smF f f' z1) (b : smF f f' z2) : z1 = z2 := by
  rcases a with ⟨a1, a2⟩ | ⟨a1, a2⟩
  · rcases b with ⟨b1, b2⟩ | ⟨b1, b2⟩
    · omega
    · exact absurd a2 b2
  · rcases b with ⟨b1, b2⟩ | ⟨b1, b2⟩
    · exact absurd b2 a2
    · omega
abbrev A_areSame (N : Nat → Int) (a b : Int) : Int → Int → Prop := an [(rg2 a b, 1)] (smF (rwN N a) (rwN N b))
section ARG
variable {N : Nat → Int} {c1 z1 c2 z2 : Int}
theorem A_degree.ag {a : Int} (p : A_degree N a c1 z1) (q : A_degree N a c2 z2) : c1 = c2 ∧ (c1 = 0 → z1 = z2) := an.ag dgF.one (by simp) p q
theorem A_terms.ag {a : Int} (p : A_terms N a c1 z1) (q : A_terms N a c2 z2) : c1 = c2 ∧ (c1 = 0 → z1 = z2) := an.ag (fun _ _ a b => a.trans b.symm) (by simp) p q
theorem A_exponent.ag {a t : Int} (p : A_exponent N a t c1 z1) (q : A_exponent N a t c2 z2) : c1 = c2 ∧ (c1 = 0 → z1 = z2) := an.ag exF.one (by simp) p q
theorem A_coefficient.ag {a e : Int} (p : A_coefficient N a e c1 z1) (q : A_coefficient N a e c2 z2) : c1 = c2 ∧ (c1 = 0 → z1 = z2) := an.ag (fun _ _ a b => a.trans b.symm) (by simp) p q
theorem A_content.ag {a : Int} (p : A_content N a c1 z1) (q : A_content N a c2 z2) : c1 = c2 ∧ (c1 = 0 → z1 = z2) := an.ag (fun _ _ a b => a.trans b.symm) (by simp) p q
theorem A_areSame.ag {a b : Int} (p : A_areSame N a b c1 z1) (q : A_areSame N a b c2 z2) : c1 = c2 ∧ (c1 = 0 → z1 = z2) := an.ag smF.one (by simp) p q
end ARG
/-! Answers of the calls that only read: the reference. -/
def rIa (A : Int → Int → Prop) (N0 : Nat → Int) (u : Nat) (H : Nat → Nat → Int) (tm er : Int) (T : Nat → Int) (r : mj_R) : Prop := ∃ (c z : Int) (h' : mj_H), A c z ∧ jr z ∧ r = (.inl (some (.int (jn z))), h') ∧ jItx N0 u H c tm er T h'
theorem rIa.za {A : Int → Int → Prop} {N : Nat → Int} {u : Nat} {H : Nat → Nat → Int} {tm er : Int} {T : Nat → Int} {r : mj_R} (k : rIa A N u H tm er T r) : rZa (sameQ N u H) A tm er T r := by
  obtain ⟨c, z, h', a, jz, rfl, I⟩ := k
  exact ⟨c, z, N, u, H, a, jz, rfl, ⟨rfl, rfl, rfl⟩, I⟩
/-! rootsBy, rootBy: answers on both sides. -/
theorem A_areSame.b {N : Nat → Int} {a b z : Int} (p : A_areSame N a b 0 z) : z = 0 ∨ z = 1 := by
  rcases p with ⟨_, e⟩ | ⟨_, _, ⟨e, _⟩ | ⟨e, _⟩⟩
  · exact absurd (show (0 : Int) = 1 from e) (by decide)
  · exact Or.inr e
  · exact Or.inl e
/-- Horner's rule by p, m coefficients to come -/
def hrv (f : Nat → Int) (x p : Int) : Nat → Int → Int
  | 0, v => v
  | m + 1, v => hrv f x p m ((v * x + f m % p) % p)
/-- how many of the first are roots by p -/
def rbc (f : Nat → Int) (p : Int) : Nat → Nat
  | 0 => 0
  | k + 1 => if hrv f (k : Int) p 13 0 = 0 then rbc f p k + 1 else rbc f p k
def rtF (f : Nat → Int) (p z : Int) : Prop := ∃ x : Nat, z = (x : Int) ∧ (x : Int) < p ∧ hrv f (x : Int) p 13 0 = 0 ∧ ∀ y : Nat, y < x → hrv f (y : Int) p 13 0 ≠ 0
theorem rtF.one {f : Nat → Int} {p : Int} (z1 z2 : Int) (a : rtF f p z1) (b : rtF f p z2) : z1 = z2 := by
  obtain ⟨x1, a1, a2, a3, a4⟩ := a
  obtain ⟨x2, b1, b2, b3, b4⟩ := b
  rcases Nat.lt_trichotomy x1 x2 with c | c | c
  · exact absurd a3 (b4 x1 c)
  · omega
  · exact absurd b3 (a4 x2 c)
abbrev A_rootsBy (N : Nat → Int) (a p : Int) : Int → Int → Prop := an [(0 ≤ a ∧ a ≤ 5, 1), (prm p, 2)] (fun z => z = ((rbc (rwN N a) p p.toNat : Nat) : Int))
abbrev A_rootBy (N : Nat → Int) (a p : Int) : Int → Int → Prop := an [(0 ≤ a ∧ a ≤ 5, 1), (prm p, 2), (∃ x : Nat, (x : Int) < p ∧ hrv (rwN N a) (x : Int) p 13 0 = 0, 3)] (rtF (rwN N a) p)
section ARB
variable {N : Nat → Int} {c1 z1 c2 z2 : Int}
theorem A_rootsBy.ag {a p : Int} (x : A_rootsBy N a p c1 z1) (y : A_rootsBy N a p c2 z2) : c1 = c2 ∧ (c1 = 0 → z1 = z2) := an.ag (fun _ _ a b => a.trans b.symm) (by simp) x y
theorem A_rootBy.ag {a p : Int} (x : A_rootBy N a p c1 z1) (y : A_rootBy N a p c2 z2) : c1 = c2 ∧ (c1 = 0 → z1 = z2) := an.ag rtF.one (by simp) x y
end ARB

/-! The value of a polynomial at a fraction, exactly. -/
def hpv (f : Nat → Int) (x : Int) : Nat → Int → Int
  | 0, v => v
  | m + 1, v => hpv f x m (v * x + f m)
/-- the value at x / y, times the bottom to the degree -/
def vlz (f : Nat → Int) (x y : Int) : Int := hpv (fun e => f e * y ^ ((fdg f 13 - 1) - e)) x (fdg f 13) 0
/-! The value at a fraction: answers on both sides. -/
abbrev okfr (x y : Int) : Prop := (-1000 ≤ x ∧ x ≤ 1000) ∧ (1 ≤ y ∧ y ≤ 1000)
abbrev A_value (N : Nat → Int) (a x y : Int) : Int → Int → Prop := an [(0 ≤ a ∧ a ≤ 5, 1), (okfr x y, 2)] (fun z => z = jsg (vlz (rwN N a) x y))
theorem A_value.ag {N : Nat → Int} {a x y c1 z1 c2 z2 : Int} (p : A_value N a x y c1 z1) (q : A_value N a x y c2 z2) : c1 = c2 ∧ (c1 = 0 → z1 = z2) := an.ag (fun _ _ a b => a.trans b.symm) (by simp) p q
def agc (f f' : Nat → Int) : Nat → Nat
  | 0 => 0
  | k + 1 => if hpv f (k : Int) 13 0 = hpv f' (k : Int) 13 0 then agc f f' k + 1 else agc f f' k
def agd (f f' : Nat → Int) : Nat := max 1 (max (fdg f 13) (fdg f' 13))
abbrev A_agreements (N : Nat → Int) (a b : Int) : Int → Int → Prop := an [(rg2 a b, 1)] (fun z => z = ((agc (rwN N a) (rwN N b) (agd (rwN N a) (rwN N b)) : Nat) : Int))
theorem A_agreements.ag {N : Nat → Int} {a b c1 z1 c2 z2 : Int} (p : A_agreements N a b c1 z1) (q : A_agreements N a b c2 z2) : c1 = c2 ∧ (c1 = 0 → z1 = z2) := an.ag (fun _ _ a b => a.trans b.symm) (by simp) p q
/-! divides: answers on both sides. -/
abbrev dvZ (f f' : Nat → Int) : Prop := ∃ (Q : pz_P) (d : Nat), pz_lt Q d ∧ rw13 f' = pz_mul Q (rw13 f)
abbrev dvF (f f' : Nat → Int) (z : Int) : Prop := (z = 1 ∧ dvZ f f') ∨ (z = 0 ∧ ¬ dvZ f f')
theorem dvF.one {f f' : Nat → Int} (z1 z2 : Int) (a : dvF f f' z1) (b : dvF f f' z2) : z1 = z2 := by
  rcases a with ⟨a1, a2⟩ | ⟨a1, a2⟩
  · rcases b with ⟨b1, b2⟩ | ⟨b1, b2⟩
    · omega
    · exact absurd a2 b2
  · rcases b with ⟨b1, b2⟩ | ⟨b1, b2⟩
    · exact absurd b2 a2
    · omega
theorem dvF.cg {f f' f1 f2 : Nat → Int} (h : ∀ j, j < 13 → f j = f1 j) (h2 : ∀ j, j < 13 → f' j = f2 j) {z : Int} (p : dvF f f' z) : dvF f1 f2 z := by
  have e1 := rw13_cg h
  have e2 := rw13_cg h2
  unfold dvF dvZ at p ⊢
  rw [← e1, ← e2]
  exact p
abbrev A_divides (N : Nat → Int) (a b : Int) : Int → Int → Prop := an [(rg2 a b, 1)] (dvF (rwN N a) (rwN N b))
theorem A_divides.ag {N : Nat → Int} {a b c1 z1 c2 z2 : Int} (p : A_divides N a b c1 z1) (q : A_divides N a b c2 z2) : c1 = c2 ∧ (c1 = 0 → z1 = z2) := an.ag dvF.one (by simp) p q
theorem A_divides.b {N : Nat → Int} {a b z : Int} (p : A_divides N a b 0 z) : z = 0 ∨ z = 1 := by
  rcases p with ⟨_, e⟩ | ⟨_, _, ⟨e, _⟩ | ⟨e, _⟩⟩
  · exact absurd (show (0 : Int) = 1 from e) (by decide)
  · exact Or.inr e
  · exact Or.inl e
/-! A polynomial as a text. -/
def kfd (v : Nat) : Nat → Nat → Nat
  | 0, k => k
  | d + 1, k => if v / 10 ^ k < 10 then k else kfd v d (k + 1)
def nmN (v : Nat) : Nat := kfd v 17 0 + 1
def tmN (c : Int) (e : Nat) : Nat := (if c.natAbs = 1 ∧ e ≠ 0 then 0 else nmN c.natAbs + (if 0 < e then 1 else 0)) + ((if 0 < e then 1 else 0) + (if 1 < e then nmN e + 1 else 0))
def sgN (c : Int) (w : Nat) : Nat := if w = 0 then (if c < 0 then 1 else 0) else 3
def rlN (f : Nat → Int) : Nat → Nat → Nat
  | 0, w => w
  | m + 1, w => rlN f m (if f m = 0 then w else w + (sgN (f m) w + tmN (f m) m))
def wrN (f : Nat → Int) : Nat := if rlN f 13 0 = 0 then 1 else rlN f 13 0
abbrev A_write (N : Nat → Int) (a : Int) : Int → Int → Prop := an [(0 ≤ a ∧ a ≤ 5, 1)] (fun z => z = ((wrN (rwN N a) : Nat) : Int))
theorem A_write.ag {N : Nat → Int} {a c1 z1 c2 z2 : Int} (p : A_write N a c1 z1) (q : A_write N a c2 z2) : c1 = c2 ∧ (c1 = 0 → z1 = z2) := an.ag (fun _ _ a b => a.trans b.symm) (by simp) p q
section MTY
variable {g h : mj_H} {n D t r : Nat} {V : Nat → Int} {X : Nat → Nat → Int} {N : Nat → Int} {H : Nat → Nat → Int} {u : Nat}
def fin (L : List Int) : List Int := if L = [] then [48] else L
end MTY
