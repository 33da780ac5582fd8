/-! interpolate's answer, a long; read's. -/
def cAl (cd : Nat → Int) (A : Int → Int → Prop) (r : mj_R) : Prop := match r.1 with
  | .inl v => ∃ z : Int, v = some (.long (jl z)) ∧ A 0 z
  | .inr k => ∀ z, A (cd k) z
def oAl (A : Int → Int → Prop) (Φ : SP) (r : mj_R) : Prop := ∃ c z : Int, A c z ∧ jr c ∧ r.1 = .inl (some (.int (jn c))) ∧ (c = 0 → ∃ f : Nat → Value, r.2[571]? = some (.inl (1, 1, f)) ∧ f 0 = .long (jl z)) ∧ yZ Φ r.2
def rZal (P : SP) (A : Int → Int → Prop) (tm er : Int) (T : Nat → Int) (r : mj_R) : Prop := ∃ (c z : Int) (N' : Nat → Int) (u' : Nat) (H' : Nat → Nat → Int), A c z ∧ jR z ∧ r.1 = .inl (some (.long (jl z))) ∧ P N' u' H' ∧ jItx N' u' H' c tm er T r.2
def rJc (c : Int) (F : Int → Prop) (N0 : Nat → Int) (u : Nat) (H : Nat → Nat → Int) (tm er : Int) (T : Nat → Int) (r : mj_R) : Prop := ∃ (z : Int) (h' : mj_H), (jR z ∧ F z) ∧ r = (.inl (some (.long (jl z))), h') ∧ jItx N0 u H c tm er T h'
def RItc (tm er : Int) (T : Nat → Int) (N0 : Nat → Int) (u0 : Nat) (H : Nat → Nat → Int) (x : Int) (r : mj_R) : Prop := ((0 ≤ x ∧ x ≤ 5) ∧ ∃ (w : Nat → Int) (D : Int), itR N0 w D ∧ ((sml w ∧ rJc 0 (fun v => v = D) (jfl N0 x.toNat w 13) (upu u0) (pushH N0 H) tm er T r) ∨ (¬ sml w ∧ rJc 2 (fun _ => True) N0 u0 H tm er T r))) ∨ (¬ (0 ≤ x ∧ x ≤ 5) ∧ rJc 1 (fun _ => True) N0 u0 H tm er T r)
abbrev A_interpolate (N : Nat → Int) (to : Int) : Int → Int → Prop := an [(0 ≤ to ∧ to ≤ 5, 1), (∃ (w : Nat → Int) (D : Int), itR N w D ∧ sml w, 2)] (fun v => ∃ w : Nat → Int, itR N w v)
theorem A_interpolate.ag {N : Nat → Int} (g : gN N) {to c1 z1 c2 z2 : Int} (p : A_interpolate N to c1 z1) (q : A_interpolate N to c2 z2) : c1 = c2 ∧ (c1 = 0 → z1 = z2) := an.ag (fun z1 z2 a b => by
  obtain ⟨w1, a1⟩ := a
  obtain ⟨w2, b1⟩ := b
  exact itR.oneD g a1 b1) (by simp) p q
section YXL
variable {hr h : mj_H} {tm er c : Int} {T : Nat → Int}
theorem YX.callal {D j : Nat} {as as2 : List Value} {tm' er' : Int} {T' : Nat → Int} {Φ Ψ : SP} {A : Int → Int → Prop} (E : jEm 563 hr h) (hl : 571 < h.length) (y : yZ Φ h) (ag : AgP Φ Ψ) (c : mj_Ok D j as hr (rZal Ψ A tm' er' T')) (has : ∀ N, as.map (mj_rn (jro 563 N)) = as2) : mj_Ok D j as2 h (fun r => ∃ c z : Int, A c z ∧ jR z ∧ r.1 = .inl (some (.long (jl z))) ∧ YXt c tm' er' T' r.2 ∧ r.2[571]? = h[571]?) := by
  have hL := E.2.2.1
  have := E.run c (fun r q h3 => by
    obtain ⟨_, _, N', u', H', _, _, _, _, k⟩ := q
    exact jI_s8 k.to.tI h3)
  rw [has] at this
  refine this.to (fun r hq => ?_)
  obtain ⟨r0, hr', ⟨c, z, N2, u2, H2, a, jz, v0, p2, k⟩, v1, d, _, f⟩ := hq
  obtain ⟨N1, u1, H1, p1, s1⟩ := y
  have s2 : cC N1 u1 H1 r.2 := s1.fr (fun a ha => by
    have l : a < 563 := by
      rcases Nat.lt_or_ge a 563 with c | c
      · exact c
      · exact absurd (cK_out c) ha
    exact f a (by omega) (Or.inl l))
  have v0 : r0 = .inl (some (.long (jl z))) := v0
  refine ⟨c, z, a, jz, ?_, ⟨N2, u2, H2, hr', s2.cg (ag _ _ _ _ _ _ p1 p2), d, k⟩, f 571 hl (Or.inr (by decide))⟩
  rw [v1, v0]
  first
  | rfl
  | done
end YXL
section JZQ
variable {n : Nat} {tm : Int} {h : mj_H} {Φ : SP} {A : Int → Int → Prop}
theorem jz_324 {p1 : Int} (w : jLw cK cL cR 571 n tm h) (rp1 : -2147483648 ≤ p1 ∧ p1 ≤ 2147483647) (c : mj_Ok 59 117 [.ref 1, .int (jn p1)] h (fun r => yZ Φ r.2 ∧ cAl (fun k => if k = 0 then 1 else 2) A r)) : mj_Ok 60 324 [.ref 1, .int (jn p1), .ref 571] h (oAl A Φ) := by
  have hg : h.length ≤ n := Nat.le_of_eq w.1.1
  refine mj_Ok.of (M := mj_m324) (loc := [some (.ref 1), some (.int (jn p1)), some (.ref 571), none]) rfl rfl rfl ?_
  iterate 4 refine mj_T.pl rfl rfl rfl rfl ?_
  refine mj_T.call rfl rfl (Nat.le_of_ble_eq_true rfl) (Nat.le_of_ble_eq_true rfl) (jrv_of w.1 cK4.1 (by decide) rfl (by decide) rfl _) rfl ((mj_Ok.up (by decide) (jc_117 (D := 0) cTY hg w.1 cK4.1 rp1)).and c) (fun v h1 hq => ?_) (fun i h1 hq => ?_)
  · obtain ⟨⟨_, o1⟩, y1, z, rfl, az⟩ := hq
    obtain ⟨_, _, f, hf⟩ := w.thr o1
    refine jcx.lastv hf rfl (fun e ce => ?_)
    iterate 2 refine mj_T.pl rfl rfl rfl rfl ?_
    exact mj_T.ret rfl rfl rfl ⟨0, z, az, ⟨by decide, by decide⟩, rfl, fun _ => ce, yZ.set y1⟩
  · obtain ⟨⟨hi, o1⟩, y1, y2⟩ := hq
    simp only [List.mem_cons, List.not_mem_nil, or_false] at hi
    rcases hi with hi | hi
    · subst hi
      refine Or.inr ⟨3, 12, rfl, (Nat.le_of_ble_eq_true rfl), ?_⟩
      refine mj_T.pl rfl rfl rfl rfl ?_
      exact mj_T.ret rfl rfl rfl ⟨1, 0, y2 0, ⟨by decide, by decide⟩, rfl, fun q => absurd q (by decide), y1⟩
    · subst hi
      refine Or.inr ⟨3, 15, rfl, (Nat.le_of_ble_eq_true rfl), ?_⟩
      refine mj_T.pl rfl rfl rfl rfl ?_
      exact mj_T.ret rfl rfl rfl ⟨2, 0, y2 0, ⟨by decide, by decide⟩, rfl, fun q => absurd q (by decide), y1⟩
theorem jz_322 {p1 : Int} (w : jLw cK cL cR 571 n tm h) (rp1 : -2147483648 ≤ p1 ∧ p1 ≤ 2147483647) (c : mj_Ok 60 114 [.ref 1, .int (jn p1)] h (fun r => yZ Φ r.2 ∧ cA (fun k => if k = 0 then 1 else if k = 2 then 2 else 3) A r)) : mj_Ok 61 322 [.ref 1, .int (jn p1), .ref 571] h (oA A Φ) := by
  have hg : h.length ≤ n := Nat.le_of_eq w.1.1
  refine mj_Ok.of (M := mj_m322) (loc := [some (.ref 1), some (.int (jn p1)), some (.ref 571), none]) rfl rfl rfl ?_
  iterate 4 refine mj_T.pl rfl rfl rfl rfl ?_
  refine mj_T.call rfl rfl (Nat.le_of_ble_eq_true rfl) (Nat.le_of_ble_eq_true rfl) (jrv_of w.1 cK4.1 (by decide) rfl (by decide) rfl _) rfl ((mj_Ok.up (by decide) (jc_114 (D := 0) cTY hg w.1 cK4.1 rp1)).and c) (fun v h1 hq => ?_) (fun i h1 hq => ?_)
  · obtain ⟨hq, x1, zv, jzv, rfl, az⟩ := hq
    rcases hq with ⟨_, hv, _⟩ | ⟨hp, ⟨z, hv, o1⟩ | ⟨_, _, hv, _⟩⟩
    · cases hv
    · obtain ⟨_, _, f, hf⟩ := w.thr o1
      refine mj_T.i2l rfl jzv ?_
      refine jcx.lastv hf rfl (fun e ce => ?_)
      iterate 2 refine mj_T.pl rfl rfl rfl rfl ?_
      exact mj_T.ret rfl rfl rfl ⟨0, zv, az, ⟨by decide, by decide⟩, rfl, fun _ => ⟨⟨by have := jzv.1; omega, by have := jzv.2; omega⟩, ce⟩, yZ.set x1⟩
    · cases hv
  · obtain ⟨hq, x1, y2⟩ := hq
    have hi : i ∈ [0, 2, 1] := by
      rcases hq with ⟨_, hv, _⟩ | ⟨_, ⟨_, hv, _⟩ | ⟨_, hi, hv, _⟩⟩
      · cases hv
        exact List.mem_cons_self
      · cases hv
      · cases hv
        exact hi
    simp only [List.mem_cons, List.not_mem_nil, or_false] at hi
    rcases hi with hi | hi | hi
    · subst hi
      refine Or.inr ⟨3, 13, rfl, (Nat.le_of_ble_eq_true rfl), ?_⟩
      refine mj_T.pl rfl rfl rfl rfl ?_
      exact mj_T.ret rfl rfl rfl ⟨1, 0, y2 0, ⟨by decide, by decide⟩, rfl, fun q => absurd q (by decide), x1⟩
    · subst hi
      refine Or.inr ⟨3, 16, rfl, (Nat.le_of_ble_eq_true rfl), ?_⟩
      refine mj_T.pl rfl rfl rfl rfl ?_
      exact mj_T.ret rfl rfl rfl ⟨2, 0, y2 0, ⟨by decide, by decide⟩, rfl, fun q => absurd q (by decide), x1⟩
    · subst hi
      refine Or.inr ⟨3, 19, rfl, (Nat.le_of_ble_eq_true rfl), ?_⟩
      refine mj_T.pl rfl rfl rfl rfl ?_
      exact mj_T.ret rfl rfl rfl ⟨3, 0, y2 0, ⟨by decide, by decide⟩, rfl, fun q => absurd q (by decide), x1⟩
end JZQ
section RXJ
variable {h : mj_H} {tm er : Int} {T : Nat → Int} {N0 : Nat → Int} {u0 : Nat} {H : Nat → Nat → Int}
theorem ra_i4_loop {S N B X : Nat → Int} {x A : Nat} {l5 : Option Value} {c : Int} {I : Nat → Int} (hc0 : c ≠ 0) {Q : mj_R → Prop} (hend : ∀ (V : Nat → Int) (h : mj_H), rS S N B T X V h → V 662 = c → V 661 = (A : Int) → (∀ e, e < 13 → V (0 * 13 + e) = (I e).tdiv c) → mj_T 39 mj_m251 274 [some (.ref 0), some (.int (jn (x : Int))), some (.long (jl (A : Int))), none, some (.int (jn (-1))), l5, none] [] h Q) :
    ∀ (m : Nat) (V : Nat → Int) (h : mj_H), m ≤ 13 → rS S N B T X V h → V 662 = c → V 661 = (A : Int) → (∀ e, e < m → V (0 * 13 + e) = I e) → (∀ e, m ≤ e → e < 13 → V (0 * 13 + e) = (I e).tdiv c) → mj_T 39 mj_m251 250 [some (.ref 0), some (.int (jn (x : Int))), some (.long (jl (A : Int))), none, some (.int (jn ((m : Int) - 1))), l5, none] [] h Q := by
  intro m
  induction m with
  | zero =>
    intro V h hm hs hc ha l1 l2
    refine mj_T.pl rfl rfl rfl rfl ?_
    refine mj_T.if0 (a := ((0 : Nat) : Int) - 1) rfl ⟨by decide, by decide⟩ (fun hc => ?_) (fun hc => ?_)
    · exact hend V h hs (by assumption) ha (fun e he => l2 e (Nat.zero_le _) he)
    · simp [jc] at hc
  | succ m ih =>
    intro V h hm hs hc ha l1 l2
    refine mj_T.pl rfl rfl rfl rfl ?_
    refine mj_T.if0 (a := ((m + 1 : Nat) : Int) - 1) rfl ⟨by omega, by omega⟩ (fun hc2 => ?_) (fun hc2 => ?_)
    · simp only [jc, decide_eq_true_eq] at hc2
      omega
    rw [show ((m + 1 : Nat) : Int) - 1 = (m : Int) by omega]
    iterate 3 refine mj_T.pl rfl rfl rfl rfl ?_
    refine mj_T.call (ins := .invokestatic 104) rfl rfl (Nat.le_of_ble_eq_true rfl) (Nat.le_of_ble_eq_true rfl) rfl rfl (mj_Ok.up (by decide) (jq_slot (D := 0) (p := 0) (i := m))) (fun v' h' hq' => ?_) (fun i h' hq' => by cases hq')
    cases hq'
    refine mj_T.pl rfl rfl rfl rfl ?_
    refine mj_T.call (ins := .invokevirtual 133) rfl rfl (Nat.le_of_ble_eq_true rfl) (Nat.le_of_ble_eq_true rfl) (by simp [mj_recv, rS_f hs]) rfl (mj_Ok.up (by decide) (jp_exact (D := 0) (V := V) (rG S N B T X) (i := 0 * 13 + m) (j := 662) (by omega) (by decide) (by omega) (by omega) (by omega) (by decide) (by rw [hc]; exact hc0) hs)) (fun v' g1 hq' => ?_) (fun i h' hq' => by obtain ⟨_, _, _, _, _, h⟩ := hq'; cases h)
    obtain ⟨W1, _, hs1, z1, z2, hq'⟩ := hq'
    cases hq'
    refine mj_T.iinc (a := (m : Int)) rfl rfl ?_
    refine mj_T.pl rfl rfl rfl rfl ?_
    exact ih W1 g1 (by omega) hs1 (by rw [z2 662 (by omega) (by decide) (by decide), hc]) (by rw [z2 661 (by omega) (by decide) (by decide), ha]) (fun e he => by
      rw [z2 _ (by omega) (by omega) (by omega)]
      exact l1 e (by omega)) (fun e e1 e2 => by
      by_cases q : e = m
      · subst q
        rw [z1, l1 e (by omega), hc]
      · rw [z2 _ (by omega) (by omega) (by omega)]
        exact l2 e (by omega) e2)
theorem ra_interpolate {x : Int} (hx : jr x) (hI : jIx N0 u0 H tm er T h) : mj_Ok 40 251 [.ref 0, .int (jn x)] h (RItc tm er T N0 u0 H x) := by
  refine mj_Ok.of (M := mj_m251) rfl rfl rfl ?_
  obtain ⟨S, N, B, X, V, hs, K⟩ := hI
  iterate 2 refine mj_T.pl rfl rfl rfl rfl ?_
  refine rT_put (v := 0) hs rfl rfl (by decide) rfl (fun g1 hs1 => ?_)
  have K1 := K.put (k := 3) (v := 0) ⟨by decide, by decide⟩ (by decide) (by decide) (by decide) (by decide) (by decide)
  have e1 : jvu S 3 0 3 = 0 := jvu_at S 3 0
  generalize jvu S 3 0 = S1 at hs1 K1 e1
  refine mj_T.pl rfl rfl rfl rfl ?_
  refine mj_T.call (ins := .invokestatic 181) rfl rfl (Nat.le_of_ble_eq_true rfl) (Nat.le_of_ble_eq_true rfl) rfl rfl (mj_Ok.up (by decide) (rp_isRegister (D := 0) hx)) (fun v' h' hq' => ?_) (fun i h' hq' => by rcases hq' with ⟨_, _, h⟩ | ⟨_, h⟩ <;> cases h)
  rcases hq' with ⟨x1, x2, hq'⟩ | ⟨hno, hq'⟩
  case' inr =>
    cases hq'
    refine mj_T.if0 (a := 0) rfl ⟨by decide, by decide⟩ (fun hc => ?_) (fun hc => ?_)
    · simp [jc] at hc
    iterate 2 refine mj_T.pl rfl rfl rfl rfl ?_
    refine mj_T.call (ins := .invokevirtual 198) rfl rfl (Nat.le_of_ble_eq_true rfl) (Nat.le_of_ble_eq_true rfl) (by simp [mj_recv, rS_f hs1]) rfl (mj_Ok.up (by decide) (rp_fails (D := 0) (c := 1) hs1)) (fun v' g2 hq' => ?_) (fun i h' hq' => by obtain ⟨_, _, h⟩ := hq'; cases h)
    obtain ⟨_, hs2, hq'⟩ := hq'
    cases hq'
    refine mj_T.i2l rfl ⟨by decide, by decide⟩ ?_
    exact mj_T.ret rfl rfl rfl (Or.inr ⟨by omega, 0, g2, ⟨⟨by decide, by decide⟩, trivial⟩, rfl, ⟨_, N, B, X, V, hs2, K1.put ⟨by decide, by decide⟩ (by decide) (by decide) (by decide) (by decide) (by decide), jvu_at _ _ _⟩⟩)
  cases hq'
  refine mj_T.if0 (a := 1) rfl ⟨by decide, by decide⟩ (fun hc => ?_) (fun hc => ?_)
  rotate_left
  · simp [jc] at hc
  obtain ⟨x, rfl⟩ := Int.eq_ofNat_of_zero_le x1
  obtain ⟨n, hn⟩ := Int.eq_ofNat_of_zero_le K1.1.1.2.1.1
  iterate 4 refine mj_T.pl rfl rfl rfl rfl ?_
  refine rx_i1_loop K1.1.1 hn hs1 (fun A l5 hA1 hA2 hA3 => ?_) n 0 1 none (by omega) ⟨_, (Nat.one_mul _).symm⟩ (Nat.le_refl _) (fun i hi => absurd hi (by omega))
  iterate 2 refine mj_T.pl rfl rfl rfl rfl ?_
  refine mj_T.call (ins := .invokevirtual 110) rfl rfl (Nat.le_of_ble_eq_true rfl) (Nat.le_of_ble_eq_true rfl) (by simp [mj_recv, rS_f hs1]) rfl (mj_Ok.up (by decide) (jp_empties (D := 0) (rG S1 N B T X) (p := 0) (by decide) hs1)) (fun v' g3 hq' => ?_) (fun i h' hq' => by obtain ⟨_, _, h⟩ := hq'; cases h)
  obtain ⟨_, hs3, hq'⟩ := hq'
  cases hq'
  have q1 : ∀ e, e < 13 → jfl V 0 (fun _ => 0) 13 (0 * 13 + e) = 0 := fun e he => jfl_at _ _ _ he
  generalize jfl V 0 (fun _ => 0) 13 = W3 at hs3 q1
  iterate 2 refine mj_T.pl rfl rfl rfl rfl ?_
  refine rx_i3_loop K1.1.1 hn (fun V2 h2 m5 hs2 hIt => ?_) hA2 hA1 n 0 _ _ _ (by omega) hs3 (fun e he => by rw [q1 e he]; exact Nat.zero_le _) (fun e he => q1 e he)
  iterate 3 refine mj_T.pl rfl rfl rfl rfl ?_
  refine mj_T.call (ins := .invokevirtual 130) rfl rfl (Nat.le_of_ble_eq_true rfl) (Nat.le_of_ble_eq_true rfl) (by simp [mj_recv, rS_f hs2]) rfl (mj_Ok.up (by decide) (jp_contents (D := 0) (rG S1 N B T X) (to := 656) (p := 0) (by decide) (by decide) (by decide) (by decide) (by decide) (by decide) (by decide) hs2)) (fun v' g4 hq' => ?_) (fun i h' hq' => by obtain ⟨_, _, _, _, _, h⟩ := hq'; cases h)
  obtain ⟨W4, _, hs4, p1, p2, hq'⟩ := hq'
  cases hq'
  iterate 3 refine mj_T.pl rfl rfl rfl rfl ?_
  refine mj_T.call (ins := .invokevirtual 45) rfl rfl (Nat.le_of_ble_eq_true rfl) (Nat.le_of_ble_eq_true rfl) (by simp [mj_recv, rS_f hs4]) rfl (mj_Ok.up (by decide) (jS_sets (D := 0) (rG S1 N B T X) (s := 661) (v := (A : Int)) (by decide) ⟨by omega, by omega⟩ hs4)) (fun v' g5 hq' => ?_) (fun i h' hq' => by obtain ⟨_, _, h⟩ := hq'; cases h)
  obtain ⟨_, hs5, hq'⟩ := hq'
  cases hq'
  have u1 : jvu W4 661 (A : Int) 661 = (A : Int) := jvu_at _ _ _
  have u2 : ∀ s, s ≠ 661 → jvu W4 661 (A : Int) s = W4 s := fun s hne => jvu_ne _ _ _ hne
  generalize jvu W4 661 (A : Int) = W5 at hs5 u1 u2
  iterate 4 refine mj_T.pl rfl rfl rfl rfl ?_
  refine mj_T.call (ins := .invokevirtual 127) rfl rfl (Nat.le_of_ble_eq_true rfl) (Nat.le_of_ble_eq_true rfl) (by simp [mj_recv, rS_f hs5]) rfl (mj_Ok.up (by decide) (jp_commons (D := 0) (V := W5) (rG S1 N B T X) (to := 662) (i := 661) (j := 656) (by decide) (by decide) (by decide) (by decide) (by decide) (by decide) (by decide) hs5)) (fun v' g6 hq' => ?_) (fun i h' hq' => by obtain ⟨_, _, _, _, _, h⟩ := hq'; cases h)
  obtain ⟨W6, _, hs6, y1, y2, hq'⟩ := hq'
  cases hq'
  have y0 : W6 662 ≠ 0 := by
    rw [y1, u1, Int.natAbs_natCast]
    have := Nat.gcd_pos_of_pos_left (m := A) (W5 656).natAbs (by omega)
    omega
  have hI6 : ∀ e, e < 13 → W6 (0 * 13 + e) = itp (fun j => N (79 + j)) (fun j => N (85 + j)) (A : Int) n n e := fun e he => by
    rw [y2 _ (by omega) (by omega) (by omega) (by omega), u2 _ (by omega), p2 _ (by omega) (by omega) (by omega) (by omega) (by omega)]
    exact hIt e he
  have hc6 : W6 662 = ((Nat.gcd A (cgd (itp (fun j => N (79 + j)) (fun j => N (85 + j)) (A : Int) n n) 13) : Nat) : Int) := by
    rw [y1, u1, u2 656 (by decide), p1, Int.natAbs_natCast, Int.natAbs_natCast, jgk_cgd hIt]
  have hdl := jdg_le W6 0 13
  iterate 2 refine mj_T.pl rfl rfl rfl rfl ?_
  refine mj_T.call (ins := .invokevirtual 114) rfl rfl (Nat.le_of_ble_eq_true rfl) (Nat.le_of_ble_eq_true rfl) (by simp [mj_recv, rS_f hs6]) rfl (mj_Ok.up (by decide) (jp_degreeOf (D := 0) (rG S1 N B T X) (p := 0) (by decide) hs6)) (fun v' h' hq' => ?_) (fun i h' hq' => by cases hq')
  cases hq'
  refine mj_T.pl rfl rfl rfl rfl ?_
  refine ra_i4_loop (c := W6 662) (I := itp (fun j => N (79 + j)) (fun j => N (85 + j)) (A : Int) n n) y0 (fun V3 h3 hs3 hc3 ha3 hI3 => ?_) (jdg W6 0 13) _ _ hdl hs6 rfl ((y2 661 (by decide) (by decide) (by decide) (by decide)).trans u1) (fun e he => hI6 e (by omega)) (fun e e1 e2 => by
    have z := jdg_zero W6 0 13 e e1 e2
    rw [z, ← hI6 e e2, z, Int.zero_tdiv])
  iterate 3 refine mj_T.pl rfl rfl rfl rfl ?_
  refine mj_T.call (ins := .invokevirtual 133) rfl rfl (Nat.le_of_ble_eq_true rfl) (Nat.le_of_ble_eq_true rfl) (by simp [mj_recv, rS_f hs3]) rfl (mj_Ok.up (by decide) (jp_exact (D := 0) (V := V3) (rG S1 N B T X) (i := 661) (j := 662) (by decide) (by decide) (by decide) (by decide) (by decide) (by decide) (by rw [hc3]; exact y0) hs3)) (fun v' g7 hq' => ?_) (fun i h' hq' => by obtain ⟨_, _, _, _, _, h⟩ := hq'; cases h)
  obtain ⟨W7, _, hs7, o1, o2, hq'⟩ := hq'
  cases hq'
  iterate 2 refine mj_T.pl rfl rfl rfl rfl ?_
  refine mj_T.call (ins := .invokevirtual 191) rfl rfl (Nat.le_of_ble_eq_true rfl) (Nat.le_of_ble_eq_true rfl) (by simp [mj_recv, rS_f hs7]) rfl (mj_Ok.up (by decide) (rp_asLong (D := 0) (s := 661) (by decide) hs7)) (fun v' h' hq' => ?_) (fun i h' hq' => by cases hq')
  cases hq'
  refine mj_T.pl rfl rfl rfl rfl ?_
  iterate 4 refine mj_T.pl rfl rfl rfl rfl ?_
  refine mj_T.call (ins := .invokevirtual 219) rfl rfl (Nat.le_of_ble_eq_true rfl) (Nat.le_of_ble_eq_true rfl) (by simp [mj_recv, rS_f hs7]) rfl (mj_Ok.up (by decide) (ra_puts (D := 0) (r := x) (p := 0) (c := 2) (by omega) (by decide) ⟨by decide, by decide⟩ K1 hs7 e1)) (fun v' h' hq' => ?_) (fun i h' hq' => by rcases hq' with ⟨_, _, _, _, h, _⟩ | ⟨_, _, _, _, h, _⟩ <;> cases h)
  have hw7 : ∀ e, e < 13 → (fun e => W7 (0 * 13 + e)) e = (itp (fun j => N (79 + j)) (fun j => N (85 + j)) (A : Int) n n e).tdiv (W6 662) := fun e he => by
    show W7 (0 * 13 + e) = _
    rw [o2 _ (by omega) (by omega) (by omega)]
    exact hI3 e he
  rw [hc6] at hw7
  obtain ⟨fi1, fi2, fi3⟩ := it_fin (show 0 < A by omega) rfl hw7
  have hN78 : N0 78 = (n : Int) := by
    rw [← K1.2.1 78 (by decide)]
    exact hn
  have hn6 : n ≤ 6 := by
    have := K1.1.1.2.1.2
    omega
  have eP : ∀ j, j < n → (fun i => N (79 + i)) j = (fun i => N0 (79 + i)) j := fun j hj => K1.2.1 (79 + j) (by omega)
  have eY : ∀ j, j < n → (fun i => N (85 + i)) j = (fun i => N0 (85 + i)) j := fun j hj => K1.2.1 (85 + j) (by omega)
  have hitR : itR N0 (fun e => W7 (0 * 13 + e)) ((A : Int).tdiv ((Nat.gcd A (cgd (itp (fun j => N (79 + j)) (fun j => N (85 + j)) (A : Int) n n) 13) : Nat) : Int)) := by
    refine ⟨(A : Int), by omega, ?_, ?_, fi2, fi3⟩
    · rw [hN78, Int.toNat_natCast]
      intro i hi
      rw [← wgt_cg eP hi]
      exact Int.natAbs_dvd_natAbs.mp (by rw [Int.natAbs_natCast]; exact hA3 i hi)
    · rw [hN78, Int.toNat_natCast, ← itp_cg eP eY n (Nat.le_refl n)]
      exact fi1
  have hD1 : W7 661 = (A : Int).tdiv ((Nat.gcd A (cgd (itp (fun j => N (79 + j)) (fun j => N (85 + j)) (A : Int) n n) 13) : Nat) : Int) := by rw [o1, ha3, hc3, hc6]
  have hD2 : jR (W7 661) := by
    rw [hD1, ← Int.ofNat_tdiv]
    have h9 := Nat.div_le_self A (Nat.gcd A (cgd (itp (fun j => N (79 + j)) (fun j => N (85 + j)) (A : Int) n n) 13))
    obtain ⟨q9, e9⟩ : ∃ q9 : Nat, A / Nat.gcd A (cgd (itp (fun j => N (79 + j)) (fun j => N (85 + j)) (A : Int) n n) 13) = q9 := ⟨_, rfl⟩
    rw [e9] at h9 ⊢
    exact ⟨by omega, by omega⟩
  have hX : (0 : Int) ≤ (x : Int) ∧ (x : Int) ≤ 5 := ⟨by omega, by omega⟩
  rcases hq' with ⟨hs9, z9, h9, hz9, e9, ⟨S9, N9, B9, X9, V9, r9, K9, c9⟩⟩ | ⟨hs9, z9, h9, hz9, e9, ⟨S9, N9, B9, X9, V9, r9, K9, c9⟩⟩
  · cases e9
    iterate 2 refine mj_T.pl rfl rfl rfl rfl ?_
    refine rT_get r9 rfl rfl ?_
    refine mj_T.if0 (a := S9 3) rfl (K9.1.2.2.2.2.2.2.1 3) (fun hc => ?_) (fun hc => ?_)
    · rw [c9] at hc
      simp [jc] at hc
    · iterate 2 refine mj_T.pl rfl rfl rfl rfl ?_
      exact mj_T.ret rfl rfl rfl (Or.inl ⟨hX, _, _, hitR, Or.inl ⟨hs9, _, _, ⟨hD2, hD1⟩, rfl, ⟨_, _, _, _, _, r9, K9, c9⟩⟩⟩)
  · cases e9
    iterate 2 refine mj_T.pl rfl rfl rfl rfl ?_
    refine rT_get r9 rfl rfl ?_
    refine mj_T.if0 (a := S9 3) rfl (K9.1.2.2.2.2.2.2.1 3) (fun hc => ?_) (fun hc => ?_)
    · refine mj_T.pl rfl rfl rfl rfl ?_
      exact mj_T.ret rfl rfl rfl (Or.inl ⟨hX, _, _, hitR, Or.inr ⟨hs9, 0, _, ⟨⟨by decide, by decide⟩, trivial⟩, rfl, ⟨_, _, _, _, _, r9, K9, c9⟩⟩⟩)
    · rw [c9] at hc
      simp [jc] at hc
end RXJ
section ACI
variable {h : mj_H} {u : Nat} {N : Nat → Int} {H : Nat → Nat → Int} {tm er : Int} {T : Nat → Int}
theorem ca_117 (B : AS N u H) (s : cC N u H h) {to : Int} (r0 : -2147483648 ≤ to ∧ to ≤ 2147483647) : mj_Ok 59 117 [.ref 1, .int (jn to)] h (fun r => yZ (Q_interpolate N u H to) r.2 ∧ cAl (fun k => if k = 0 then 1 else 2) (A_interpolate N to) r) := ((cz_117 B s r0).and (mj_Ok.up (by decide) (pX_interpolate (D := 0) (Nat.le_refl _) B s r0))).to (fun z hz => ⟨hz.1.yz, by
  obtain ⟨_, hz⟩ := hz
  rcases hz with ⟨a, w, D, h9, b, c, _, rfl⟩ | ⟨k, h9, hk, _, rfl⟩
  · exact ⟨D, rfl, an.y a (an.y ⟨w, D, b, c⟩ (an.e ⟨w, b⟩))⟩
  · intro z
    rcases hk with ⟨a, rfl⟩ | ⟨a, ⟨w, D, b, c⟩, rfl⟩
    · exact an.n a
    · refine an.y a (an.n (fun q => ?_))
      obtain ⟨w2, D2, q1, q2⟩ := q
      exact c (sml_cg (itR.one B.1 q1 b) q2)⟩)
theorem rJc.za {c : Int} {F : Int → Prop} {N' : Nat → Int} {u' : Nat} {H' : Nat → Nat → Int} {r : mj_R} {P : SP} {A : Int → Int → Prop} (k : rJc c F N' u' H' tm er T r) (p : P N' u' H') (hA : ∀ z, F z → A c z) : rZal P A tm er T r := by
  obtain ⟨z, h', ⟨jz, hz⟩, rfl, I⟩ := k
  exact ⟨c, z, _, _, _, hA z hz, jz, rfl, p, I⟩
theorem ga_interpolate (g : gN N) {x : Int} (jx : jr x) (I : jIx N u H tm er T h) : mj_Ok 60 251 [.ref 0, .int (jn x)] h (rZal (Q_interpolate N u H x) (A_interpolate N x) tm er T) := (mj_Ok.up (by decide) (ra_interpolate jx I)).to (fun r k => by
  rcases k with ⟨a, w, D, b, ⟨c, d⟩ | ⟨c, d⟩⟩ | ⟨a, d⟩
  · refine d.za ⟨w, fun _ => ⟨D, b⟩, Or.inl ⟨⟨a, c⟩, w, fun _ _ => rfl, rfl, rfl, rfl⟩⟩ (fun z hz => an.y a (an.y ⟨w, D, b, c⟩ (an.e ⟨w, ?_⟩)))
    have hz : z = D := hz
    rw [hz]
    exact b
  · refine d.za ⟨w, fun _ => ⟨D, b⟩, Or.inr ⟨fun q => c q.2, rfl, rfl, rfl⟩⟩ (fun z _ => an.y a (an.n (fun q => ?_)))
    obtain ⟨w2, D2, q1, q2⟩ := q
    exact c (sml_cg (itR.one g q1 b) q2)
  · exact d.za ⟨pz_0, fun q => absurd q a, Or.inr ⟨fun q => a q.1, rfl, rfl, rfl⟩⟩ (fun z _ => an.n a))
end ACI
