/-! Both sides between two calls hold the same. -/
def YX (tm er : Int) (T : Nat → Int) (h : mj_H) : Prop := ∃ (N : Nat → Int) (u : Nat) (H : Nat → Nat → Int) (hr : mj_H), cC N u H h ∧ jEm 563 hr h ∧ jIx N u H tm er T hr
theorem jIx.tI {N : Nat → Int} {u : Nat} {H : Nat → Nat → Int} {tm er : Int} {T : Nat → Int} {h : mj_H} (I : jIx N u H tm er T h) : jI tm er T h := by
  obtain ⟨S, N1, B, X, V, hs, K⟩ := I
  exact ⟨S, N1, B, X, V, hs, K.1⟩
theorem jT.asL {D pc : Nat} {M : mj_M} {loc : mj_L} {st : List Value} {h : mj_H} {Q : mj_R → Prop} {w : Int64} (k : mj_T D M pc loc (.long (jl w.toInt) :: st) h Q) : mj_T D M pc loc (.long w :: st) h Q := by rwa [jl_of] at k
section YXC
variable {N : Nat → Int} {u : Nat} {H : Nat → Nat → Int} {hr h : mj_H} {tm er : Int} {T : Nat → Int}
/-- a call of the reference in the law's heap, the class being behind the same call -/
theorem YX.call {D j : Nat} {as as2 : List Value} {tm' er' : Int} {T' : Nat → Int} {Φ Ψ : SP} (E : jEm 563 hr h) (y : yZ Φ h) (ag : AgP Φ Ψ) (c : mj_Ok D j as hr (rZ Ψ tm' er' T')) (has : ∀ N, as.map (mj_rn (jro 563 N)) = as2) : mj_Ok D j as2 h (fun r => YX tm' er' T' r.2) := by
  have hL := E.2.2.1
  have := E.run c (fun r q h3 => by
    obtain ⟨N', u', H', _, k⟩ := q
    exact jI_s8 k.tI h3)
  rw [has] at this
  refine this.to (fun r hq => ?_)
  obtain ⟨r0, hr', ⟨N2, u2, H2, p2, k⟩, _, d, _, f⟩ := hq
  obtain ⟨N1, u1, H1, p1, s1⟩ := y
  have s2 : cC N1 u1 H1 r.2 := s1.fr (fun a ha => by
    have l : a < 563 := by
      rcases Nat.lt_or_ge a 563 with c | c
      · exact c
      · exact absurd (cK_out c) ha
    exact f a (by omega) (Or.inl l))
  exact ⟨N2, u2, H2, hr', s2.cg (ag _ _ _ _ _ _ p1 p2), d, k⟩
/-- the same, and its answer -/
theorem YX.callv {D j : Nat} {as as2 : List Value} {tm' er' x : Int} {T' : Nat → Int} {Φ Ψ : SP} (E : jEm 563 hr h) (y : yZ Φ h) (ag : AgP Φ Ψ) (c : mj_Ok D j as hr (fun r => r.1 = .inl (some (.int (jn x))) ∧ rZ Ψ tm' er' T' r)) (has : ∀ N, as.map (mj_rn (jro 563 N)) = as2) : mj_Ok D j as2 h (fun r => r.1 = .inl (some (.int (jn x))) ∧ YX tm' er' T' r.2) := by
  have hL := E.2.2.1
  have := E.run c (fun r q h3 => by
    obtain ⟨_, N', u', H', _, k⟩ := q
    exact jI_s8 k.tI h3)
  rw [has] at this
  refine this.to (fun r hq => ?_)
  obtain ⟨r0, hr', ⟨v0, N2, u2, H2, p2, k⟩, v1, d, _, f⟩ := hq
  obtain ⟨N1, u1, H1, p1, s1⟩ := y
  have s2 : cC N1 u1 H1 r.2 := s1.fr (fun a ha => by
    have l : a < 563 := by
      rcases Nat.lt_or_ge a 563 with c | c
      · exact c
      · exact absurd (cK_out c) ha
    exact f a (by omega) (Or.inl l))
  have v0 : r0 = .inl (some (.int (jn x))) := v0
  refine ⟨?_, N2, u2, H2, hr', s2.cg (ag _ _ _ _ _ _ p1 p2), d, k⟩
  rw [v1, v0]
  first
  | rfl
  | done
theorem rx_pointCountX (hI : jIx N u H tm er T h) : mj_Ok 40 283 [.ref 0] h (fun r => r.1 = .inl (some (.int (jn (N 78)))) ∧ rZ (sameQ N u H) tm er T r) := by
  refine mj_Ok.of (M := mj_m283) rfl rfl rfl ?_
  obtain ⟨S, N1, B, X, V, hs, K⟩ := hI
  iterate 2 refine mj_T.pl rfl rfl rfl rfl ?_
  refine rT_put (v := 0) hs rfl rfl (by decide) rfl (fun g13 hs13 => ?_)
  have K13 := K.put (k := 3) (v := 0) ⟨by decide, by decide⟩ (by decide) (by decide) (by decide) (by decide) (by decide)
  generalize jvu S 3 0 = S13 at hs13 K13
  refine mj_T.pl rfl rfl rfl rfl ?_
  refine rT_get hs13 rfl rfl ?_
  refine mj_T.pl rfl rfl rfl rfl ?_
  refine rT_ldN (i := ((78 : Nat) : Int)) hs13 rfl ⟨by decide, by decide⟩ ?_
  rw [Int.toNat_natCast, K13.2.1 78 (by decide)]
  refine mj_T.l2i rfl ?_
  exact mj_T.ret rfl rfl rfl ⟨rfl, N, u, H, ⟨rfl, rfl, rfl⟩, ⟨S13, N1, B, X, V, hs13, K13⟩⟩
theorem cz_140 (s : cC N u H h) : mj_Ok 59 140 [.ref 1] h (fun r => r = (.inl (some (.int (jn (N 78)))), h)) := by
  obtain ⟨V, X, m, b0, d, c⟩ := s
  have hp : X 2 3 = N 78 := by
    obtain ⟨_, _, _, _, bb, _⟩ := c
    exact bb.2.1
  refine mj_Ok.of (M := mj_m140) rfl rfl rfl ?_
  refine mj_T.pl rfl rfl rfl rfl ?_
  refine mT_get m 19 cq_d1 (by decide) rfl rfl ?_
  refine mT_get (v := .int (jn (N 78))) m 10 cq_d2 (by decide) rfl (congrArg (fun z : Int => some (Value.int (jn z))) (hp)) ?_
  exact mj_T.ret rfl rfl rfl rfl
end YXC
section YZR
variable {N : Nat → Int} {u n : Nat} {H : Nat → Nat → Int} {h : mj_H} {tm : Int}
theorem yr_119 {a : Int} (A : AS N u H) (s : cC N u H h) (w : jLw cK cL cR 571 n tm h) (ra : -2147483648 ≤ a ∧ a ≤ 2147483647) : mj_Ok 59 119 [.ref 1, .int (jn a)] h (fun r => yZ (sameQ N u H) r.2) := (mj_Ok.up (by decide) (je_119 (D := 0) cTY (Nat.le_of_eq w.1.1) w.1 cK4.1 ra)).to (fun r q => (rdL.e (Nat.le_refl _) s r q).cz.yz)
theorem yr_120 {a : Int} (A : AS N u H) (s : cC N u H h) (w : jLw cK cL cR 571 n tm h) (ra : -2147483648 ≤ a ∧ a ≤ 2147483647) : mj_Ok 59 120 [.ref 1, .int (jn a)] h (fun r => yZ (sameQ N u H) r.2) := (mj_Ok.up (by decide) (je_120 (D := 0) cTY (Nat.le_of_eq w.1.1) w.1 cK4.1 ra)).to (fun r q => (rdL.e (Nat.le_refl _) s r q).cz.yz)
theorem yr_145 {a : Int} (A : AS N u H) (s : cC N u H h) (w : jLw cK cL cR 571 n tm h) (ra : -2147483648 ≤ a ∧ a ≤ 2147483647) : mj_Ok 59 145 [.ref 1, .int (jn a)] h (fun r => yZ (sameQ N u H) r.2) := (mj_Ok.up (by decide) (je_145 (D := 0) cTY (Nat.le_of_eq w.1.1) w.1 cK4.1 ra)).to (fun r q => (rdL.e (Nat.le_refl _) s r q).cz.yz)
theorem yr_121 {a b : Int} (A : AS N u H) (s : cC N u H h) (w : jLw cK cL cR 571 n tm h) (ra : -2147483648 ≤ a ∧ a ≤ 2147483647) (rb : -2147483648 ≤ b ∧ b ≤ 2147483647) : mj_Ok 59 121 [.ref 1, .int (jn a), .int (jn b)] h (fun r => yZ (sameQ N u H) r.2) := (mj_Ok.up (by decide) (je_121 (D := 0) cTY (Nat.le_of_eq w.1.1) w.1 cK4.1 ra rb)).to (fun r q => (rdL.e (Nat.le_refl _) s r q).cz.yz)
theorem yr_126 {a b : Int} (A : AS N u H) (s : cC N u H h) (w : jLw cK cL cR 571 n tm h) (ra : -2147483648 ≤ a ∧ a ≤ 2147483647) (rb : -2147483648 ≤ b ∧ b ≤ 2147483647) : mj_Ok 59 126 [.ref 1, .int (jn a), .int (jn b)] h (fun r => yZ (sameQ N u H) r.2) := (mj_Ok.up (by decide) (je_126 (D := 0) cTY (Nat.le_of_eq w.1.1) w.1 cK4.1 ra rb)).to (fun r q => (rdL.e (Nat.le_refl _) s r q).cz.yz)
theorem yr_138 {a b : Int} (A : AS N u H) (s : cC N u H h) (w : jLw cK cL cR 571 n tm h) (ra : -2147483648 ≤ a ∧ a ≤ 2147483647) (rb : -2147483648 ≤ b ∧ b ≤ 2147483647) : mj_Ok 59 138 [.ref 1, .int (jn a), .int (jn b)] h (fun r => yZ (sameQ N u H) r.2) := (mj_Ok.up (by decide) (je_138 (D := 0) cTY (Nat.le_of_eq w.1.1) w.1 cK4.1 ra rb)).to (fun r q => (rdL.e (Nat.le_refl _) s r q).cz.yz)
theorem yr_139 {a b : Int} (A : AS N u H) (s : cC N u H h) (w : jLw cK cL cR 571 n tm h) (ra : -2147483648 ≤ a ∧ a ≤ 2147483647) (rb : -2147483648 ≤ b ∧ b ≤ 2147483647) : mj_Ok 59 139 [.ref 1, .int (jn a), .int (jn b)] h (fun r => yZ (sameQ N u H) r.2) := (mj_Ok.up (by decide) (je_139 (D := 0) cTY (Nat.le_of_eq w.1.1) w.1 cK4.1 ra rb)).to (fun r q => (rdL.e (Nat.le_refl _) s r q).cz.yz)
theorem yr_129 {a b : Int} (A : AS N u H) (s : cC N u H h) (w : jLw cK cL cR 571 n tm h) (ra : 0 ≤ a ∧ a ≤ 1) (rb : -2147483648 ≤ b ∧ b ≤ 2147483647) : mj_Ok 59 129 [.ref 1, .int (jn a), .int (jn b)] h (fun r => yZ (sameQ N u H) r.2) := (mj_Ok.up (by decide) (je_129 (D := 0) cTY (Nat.le_of_eq w.1.1) w.1 cK4.1 ra rb)).to (fun r q => (rdL.e (Nat.le_refl _) s r q).cz.yz)
theorem yr_128 {a : Int} (A : AS N u H) (s : cC N u H h) (w : jLw cK cL cR 571 n tm h) (ra : 0 ≤ a ∧ a ≤ 1) : mj_Ok 59 128 [.ref 1, .int (jn a)] h (fun r => yZ (sameQ N u H) r.2) := (mj_Ok.up (by decide) (jc_128 (D := 0) cTY (Nat.le_of_eq w.1.1) w.1 cK4.1 ra)).to (fun r q => (rdL.p s r q).cz.yz)
theorem yr_130 {a : Int} (A : AS N u H) (s : cC N u H h) (w : jLw cK cL cR 571 n tm h) (ra : 0 ≤ a ∧ a ≤ 1) : mj_Ok 59 130 [.ref 1, .int (jn a)] h (fun r => yZ (sameQ N u H) r.2) := (mj_Ok.up (by decide) (jc_130 (D := 0) cTY (Nat.le_of_eq w.1.1) w.1 cK4.1 ra)).to (fun r q => (rdL.p s r q).cz.yz)
theorem yr_146 (A : AS N u H) (s : cC N u H h) (w : jLw cK cL cR 571 n tm h)  : mj_Ok 59 146 [.ref 1] h (fun r => yZ (sameQ N u H) r.2) := (mj_Ok.up (by decide) (jc_146 (D := 0) cTY (Nat.le_of_eq w.1.1) w.1 cK4.1)).to (fun r q => (rdL.p s r q).cz.yz)
theorem yr_147 (A : AS N u H) (s : cC N u H h) (w : jLw cK cL cR 571 n tm h)  : mj_Ok 59 147 [.ref 1] h (fun r => yZ (sameQ N u H) r.2) := (mj_Ok.up (by decide) (jc_147 (D := 0) cTY (Nat.le_of_eq w.1.1) w.1 cK4.1)).to (fun r q => (rdL.p s r q).cz.yz)
theorem yr_143 (A : AS N u H) (s : cC N u H h) (w : jLw cK cL cR 571 n tm h)  : mj_Ok 59 143 [.ref 1] h (fun r => yZ (sameQ N u H) r.2) := (mj_Ok.up (by decide) (jc_143 (D := 0) cTY (Nat.le_of_eq w.1.1) w.1 cK4.1)).to (fun r q => (rdL.p s r q).cz.yz)
theorem yr_122 {a b : Int} (A : AS N u H) (s : cC N u H h) (w : jLw cK cL cR 571 n tm h) (ra : -2147483648 ≤ a ∧ a ≤ 2147483647) (rb : -2147483648 ≤ b ∧ b ≤ 2147483647) : mj_Ok 59 122 [.ref 1, .int (jn a), .int (jn b)] h (fun r => yZ (sameQ N u H) r.2) := (mj_Ok.up (by decide) (pX_coefficient (D := 0) (Nat.le_refl _) A s ra rb)).to (fun _ q => q.cz.yz)
theorem yr_123 {a : Int} (A : AS N u H) (s : cC N u H h) (w : jLw cK cL cR 571 n tm h) (ra : -2147483648 ≤ a ∧ a ≤ 2147483647) : mj_Ok 59 123 [.ref 1, .int (jn a)] h (fun r => yZ (sameQ N u H) r.2) := (mj_Ok.up (by decide) (pX_content (D := 0) (Nat.le_refl _) A s ra)).to (fun _ q => q.cz.yz)
theorem yr_124 {a b c : Int} (A : AS N u H) (s : cC N u H h) (w : jLw cK cL cR 571 n tm h) (ra : -2147483648 ≤ a ∧ a ≤ 2147483647) (rb : -2147483648 ≤ b ∧ b ≤ 2147483647) (rc : -2147483648 ≤ c ∧ c ≤ 2147483647) : mj_Ok 59 124 [.ref 1, .int (jn a), .int (jn b), .int (jn c)] h (fun r => yZ (sameQ N u H) r.2) := (mj_Ok.up (by decide) (pX_value (D := 0) (Nat.le_refl _) A s ra rb rc)).to (fun _ q => q.cz.yz)
theorem yr_125 {a b : Int} (A : AS N u H) (s : cC N u H h) (w : jLw cK cL cR 571 n tm h) (ra : -2147483648 ≤ a ∧ a ≤ 2147483647) (rb : -2147483648 ≤ b ∧ b ≤ 2147483647) : mj_Ok 59 125 [.ref 1, .int (jn a), .int (jn b)] h (fun r => yZ (sameQ N u H) r.2) := (mj_Ok.up (by decide) (pX_divides (D := 0) (Nat.le_refl _) A s ra rb)).to (fun _ q => q.cz.yz)
theorem yr_127 {a b : Int} (A : AS N u H) (s : cC N u H h) (w : jLw cK cL cR 571 n tm h) (ra : -2147483648 ≤ a ∧ a ≤ 2147483647) (rb : -2147483648 ≤ b ∧ b ≤ 2147483647) : mj_Ok 59 127 [.ref 1, .int (jn a), .int (jn b)] h (fun r => yZ (sameQ N u H) r.2) := (mj_Ok.up (by decide) (pX_agreements (D := 0) (Nat.le_refl _) A s ra rb)).to (fun _ q => q.cz.yz)
theorem yr_131 {a : Int} (A : AS N u H) (s : cC N u H h) (w : jLw cK cL cR 571 n tm h) (ra : -2147483648 ≤ a ∧ a ≤ 2147483647) : mj_Ok 59 131 [.ref 1, .int (jn a)] h (fun r => yZ (sameQ N u H) r.2) := (mj_Ok.up (by decide) (pX_realRoots (D := 0) (Nat.le_refl _) A s ra)).to (fun _ q => q.cz.yz)
theorem yr_132 {a b c d e : Int} (A : AS N u H) (s : cC N u H h) (w : jLw cK cL cR 571 n tm h) (ra : -2147483648 ≤ a ∧ a ≤ 2147483647) (rb : -2147483648 ≤ b ∧ b ≤ 2147483647) (rc : -2147483648 ≤ c ∧ c ≤ 2147483647) (rd : -2147483648 ≤ d ∧ d ≤ 2147483647) (re : -2147483648 ≤ e ∧ e ≤ 2147483647) : mj_Ok 59 132 [.ref 1, .int (jn a), .int (jn b), .int (jn c), .int (jn d), .int (jn e)] h (fun r => yZ (sameQ N u H) r.2) := (mj_Ok.up (by decide) (pX_rootsBetween (D := 0) (Nat.le_refl _) A s ra rb rc rd re)).to (fun _ q => q.cz.yz)
theorem yr_133 {a : Int} (A : AS N u H) (s : cC N u H h) (w : jLw cK cL cR 571 n tm h) (ra : -2147483648 ≤ a ∧ a ≤ 2147483647) : mj_Ok 59 133 [.ref 1, .int (jn a)] h (fun r => yZ (sameQ N u H) r.2) := (mj_Ok.up (by decide) (pX_sturmLength (D := 0) (Nat.le_refl _) A s ra)).to (fun _ q => q.cz.yz)
theorem yr_134 {a b c : Int} (A : AS N u H) (s : cC N u H h) (w : jLw cK cL cR 571 n tm h) (ra : -2147483648 ≤ a ∧ a ≤ 2147483647) (rb : -2147483648 ≤ b ∧ b ≤ 2147483647) (rc : -2147483648 ≤ c ∧ c ≤ 2147483647) : mj_Ok 59 134 [.ref 1, .int (jn a), .int (jn b), .int (jn c)] h (fun r => yZ (sameQ N u H) r.2) := (mj_Ok.up (by decide) (pX_changes (D := 0) (Nat.le_refl _) A s ra rb rc)).to (fun _ q => q.cz.yz)
theorem yr_135 {a b c : Int} (A : AS N u H) (s : cC N u H h) (w : jLw cK cL cR 571 n tm h) (ra : -2147483648 ≤ a ∧ a ≤ 2147483647) (rb : -2147483648 ≤ b ∧ b ≤ 2147483647) (rc : -2147483648 ≤ c ∧ c ≤ 2147483647) : mj_Ok 59 135 [.ref 1, .int (jn a), .int (jn b), .int (jn c)] h (fun r => yZ (sameQ N u H) r.2) := (mj_Ok.up (by decide) (pX_closeIn (D := 0) (Nat.le_refl _) A s ra rb rc)).to (fun _ q => q.cz.yz)
theorem yr_136 {a : Int} (A : AS N u H) (s : cC N u H h) (w : jLw cK cL cR 571 n tm h) (ra : -2147483648 ≤ a ∧ a ≤ 2147483647) : mj_Ok 59 136 [.ref 1, .int (jn a)] h (fun r => yZ (sameQ N u H) r.2) := (mj_Ok.up (by decide) (pX_fractionRoots (D := 0) (Nat.le_refl _) A s ra)).to (fun _ q => q.cz.yz)
theorem yr_137 {a b : Int} (A : AS N u H) (s : cC N u H h) (w : jLw cK cL cR 571 n tm h) (ra : -2147483648 ≤ a ∧ a ≤ 2147483647) (rb : -2147483648 ≤ b ∧ b ≤ 2147483647) : mj_Ok 59 137 [.ref 1, .int (jn a), .int (jn b)] h (fun r => yZ (sameQ N u H) r.2) := (mj_Ok.up (by decide) (pX_fractionRoot (D := 0) (Nat.le_refl _) A s ra rb)).to (fun _ q => q.cz.yz)
theorem yr_144 {a : Int} (A : AS N u H) (s : cC N u H h) (w : jLw cK cL cR 571 n tm h) (ra : -2147483648 ≤ a ∧ a ≤ 2147483647) : mj_Ok 59 144 [.ref 1, .int (jn a)] h (fun r => yZ (sameQ N u H) r.2) := (mj_Ok.up (by decide) (pX_write (D := 0) (Nat.le_refl _) A s ra)).to (fun _ q => q.cz.yz)
theorem yr_148 (A : AS N u H) (s : cC N u H h) : mj_Ok 60 148 [.ref 1] h (fun r => yZ (sameQ N u H) r.2) := (pX_errors A s).to (fun r q => by
  obtain ⟨w, h2, s2, rfl⟩ := q
  exact ⟨N, u, H, ⟨rfl, rfl, rfl⟩, s2.cC⟩)
theorem yr_142 (s : cC N u H h) : mj_Ok 59 142 [.ref 1] h (fun r => yZ (sameQ N u H) r.2) := (mj_Ok.up (by decide) (pX_clearText s)).to (fun r q => by
  obtain ⟨w, h2, s2, rfl⟩ := q
  exact ⟨N, u, H, ⟨rfl, rfl, rfl⟩, s2.cC⟩)
end YZR
