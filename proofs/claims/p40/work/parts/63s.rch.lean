/-! The reference's changes of sign. -/
section JCH
variable {D : Nat} {hp h : mj_H} {q0 q1 q2 q3 : Nat} {fs : List Value} {V : Nat → Int} {k : Nat}
theorem jp_ch (G : jG hp q0 q1 q2 q3 fs) (h7 : fs[7]? = some (.int (jn ((k + 1 : Nat) : Int)))) (hk : k ≤ 12) {way : Int} (hw : -1 ≤ way ∧ way ≤ 1) {C x : Nat} (hrow : (∀ p, 9 ≤ p → p ≤ 9 + k → 1 ≤ jdg V p 13 ∧ ∀ e, e < 13 → (V (p * 13 + e)).natAbs ≤ C)) (hw0 : way = 0 → (V 656).natAbs ≤ x ∧ (V 657).natAbs ≤ x ∧ 1 ≤ x ∧ 13 * (C * x ^ 12) < jB ^ 698 ∧ x ^ 12 < jB ^ 698) {Q : mj_R → Prop}
    (hend : ∀ (W : Nat → Int) (h : mj_H) (z : Int), jS hp q1 q2 q3 W h → (∀ s, s ≠ 652 → s ≠ 659 → s ≠ 660 → W s = V s) → 0 ≤ z → z ≤ 13 → Q (.inl (some (.int (jn z))), h)) :
    ∀ (m j : Nat) (W : Nat → Int) (h : mj_H) (many ahead : Int) (e5 e6 : Option Value), j + m = k + 1 → jS hp q1 q2 q3 W h → (∀ s, s ≠ 652 → s ≠ 659 → s ≠ 660 → W s = V s) → 0 ≤ many → many ≤ j → -1 ≤ ahead → ahead ≤ 1 → mj_T (D + 5) mj_m217 8 [some (.ref q0), some (.int (jn way)), some (.int (jn many)), some (.int (jn ahead)), some (.int (jn ((9 + j : Nat) : Int))), e5, e6] [] h Q := by
  intro m
  induction m with
  | zero =>
    intro j W h many ahead e5 e6 hj hs hf m1 m2 n1 n2
    iterate 3 refine mj_T.pl rfl rfl rfl rfl ?_
    refine mj_T.gfl rfl (jS_a G hs) h7 ?_
    refine mj_T.iadd (a := 9) (b := ((k + 1 : Nat) : Int)) rfl ?_
    refine mj_T.icmp (a := ((9 + j : Nat) : Int)) (b := 9 + ((k + 1 : Nat) : Int)) rfl ⟨by omega, by omega⟩ ⟨by omega, by omega⟩ (fun hc => ?_) (fun hc => ?_)
    · refine mj_T.pl rfl rfl rfl rfl ?_
      exact mj_T.ret rfl rfl rfl (hend W h many hs hf m1 (by omega))
    · simp only [jc, decide_eq_false_iff_not] at hc
      omega
  | succ m ih =>
    intro j W h many ahead e5 e6 hj hs hf m1 m2 n1 n2
    iterate 3 refine mj_T.pl rfl rfl rfl rfl ?_
    refine mj_T.gfl rfl (jS_a G hs) h7 ?_
    refine mj_T.iadd (a := 9) (b := ((k + 1 : Nat) : Int)) rfl ?_
    refine mj_T.icmp (a := ((9 + j : Nat) : Int)) (b := 9 + ((k + 1 : Nat) : Int)) rfl ⟨by omega, by omega⟩ ⟨by omega, by omega⟩ (fun hc => ?_) (fun hc => ?_)
    · simp only [jc, decide_eq_true_eq] at hc
      omega
    obtain ⟨r1, r2⟩ := hrow (9 + j) (by omega) (by omega)
    have hdl := jdg_le W (9 + j) 13
    have hdeq : jdg W (9 + j) 13 = jdg V (9 + j) 13 := jdg_congr 13 fun e he => hf _ (by omega) (by omega) (by omega)
    have hWC : ∀ e, e < 13 → (W ((9 + j) * 13 + e)).natAbs ≤ C := fun e he => by
      rw [hf _ (by omega) (by omega) (by omega)]
      exact r2 e he
    obtain ⟨d, hd⟩ : ∃ d, jdg W (9 + j) 13 = d + 1 := ⟨jdg W (9 + j) 13 - 1, by omega⟩
    have t93 : ∀ (W1 : Nat → Int) (h1 : mj_H) (many ahead : Int) (e5 e6 : Option Value), jS hp q1 q2 q3 W1 h1 → (∀ s, s ≠ 652 → s ≠ 659 → s ≠ 660 → W1 s = V s) → 0 ≤ many → many ≤ j + 1 → -1 ≤ ahead → ahead ≤ 1 → mj_T (D + 5) mj_m217 93 [some (.ref q0), some (.int (jn way)), some (.int (jn many)), some (.int (jn ahead)), some (.int (jn ((9 + j : Nat) : Int))), e5, e6] [] h1 Q := by
      intro W1 h1 many ahead e5 e6 hs1 hf1 x1 x2 x3 x4
      refine mj_T.iinc (a := ((9 + j : Nat) : Int)) rfl rfl ?_
      refine mj_T.pl rfl rfl rfl rfl ?_
      rw [show ((9 + j : Nat) : Int) + 1 = ((9 + (j + 1) : Nat) : Int) by omega]
      exact ih (j + 1) W1 h1 many ahead e5 e6 (by omega) hs1 hf1 x1 (by omega) x3 x4
    have t70 : ∀ (W1 : Nat → Int) (h1 : mj_H) (z : Int), jS hp q1 q2 q3 W1 h1 → (∀ s, s ≠ 652 → s ≠ 659 → s ≠ 660 → W1 s = V s) → -1 ≤ z → z ≤ 1 → mj_T (D + 5) mj_m217 70 [some (.ref q0), some (.int (jn way)), some (.int (jn many)), some (.int (jn ahead)), some (.int (jn ((9 + j : Nat) : Int))), some (.int (jn (d : Int))), e6] [.int (jn z)] h1 Q := by
      intro W1 h1 z hs1 hf1 z1 z2
      iterate 2 refine mj_T.pl rfl rfl rfl rfl ?_
      refine mj_T.if0 (a := z) rfl ⟨by omega, by omega⟩ (fun hc1 => ?_) (fun hc1 => ?_)
      · iterate 2 refine mj_T.pl rfl rfl rfl rfl ?_
        refine mj_T.imul rfl ?_
        have hb : -1 ≤ ahead * z ∧ ahead * z ≤ 1 := by
          have c1 : z = -1 ∨ z = 0 ∨ z = 1 := by omega
          rcases c1 with c | c | c <;> subst c <;> omega
        refine mj_T.if0 (a := ahead * z) rfl ⟨by omega, by omega⟩ (fun hc2 => ?_) (fun hc2 => ?_)
        · iterate 2 refine mj_T.pl rfl rfl rfl rfl ?_
          exact t93 W1 h1 many z _ _ hs1 hf1 m1 (by omega) z1 z2
        · refine mj_T.iinc (a := many) rfl rfl ?_
          iterate 2 refine mj_T.pl rfl rfl rfl rfl ?_
          exact t93 W1 h1 (many + 1) z _ _ hs1 hf1 (by omega) (by omega) z1 z2
      · refine mj_T.pl rfl rfl rfl rfl ?_
        exact t93 W1 h1 many ahead _ _ hs1 hf1 m1 (by omega) n1 n2
    iterate 2 refine mj_T.pl rfl rfl rfl rfl ?_
    refine mj_T.call (ins := .invokevirtual 114) rfl rfl (Nat.le_of_ble_eq_true rfl) (Nat.le_of_ble_eq_true rfl) (by simp [mj_recv, jS_a G hs]) rfl (jp_degreeOf (D := D + 3) G (p := 9 + j) (by omega) hs) (fun v' h' hq' => ?_) (fun i h' hq' => by cases hq')
    cases hq'
    rw [hd, show ((d + 1 : Nat) : Int) - 1 = (d : Int) by omega]
    iterate 2 refine mj_T.pl rfl rfl rfl rfl ?_
    refine mj_T.if0 (a := way) rfl ⟨by omega, by omega⟩ (fun hc1 => ?_) (fun hc1 => ?_)
    · have t69 : ∀ (g : Int), (g = 1 ∨ g = -1) → mj_T (D + 5) mj_m217 69 [some (.ref q0), some (.int (jn way)), some (.int (jn many)), some (.int (jn ahead)), some (.int (jn ((9 + j : Nat) : Int))), some (.int (jn (d : Int))), e6] [.int (jn g), .int (jn (jsg (W ((9 + j) * 13 + d))))] h Q := by
        intro g hg
        refine mj_T.imul rfl ?_
        have hr := jsg_range (W ((9 + j) * 13 + d))
        exact t70 W h _ hs hf (by rcases hg with c | c <;> subst c <;> omega) (by rcases hg with c | c <;> subst c <;> omega)
      iterate 3 refine mj_T.pl rfl rfl rfl rfl ?_
      refine mj_T.call (ins := .invokestatic 104) rfl rfl (Nat.le_of_ble_eq_true rfl) (Nat.le_of_ble_eq_true rfl) rfl rfl (jq_slot (D := D + 4) (p := 9 + j) (i := d)) (fun v' h' hq' => ?_) (fun i h' hq' => by cases hq')
      cases hq'
      refine mj_T.call (ins := .invokevirtual 68) rfl rfl (Nat.le_of_ble_eq_true rfl) (Nat.le_of_ble_eq_true rfl) (by simp [mj_recv, jS_a G hs]) rfl (jS_sign (D := D + 4) G (s := (9 + j) * 13 + d) (by omega) hs) (fun v' h' hq' => ?_) (fun i h' hq' => by cases hq')
      cases hq'
      refine mj_T.pl rfl rfl rfl rfl ?_
      refine mj_T.if0 (a := way) rfl ⟨by omega, by omega⟩ (fun hc2 => ?_) (fun hc2 => ?_)
      · refine mj_T.pl rfl rfl rfl rfl ?_
        exact t69 1 (Or.inl rfl)
      · iterate 2 refine mj_T.pl rfl rfl rfl rfl ?_
        refine mj_T.irem (a := (d : Int)) (b := 2) rfl ⟨by omega, by omega⟩ ⟨by omega, by omega⟩ (by omega) ?_
        refine mj_T.pl rfl rfl rfl rfl ?_
        have ht : (d : Int).tmod 2 = ((d % 2 : Nat) : Int) := rfl
        refine mj_T.icmp (a := (d : Int).tmod 2) (b := 1) rfl ⟨by omega, by omega⟩ ⟨by omega, by omega⟩ (fun hc3 => ?_) (fun hc3 => ?_)
        · refine mj_T.pl rfl rfl rfl rfl ?_
          exact t69 1 (Or.inl rfl)
        · iterate 2 refine mj_T.pl rfl rfl rfl rfl ?_
          exact t69 (-1) (Or.inr rfl)
    · simp only [jc, Bool.not_eq_false', decide_eq_true_eq] at hc1
      obtain ⟨hK, hN, hx, hfit, hfit2⟩ := hw0 hc1
      iterate 2 refine mj_T.pl rfl rfl rfl rfl ?_
      refine mj_T.call (ins := .invokevirtual 162) rfl rfl (Nat.le_of_ble_eq_true rfl) (Nat.le_of_ble_eq_true rfl) (by simp [mj_recv, jS_a G hs]) rfl (jp_valueAt (D := D) (V := W) (p := 9 + j) G (by omega) (C := C) (x := x) hWC (by rw [hf _ (by decide) (by decide) (by decide)]; exact hK) (by rw [hf _ (by decide) (by decide) (by decide)]; exact hN) hx hfit hfit2 hs) (fun v' h1 hq' => ?_) (fun i h' hq' => by obtain ⟨_, _, _, _, _, _, _, h⟩ := hq'; cases h)
      obtain ⟨W1, _, hs1, k1, k2, k3, k4, hq'⟩ := hq'
      cases hq'
      refine mj_T.pl rfl rfl rfl rfl ?_
      have hr := jsg_range (W1 659)
      exact t70 W1 h1 _ hs1 (fun s x1 x2 x3 => by rw [k1 s x1 x2 x3, hf s x1 x2 x3]) hr.1 hr.2
theorem jp_changesAt (G : jG hp q0 q1 q2 q3 fs) (h7 : fs[7]? = some (.int (jn ((k + 1 : Nat) : Int)))) (hk : k ≤ 12) {way : Int} (hw : -1 ≤ way ∧ way ≤ 1) {C x : Nat} (hrow : (∀ p, 9 ≤ p → p ≤ 9 + k → 1 ≤ jdg V p 13 ∧ ∀ e, e < 13 → (V (p * 13 + e)).natAbs ≤ C)) (hw0 : way = 0 → (V 656).natAbs ≤ x ∧ (V 657).natAbs ≤ x ∧ 1 ≤ x ∧ 13 * (C * x ^ 12) < jB ^ 698 ∧ x ^ 12 < jB ^ 698) (hs : jS hp q1 q2 q3 V h) :
    mj_Ok (D + 6) 217 [.ref q0, .int (jn way)] h (fun r => ∃ (W : Nat → Int) (h' : mj_H) (z : Int), jS hp q1 q2 q3 W h' ∧ (∀ s, s ≠ 652 → s ≠ 659 → s ≠ 660 → W s = V s) ∧ 0 ≤ z ∧ z ≤ 13 ∧ r = (.inl (some (.int (jn z))), h')) := by
  refine mj_Ok.of (M := mj_m217) rfl rfl rfl ?_
  iterate 6 refine mj_T.pl rfl rfl rfl rfl ?_
  exact jp_ch (D := D) (V := V) G h7 hk hw hrow hw0 (fun W h z k1 k2 k3 k4 => ⟨W, h, z, k1, k2, k3, k4, rfl⟩) (k + 1) 0 V h 0 0 none none (by omega) hs (fun s _ _ _ => rfl) (by decide) (by decide) (by decide) (by decide)
theorem jp_rootsOf (G : jG hp q0 q1 q2 q3 fs) (h7 : fs[7]? = some (.int (jn ((k + 1 : Nat) : Int)))) (hk : k ≤ 12) {C : Nat} (hrow : (∀ p, 9 ≤ p → p ≤ 9 + k → 1 ≤ jdg V p 13 ∧ ∀ e, e < 13 → (V (p * 13 + e)).natAbs ≤ C)) (hs : jS hp q1 q2 q3 V h) :
    mj_Ok (D + 7) 218 [.ref q0] h (fun r => ∃ (W : Nat → Int) (h' : mj_H) (z : Int), jS hp q1 q2 q3 W h' ∧ (∀ s, s ≠ 652 → s ≠ 659 → s ≠ 660 → W s = V s) ∧ -13 ≤ z ∧ z ≤ 13 ∧ r = (.inl (some (.int (jn z))), h')) := by
  refine mj_Ok.of (M := mj_m218) rfl rfl rfl ?_
  iterate 2 refine mj_T.pl rfl rfl rfl rfl ?_
  refine mj_T.call (ins := .invokevirtual 165) rfl rfl (Nat.le_of_ble_eq_true rfl) (Nat.le_of_ble_eq_true rfl) (by simp [mj_recv, jS_a G hs]) rfl (jp_changesAt (D := D) (V := V) G h7 hk (way := -1) (x := 1) (by decide) hrow (fun e => absurd e (by decide)) hs) (fun v' h1 hq' => ?_) (fun i h' hq' => by obtain ⟨_, _, _, _, _, _, _, h⟩ := hq'; cases h)
  obtain ⟨W1, _, z1, hs1, k1, k2, k3, hq'⟩ := hq'
  cases hq'
  iterate 2 refine mj_T.pl rfl rfl rfl rfl ?_
  refine mj_T.call (ins := .invokevirtual 165) rfl rfl (Nat.le_of_ble_eq_true rfl) (Nat.le_of_ble_eq_true rfl) (by simp [mj_recv, jS_a G hs1]) rfl (jp_changesAt (D := D) (V := W1) G h7 hk (way := 1) (x := 1) (by decide) (fun p p1 p2 => by obtain ⟨r1, r2⟩ := hrow p p1 p2; exact ⟨by rw [jdg_congr 13 fun e he => k1 (p * 13 + e) (by omega) (by omega) (by omega)]; exact r1, fun e he => by rw [k1 _ (by omega) (by omega) (by omega)]; exact r2 e he⟩) (fun e => absurd e (by decide)) hs1) (fun v' h2 hq' => ?_) (fun i h' hq' => by obtain ⟨_, _, _, _, _, _, _, h⟩ := hq'; cases h)
  obtain ⟨W2, _, z2, hs2, k4, k5, k6, hq'⟩ := hq'
  cases hq'
  refine mj_T.isub rfl ?_
  exact mj_T.ret rfl rfl rfl ⟨W2, h2, z1 - z2, hs2, fun s x1 x2 x3 => by rw [k4 s x1 x2 x3, k1 s x1 x2 x3], by omega, by omega, rfl⟩
end JCH
