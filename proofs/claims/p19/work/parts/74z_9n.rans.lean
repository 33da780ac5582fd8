/-! The reference's calls that change registers: what is answered and thrown. -/
def rIc (c : Int) (F : Int → Prop) (N0 : Nat → Int) (u : Nat) (H : Nat → Nat → Int) (tm er : Int) (T : Nat → Int) (r : mj_R) : Prop := ∃ (z : Int) (h' : mj_H), (jr z ∧ F z) ∧ r = (.inl (some (.int (jn z))), h') ∧ jItx N0 u H c tm er T h'
def rOc (tm er : Int) (T : Nat → Int) (N0 : Nat → Int) (u0 : Nat) (H : Nat → Nat → Int) (r : Nat) (c : Int) (w : Nat → Int) (z : mj_R) : Prop := (sml w ∧ rIc 0 (fun v => v = (fdg w 13 : Int) - 1) (jfl N0 r w 13) (upu u0) (pushH N0 H) tm er T z) ∨ (¬ sml w ∧ rIc c (fun _ => True) N0 u0 H tm er T z)
def RRc (tm er : Int) (T : Nat → Int) (N0 : Nat → Int) (u0 : Nat) (H : Nat → Nat → Int) (reg : Prop) (res : (Nat → Int) → Prop) (to : Int) (z : mj_R) : Prop := (reg ∧ ∃ w, res w ∧ rOc tm er T N0 u0 H to.toNat 2 w z) ∨ (¬ reg ∧ rIc 1 (fun _ => True) N0 u0 H tm er T z)
def RPc (k : Int) (cf : Int → Prop) (tm er : Int) (T : Nat → Int) (N0 : Nat → Int) (u0 : Nat) (H : Nat → Nat → Int) (reg : Prop) (P : pz_P) (to : Int) (z : mj_R) : Prop := (reg ∧ ((fit13 P ∧ ∃ w : Nat → Int, (∀ j, j < 13 → w j = P j) ∧ rIc 0 (fun v => v = (fdg w 13 : Int) - 1) (jfl N0 to.toNat w 13) (upu u0) (pushH N0 H) tm er T z) ∨ (¬ fit13 P ∧ rIc k (fun _ => True) N0 u0 H tm er T z))) ∨ (¬ reg ∧ ∃ c, cf c ∧ rIc c (fun _ => True) N0 u0 H tm er T z)
theorem fdg_jdg (V : Nat → Int) (p : Nat) : ∀ k, fdg (fun e => V (p * 13 + e)) k = jdg V p k
  | 0 => rfl
  | k + 1 => by
    unfold fdg jdg
    rw [fdg_jdg V p k]
section RAK
variable {h : mj_H} {D : Nat} {S N B X V : Nat → Int} {tm er : Int} {T : Nat → Int} {N0 : Nat → Int} {u0 : Nat} {H : Nat → Nat → Int}
theorem ra_puts {r p : Nat} {c : Int} (hr : r ≤ 5) (hp : p ≤ 50) (hc : jr c) (K : jKx N0 u0 H tm er S N B T) (hs : rS S N B T X V h) (e3 : S 3 = 0) : mj_Ok (D + 5) 229 [.ref 0, .int (jn (r : Nat)), .int (jn (p : Nat)), .int (jn c)] h (rOc tm er T N0 u0 H r c (fun e => V (p * 13 + e))) := by
  have hd := jdg_le V p 13
  refine mj_Ok.of (M := mj_m229) rfl rfl rfl ?_
  iterate 2 refine mj_T.pl rfl rfl rfl rfl ?_
  refine mj_T.call (ins := .invokevirtual 195) rfl rfl (Nat.le_of_ble_eq_true rfl) (Nat.le_of_ble_eq_true rfl) (by simp [mj_recv, rS_f hs]) rfl (jp_isInBounds (D := D + 2) (rG S N B T X) (p := p) hp (fun e he => jS_700 hs (by omega)) hs) (fun v' h' hq' => ?_) (fun i h' hq' => by cases hq')
  cases hq'
  have hb := jib_le V p 13
  refine mj_T.if0 (a := ((jib V p 13 : Nat) : Int)) rfl ⟨by omega, by omega⟩ (fun hc1 => ?_) (fun hc1 => ?_)
  · simp only [jc, Bool.not_eq_true', decide_eq_false_iff_not] at hc1
    have h2 := jib_one (V := V) (p := p) 13 (by omega)
    have h3 : ∀ e, e < 13 → -999999999999999999 ≤ V (p * 13 + e) ∧ V (p * 13 + e) ≤ 999999999999999999 := fun e he => by
      have k1 := jnl_le_lt.mp (h2 e he)
      rw [show jB ^ 2 = 1000000000000000000 from rfl] at k1
      omega
    refine mj_T.pl rfl rfl rfl rfl ?_
    refine mj_T.call (ins := .invokevirtual 201) rfl rfl (Nat.le_of_ble_eq_true rfl) (Nat.le_of_ble_eq_true rfl) (by simp [mj_recv, rS_f hs]) rfl (rx_keeps (D := D + 3) K hs) (fun v' h1 hq' => ?_) (fun i h' hq' => by obtain ⟨_, _, _, _, _, _, h⟩ := hq'; cases h)
    obtain ⟨S', B', _, hs1, K1, k1, hq'⟩ := hq'
    cases hq'
    iterate 3 refine mj_T.pl rfl rfl rfl rfl ?_
    refine mj_T.call (ins := .invokevirtual 204) rfl rfl (Nat.le_of_ble_eq_true rfl) (Nat.le_of_ble_eq_true rfl) (by simp [mj_recv, rS_f hs1]) rfl (rp_stores (D := D) (p := p) (r := r) hp hr hs1) (fun v' h2 hq' => ?_) (fun i h' hq' => by obtain ⟨_, _, h⟩ := hq'; cases h)
    obtain ⟨_, hs2, hq'⟩ := hq'
    cases hq'
    iterate 2 refine mj_T.pl rfl rfl rfl rfl ?_
    refine mj_T.call (ins := .invokevirtual 114) rfl rfl (Nat.le_of_ble_eq_true rfl) (Nat.le_of_ble_eq_true rfl) (by simp [mj_recv, rS_f hs2]) rfl (jp_degreeOf (D := D + 2) (rG S' (jfl N r (fun e => V (p * 13 + e)) 13) B' T X) (p := p) hp hs2) (fun v' h' hq' => ?_) (fun i h' hq' => by cases hq')
    cases hq'
    exact mj_T.ret rfl rfl rfl (Or.inl ⟨fun e he => by have := h3 e he; show (V (p * 13 + e)).natAbs ≤ 999999999999999999; omega, _, h2, ⟨⟨by omega, by omega⟩, by rw [fdg_jdg]⟩, rfl, ⟨S', _, B', X, V, hs2, K1.row (gN_row K.1.1 hr h3) (jfl_cg K.2.1 r _), k1.trans e3⟩⟩)
  simp only [jc, Bool.not_eq_false', decide_eq_true_eq] at hc1
  have hno : ¬ sml (fun e => V (p * 13 + e)) := fun q => jib_no (V := V) (p := p) 13 (by omega) (fun e he => jnl_two.mpr (q e he))
  iterate 2 refine mj_T.pl rfl rfl rfl rfl ?_
  refine mj_T.call (ins := .invokevirtual 198) rfl rfl (Nat.le_of_ble_eq_true rfl) (Nat.le_of_ble_eq_true rfl) (by simp [mj_recv, rS_f hs]) rfl (rp_fails (D := D + 3) (c := c) hs) (fun v' h1 hq' => ?_) (fun i h' hq' => by obtain ⟨_, _, h⟩ := hq'; cases h)
  obtain ⟨_, hs1, hq'⟩ := hq'
  cases hq'
  exact mj_T.ret rfl rfl rfl (Or.inr ⟨hno, 0, h1, ⟨⟨by decide, by decide⟩, trivial⟩, rfl, ⟨_, N, B, X, V, hs1, K.put hc (by decide) (by decide) (by decide) (by decide) (by decide), jvu_at _ _ _⟩⟩)
end RAK
section RAS
variable {h : mj_H} {tm er : Int} {T : Nat → Int} {N0 : Nat → Int} {u0 : Nat} {H : Nat → Nat → Int}
theorem ra_sums {x y z : Int} (hx : jr x) (hy : jr y) (hz : jr z) {f : Int} (hf : f = 1 ∨ f = -1) (hI : jIx N0 u0 H tm er T h) : mj_Ok 40 232 [.ref 0, .int (jn x), .int (jn y), .int (jn z), .int (jn f)] h (RRc tm er T N0 u0 H ((0 ≤ x ∧ x ≤ 5) ∧ (0 ≤ y ∧ y ≤ 5) ∧ (0 ≤ z ∧ z ≤ 5)) (fun w => ∀ j, j < 13 → w j = sumN N0 f y z j) x) := by
  refine mj_Ok.of (M := mj_m232) rfl rfl rfl ?_
  obtain ⟨S, N, B, X, V, hs, K⟩ := hI
  iterate 2 refine mj_T.pl rfl rfl rfl rfl ?_
  refine rT_put (v := 0) hs rfl rfl (by decide) rfl (fun g1 hs1 => ?_)
  have K1 := K.put (k := 3) (v := 0) ⟨by decide, by decide⟩ (by decide) (by decide) (by decide) (by decide) (by decide)
  have e1 : jvu S 3 0 3 = 0 := jvu_at S 3 0
  generalize jvu S 3 0 = S1 at hs1 K1 e1
  iterate 3 refine mj_T.pl rfl rfl rfl rfl ?_
  refine mj_T.call (ins := .invokestatic 210) rfl rfl (Nat.le_of_ble_eq_true rfl) (Nat.le_of_ble_eq_true rfl) rfl rfl (mj_Ok.up (by decide) (rx_areRegisters (D := 0) hx hy hz)) (fun v' h' hq' => ?_) (fun i h' hq' => by rcases hq' with ⟨_, _, h⟩ | ⟨_, h⟩ <;> cases h)
  rcases hq' with ⟨⟨x1, x2⟩, ⟨y3, y4, z5, z6⟩, hq'⟩ | ⟨hno, hq'⟩
  case' inr =>
    cases hq'
    refine mj_T.if0 (a := 0) rfl ⟨by decide, by decide⟩ (fun hc => ?_) (fun hc => ?_)
    · simp [jc] at hc
    iterate 2 refine mj_T.pl rfl rfl rfl rfl ?_
    refine mj_T.call (ins := .invokevirtual 198) rfl rfl (Nat.le_of_ble_eq_true rfl) (Nat.le_of_ble_eq_true rfl) (by simp [mj_recv, rS_f hs1]) rfl (mj_Ok.up (by decide) (rp_fails (D := 0) (c := 1) hs1)) (fun v' g2 hq' => ?_) (fun i h' hq' => by obtain ⟨_, _, h⟩ := hq'; cases h)
    obtain ⟨_, hs2, hq'⟩ := hq'
    cases hq'
    exact mj_T.ret rfl rfl rfl (Or.inr ⟨hno, 0, g2, ⟨⟨by decide, by decide⟩, trivial⟩, rfl, ⟨_, N, B, X, V, hs2, K1.put ⟨by decide, by decide⟩ (by decide) (by decide) (by decide) (by decide) (by decide), jvu_at _ _ _⟩⟩)
  cases hq'
  refine mj_T.if0 (a := 1) rfl ⟨by decide, by decide⟩ (fun hc => ?_) (fun hc => ?_)
  rotate_left
  · simp [jc] at hc
  obtain ⟨x, rfl⟩ := Int.eq_ofNat_of_zero_le x1
  obtain ⟨y, rfl⟩ := Int.eq_ofNat_of_zero_le y3
  obtain ⟨z, rfl⟩ := Int.eq_ofNat_of_zero_le z5
  iterate 3 refine mj_T.pl rfl rfl rfl rfl ?_
  refine mj_T.call (ins := .invokevirtual 213) rfl rfl (Nat.le_of_ble_eq_true rfl) (Nat.le_of_ble_eq_true rfl) (by simp [mj_recv, rS_f hs1]) rfl (mj_Ok.up (by decide) (rp_loads (D := 0) (p := 0) (r := y) (by decide) (by omega) K1.nR hs1)) (fun v' g3 hq' => ?_) (fun i h' hq' => by obtain ⟨_, _, h⟩ := hq'; cases h)
  obtain ⟨_, hs3, hq'⟩ := hq'
  cases hq'
  have a3 : ∀ e, e < 13 → jfl V 0 (fun e => N (y * 13 + e)) 13 (0 * 13 + e) = N (y * 13 + e) := fun e he => jfl_at _ _ _ he
  have b3 : ∀ s, (s < 0 * 13 ∨ 0 * 13 + 13 ≤ s) → jfl V 0 (fun e => N (y * 13 + e)) 13 s = V s := fun s hc => jfl_off _ _ _ hc
  generalize jfl V 0 (fun e => N (y * 13 + e)) 13 = W3 at hs3 a3 b3
  iterate 3 refine mj_T.pl rfl rfl rfl rfl ?_
  refine mj_T.call (ins := .invokevirtual 213) rfl rfl (Nat.le_of_ble_eq_true rfl) (Nat.le_of_ble_eq_true rfl) (by simp [mj_recv, rS_f hs3]) rfl (mj_Ok.up (by decide) (rp_loads (D := 0) (p := 1) (r := z) (by decide) (by omega) K1.nR hs3)) (fun v' g4 hq' => ?_) (fun i h' hq' => by obtain ⟨_, _, h⟩ := hq'; cases h)
  obtain ⟨_, hs4, hq'⟩ := hq'
  cases hq'
  have a4 : ∀ e, e < 13 → jfl W3 1 (fun e => N (z * 13 + e)) 13 (1 * 13 + e) = N (z * 13 + e) := fun e he => jfl_at _ _ _ he
  have b4 : ∀ s, (s < 1 * 13 ∨ 1 * 13 + 13 ≤ s) → jfl W3 1 (fun e => N (z * 13 + e)) 13 s = W3 s := fun s hc => jfl_off _ _ _ hc
  generalize jfl W3 1 (fun e => N (z * 13 + e)) 13 = W4 at hs4 a4 b4
  have c0 : ∀ e, e < 13 → (W4 (0 * 13 + e) + f * W4 (1 * 13 + e)).natAbs ≤ 10 ^ 18 + 10 ^ 18 := fun e he => by
    rw [a4 e he, b4 _ (by omega), a3 e he]
    have h1 := K1.sh (r := y) (e := e) (by omega) he
    have h2 := K1.sh (r := z) (e := e) (by omega) he
    rcases hf with q | q <;> subst q <;> omega
  iterate 5 refine mj_T.pl rfl rfl rfl rfl ?_
  refine mj_T.call (ins := .invokevirtual 216) rfl rfl (Nat.le_of_ble_eq_true rfl) (Nat.le_of_ble_eq_true rfl) (by simp [mj_recv, rS_f hs4]) rfl (mj_Ok.up (by decide) (jp_addsPoly (D := 0) (rG S1 N B T X) (p := 0) (a := 0) (b := 1) (f := f) (by decide) (by decide) (by decide) hf (fun e he => jnl_of_lt (c0 e he) rp_small) hs4)) (fun v' g5 hq' => ?_) (fun i h' hq' => by obtain ⟨_, _, h⟩ := hq'; cases h)
  obtain ⟨_, hs5, hq'⟩ := hq'
  cases hq'
  iterate 4 refine mj_T.pl rfl rfl rfl rfl ?_
  refine mj_T.call (ins := .invokevirtual 219) rfl rfl (Nat.le_of_ble_eq_true rfl) (Nat.le_of_ble_eq_true rfl) (by simp [mj_recv, rS_f hs5]) rfl (mj_Ok.up (by decide) (ra_puts (D := 0) (r := x) (p := 0) (c := 2) (by omega) (by decide) ⟨by decide, by decide⟩ K1 hs5 e1)) (fun v' h' hq' => ?_) (fun i h' hq' => by rcases hq' with ⟨_, _, _, _, h, _⟩ | ⟨_, _, _, _, h, _⟩ <;> cases h)
  have hN : ∀ r e, r ≤ 5 → e < 13 → N (r * 13 + e) = rwN N0 (r : Int) e := fun r e hr he => by
    show _ = if e < 13 then N0 ((r : Int).toNat * 13 + e) else 0
    rw [if_pos he, Int.toNat_natCast]
    exact K1.2.1 _ (by omega)
  have hres : ∀ j, j < 13 → (fun e => (jfl W4 0 (fun e => W4 (0 * 13 + e) + f * W4 (1 * 13 + e)) 13) (0 * 13 + e)) j = sumN N0 f (y : Int) (z : Int) j := fun j hj => by
    show (jfl W4 0 (fun e => W4 (0 * 13 + e) + f * W4 (1 * 13 + e)) 13) (0 * 13 + j) = rwN N0 (y : Int) j + f * rwN N0 (z : Int) j
    rw [jfl_at _ _ _ hj, a4 j hj, b4 _ (by omega), a3 j hj, hN y j (by omega) hj, hN z j (by omega) hj]
  rcases hq' with ⟨hs9, z9, h9, hz9, e9, hI9⟩ | ⟨hs9, z9, h9, hz9, e9, hI9⟩
  · cases e9
    exact mj_T.ret rfl rfl rfl (Or.inl ⟨⟨⟨by omega, by omega⟩, ⟨by omega, by omega⟩, ⟨by omega, by omega⟩⟩, _, hres, Or.inl ⟨hs9, z9, _, hz9, rfl, hI9⟩⟩)
  · cases e9
    exact mj_T.ret rfl rfl rfl (Or.inl ⟨⟨⟨by omega, by omega⟩, ⟨by omega, by omega⟩, ⟨by omega, by omega⟩⟩, _, hres, Or.inr ⟨hs9, z9, _, hz9, rfl, hI9⟩⟩)
theorem ra_add {x y z : Int} (hx : jr x) (hy : jr y) (hz : jr z) (hI : jIx N0 u0 H tm er T h) : mj_Ok 41 230 [.ref 0, .int (jn x), .int (jn y), .int (jn z)] h (RRc tm er T N0 u0 H ((0 ≤ x ∧ x ≤ 5) ∧ (0 ≤ y ∧ y ≤ 5) ∧ (0 ≤ z ∧ z ≤ 5)) (fun w => ∀ j, j < 13 → w j = sumN N0 1 y z j) x) := by
  refine mj_Ok.of (M := mj_m230) rfl rfl rfl ?_
  have hI0 := hI
  obtain ⟨S, N, B, X, V, hs, K⟩ := hI0
  iterate 5 refine mj_T.pl rfl rfl rfl rfl ?_
  refine mj_T.call (ins := .invokevirtual 207) rfl rfl (Nat.le_of_ble_eq_true rfl) (Nat.le_of_ble_eq_true rfl) (by simp [mj_recv, rS_f hs]) rfl (ra_sums (f := 1) hx hy hz (Or.inl rfl) hI) (fun v' h9 hq' => ?_) (fun i h' hq' => by rcases hq' with ⟨_, _, _, ⟨_, _, _, _, h, _⟩ | ⟨_, _, _, _, h, _⟩⟩ | ⟨_, _, _, _, h, _⟩ <;> cases h)
  rcases hq' with ⟨hr, w, hw, ⟨hs9, z9, h9, hz9, e9, hI9⟩ | ⟨hs9, z9, h9, hz9, e9, hI9⟩⟩ | ⟨hr, z9, h9, hz9, e9, hI9⟩
  · cases e9
    exact mj_T.ret rfl rfl rfl (Or.inl ⟨hr, w, hw, Or.inl ⟨hs9, z9, _, hz9, rfl, hI9⟩⟩)
  · cases e9
    exact mj_T.ret rfl rfl rfl (Or.inl ⟨hr, w, hw, Or.inr ⟨hs9, z9, _, hz9, rfl, hI9⟩⟩)
  · cases e9
    exact mj_T.ret rfl rfl rfl (Or.inr ⟨hr, z9, _, hz9, rfl, hI9⟩)
theorem ra_subtract {x y z : Int} (hx : jr x) (hy : jr y) (hz : jr z) (hI : jIx N0 u0 H tm er T h) : mj_Ok 41 231 [.ref 0, .int (jn x), .int (jn y), .int (jn z)] h (RRc tm er T N0 u0 H ((0 ≤ x ∧ x ≤ 5) ∧ (0 ≤ y ∧ y ≤ 5) ∧ (0 ≤ z ∧ z ≤ 5)) (fun w => ∀ j, j < 13 → w j = sumN N0 (-1) y z j) x) := by
  refine mj_Ok.of (M := mj_m231) rfl rfl rfl ?_
  have hI0 := hI
  obtain ⟨S, N, B, X, V, hs, K⟩ := hI0
  iterate 5 refine mj_T.pl rfl rfl rfl rfl ?_
  refine mj_T.call (ins := .invokevirtual 207) rfl rfl (Nat.le_of_ble_eq_true rfl) (Nat.le_of_ble_eq_true rfl) (by simp [mj_recv, rS_f hs]) rfl (ra_sums (f := -1) hx hy hz (Or.inr rfl) hI) (fun v' h9 hq' => ?_) (fun i h' hq' => by rcases hq' with ⟨_, _, _, ⟨_, _, _, _, h, _⟩ | ⟨_, _, _, _, h, _⟩⟩ | ⟨_, _, _, _, h, _⟩ <;> cases h)
  rcases hq' with ⟨hr, w, hw, ⟨hs9, z9, h9, hz9, e9, hI9⟩ | ⟨hs9, z9, h9, hz9, e9, hI9⟩⟩ | ⟨hr, z9, h9, hz9, e9, hI9⟩
  · cases e9
    exact mj_T.ret rfl rfl rfl (Or.inl ⟨hr, w, hw, Or.inl ⟨hs9, z9, _, hz9, rfl, hI9⟩⟩)
  · cases e9
    exact mj_T.ret rfl rfl rfl (Or.inl ⟨hr, w, hw, Or.inr ⟨hs9, z9, _, hz9, rfl, hI9⟩⟩)
  · cases e9
    exact mj_T.ret rfl rfl rfl (Or.inr ⟨hr, z9, _, hz9, rfl, hI9⟩)
theorem ra_derive {x y : Int} (hx : jr x) (hy : jr y) (hI : jIx N0 u0 H tm er T h) : mj_Ok 40 235 [.ref 0, .int (jn x), .int (jn y)] h (RRc tm er T N0 u0 H ((0 ≤ x ∧ x ≤ 5) ∧ (0 ≤ y ∧ y ≤ 5)) (fun w => ∀ j, j < 13 → w j = drN N0 y j) x) := by
  refine mj_Ok.of (M := mj_m235) rfl rfl rfl ?_
  obtain ⟨S, N, B, X, V, hs, K⟩ := hI
  iterate 2 refine mj_T.pl rfl rfl rfl rfl ?_
  refine rT_put (v := 0) hs rfl rfl (by decide) rfl (fun g14 hs14 => ?_)
  have K14 := K.put (k := 3) (v := 0) ⟨by decide, by decide⟩ (by decide) (by decide) (by decide) (by decide) (by decide)
  have e14 : jvu S 3 0 3 = 0 := jvu_at S 3 0
  generalize jvu S 3 0 = S14 at hs14 K14 e14
  iterate 3 refine mj_T.pl rfl rfl rfl rfl ?_
  refine mj_T.call (ins := .invokestatic 210) rfl rfl (Nat.le_of_ble_eq_true rfl) (Nat.le_of_ble_eq_true rfl) rfl rfl (mj_Ok.up (by decide) (rx_areRegisters (D := 0) hx hy hy)) (fun v' h' hq' => ?_) (fun i h' hq' => by rcases hq' with ⟨_, _, h⟩ | ⟨_, h⟩ <;> cases h)
  rcases hq' with ⟨⟨x1, x2⟩, ⟨y3, y4, y5, y6⟩, hq'⟩ | ⟨hno, hq'⟩
  case' inr =>
    cases hq'
    refine mj_T.if0 (a := 0) rfl ⟨by decide, by decide⟩ (fun hc => ?_) (fun hc => ?_)
    · simp [jc] at hc
    iterate 2 refine mj_T.pl rfl rfl rfl rfl ?_
    refine mj_T.call (ins := .invokevirtual 198) rfl rfl (Nat.le_of_ble_eq_true rfl) (Nat.le_of_ble_eq_true rfl) (by simp [mj_recv, rS_f hs14]) rfl (mj_Ok.up (by decide) (rp_fails (D := 0) (c := 1) hs14)) (fun v' g15 hq' => ?_) (fun i h' hq' => by obtain ⟨_, _, h⟩ := hq'; cases h)
    obtain ⟨_, hs15, hq'⟩ := hq'
    cases hq'
    exact mj_T.ret rfl rfl rfl (Or.inr ⟨fun q => hno ⟨q.1, q.2, q.2⟩, 0, g15, ⟨⟨by decide, by decide⟩, trivial⟩, rfl, ⟨_, N, B, X, V, hs15, K14.put ⟨by decide, by decide⟩ (by decide) (by decide) (by decide) (by decide) (by decide), jvu_at _ _ _⟩⟩)
  cases hq'
  refine mj_T.if0 (a := 1) rfl ⟨by decide, by decide⟩ (fun hc => ?_) (fun hc => ?_)
  rotate_left
  · simp [jc] at hc
  obtain ⟨x, rfl⟩ := Int.eq_ofNat_of_zero_le x1
  obtain ⟨y, rfl⟩ := Int.eq_ofNat_of_zero_le y3
  iterate 3 refine mj_T.pl rfl rfl rfl rfl ?_
  refine mj_T.call (ins := .invokevirtual 213) rfl rfl (Nat.le_of_ble_eq_true rfl) (Nat.le_of_ble_eq_true rfl) (by simp [mj_recv, rS_f hs14]) rfl (mj_Ok.up (by decide) (rp_loads (D := 0) (p := 0) (r := y) (by decide) (by omega) K14.nR hs14)) (fun v' g16 hq' => ?_) (fun i h' hq' => by obtain ⟨_, _, h⟩ := hq'; cases h)
  obtain ⟨_, hs16, hq'⟩ := hq'
  cases hq'
  have a16 : ∀ e, e < 13 → jfl V 0 (fun e => N (y * 13 + e)) 13 (0 * 13 + e) = N (y * 13 + e) := fun e he => jfl_at _ _ _ he
  have b16 : ∀ s, (s < 0 * 13 ∨ 0 * 13 + 13 ≤ s) → jfl V 0 (fun e => N (y * 13 + e)) 13 s = V s := fun s hc => jfl_off _ _ _ hc
  generalize jfl V 0 (fun e => N (y * 13 + e)) 13 = W16 at hs16 a16 b16
  have c1 : ∀ e, e < 13 → (W16 (0 * 13 + e)).natAbs ≤ 10 ^ 18 := fun e he => by
    rw [a16 e he]
    exact K14.sh (r := y) (by omega) he
  iterate 3 refine mj_T.pl rfl rfl rfl rfl ?_
  refine mj_T.call (ins := .invokevirtual 149) rfl rfl (Nat.le_of_ble_eq_true rfl) (Nat.le_of_ble_eq_true rfl) (by simp [mj_recv, rS_f hs16]) rfl (mj_Ok.up (by decide) (jp_derives (D := 0) (V := W16) (rG S14 N B T X) (p := 1) (a := 0) (by decide) (by decide) (by decide) (fun e he => jnl_of_lt (M := 10 ^ 18 * 13) (by rw [Int.natAbs_mul]; exact Nat.mul_le_mul (c1 (e + 1) (by omega)) (by omega)) kq_small) hs16)) (fun v' g17 hq' => ?_) (fun i h' hq' => by obtain ⟨_, _, _, _, h⟩ := hq'; cases h)
  obtain ⟨W17, _, hs17, hW, hq'⟩ := hq'
  cases hq'
  iterate 4 refine mj_T.pl rfl rfl rfl rfl ?_
  refine mj_T.call (ins := .invokevirtual 219) rfl rfl (Nat.le_of_ble_eq_true rfl) (Nat.le_of_ble_eq_true rfl) (by simp [mj_recv, rS_f hs17]) rfl (mj_Ok.up (by decide) (ra_puts (D := 0) (r := x) (p := 1) (c := 2) (by omega) (by decide) ⟨by decide, by decide⟩ K14 hs17 e14)) (fun v' h' hq' => ?_) (fun i h' hq' => by rcases hq' with ⟨_, _, _, _, h, _⟩ | ⟨_, _, _, _, h, _⟩ <;> cases h)
  have hres : ∀ j, j < 13 → (fun e => W17 (1 * 13 + e)) j = drN N0 (y : Int) j := fun j hj => by
    show W17 (1 * 13 + j) = if j < 12 then rwN N0 (y : Int) (j + 1) * ((j + 1 : Nat) : Int) else 0
    rw [hW _ (by omega), jfl_at _ _ _ hj]
    by_cases q : j < 12
    · rw [if_pos q, if_pos q]
      show W16 (0 * 13 + j + 1) * ((j + 1 : Nat) : Int) = _
      rw [show 0 * 13 + j + 1 = 0 * 13 + (j + 1) by omega, a16 (j + 1) (by omega), rwN_at K14.2.1 (by omega) (by omega)]
    · rw [if_neg q, if_neg q]
  rcases hq' with ⟨hs9, z9, h9, hz9, e9, hI9⟩ | ⟨hs9, z9, h9, hz9, e9, hI9⟩
  · cases e9
    exact mj_T.ret rfl rfl rfl (Or.inl ⟨⟨⟨by omega, by omega⟩, ⟨by omega, by omega⟩⟩, _, hres, Or.inl ⟨hs9, z9, _, hz9, rfl, hI9⟩⟩)
  · cases e9
    exact mj_T.ret rfl rfl rfl (Or.inl ⟨⟨⟨by omega, by omega⟩, ⟨by omega, by omega⟩⟩, _, hres, Or.inr ⟨hs9, z9, _, hz9, rfl, hI9⟩⟩)
theorem ra_multiply {x y z : Int} (hx : jr x) (hy : jr y) (hz : jr z) (hI : jIx N0 u0 H tm er T h) : mj_Ok 40 233 [.ref 0, .int (jn x), .int (jn y), .int (jn z)] h (RPc 2 (fun c => c = 1) tm er T N0 u0 H ((0 ≤ x ∧ x ≤ 5) ∧ (0 ≤ y ∧ y ≤ 5) ∧ (0 ≤ z ∧ z ≤ 5)) (pz_mul (rwN N0 y) (rwN N0 z)) x) := by
  refine mj_Ok.of (M := mj_m233) rfl rfl rfl ?_
  obtain ⟨S, N, B, X, V, hs, K⟩ := hI
  iterate 2 refine mj_T.pl rfl rfl rfl rfl ?_
  refine rT_put (v := 0) hs rfl rfl (by decide) rfl (fun g1 hs1 => ?_)
  have K1 := K.put (k := 3) (v := 0) ⟨by decide, by decide⟩ (by decide) (by decide) (by decide) (by decide) (by decide)
  have e1 : jvu S 3 0 3 = 0 := jvu_at S 3 0
  generalize jvu S 3 0 = S1 at hs1 K1 e1
  iterate 3 refine mj_T.pl rfl rfl rfl rfl ?_
  refine mj_T.call (ins := .invokestatic 210) rfl rfl (Nat.le_of_ble_eq_true rfl) (Nat.le_of_ble_eq_true rfl) rfl rfl (mj_Ok.up (by decide) (rx_areRegisters (D := 0) hx hy hz)) (fun v' h' hq' => ?_) (fun i h' hq' => by rcases hq' with ⟨_, _, h⟩ | ⟨_, h⟩ <;> cases h)
  rcases hq' with ⟨⟨x1, x2⟩, ⟨y3, y4, z5, z6⟩, hq'⟩ | ⟨hno, hq'⟩
  case' inr =>
    cases hq'
    refine mj_T.if0 (a := 0) rfl ⟨by decide, by decide⟩ (fun hc => ?_) (fun hc => ?_)
    · simp [jc] at hc
    iterate 2 refine mj_T.pl rfl rfl rfl rfl ?_
    refine mj_T.call (ins := .invokevirtual 198) rfl rfl (Nat.le_of_ble_eq_true rfl) (Nat.le_of_ble_eq_true rfl) (by simp [mj_recv, rS_f hs1]) rfl (mj_Ok.up (by decide) (rp_fails (D := 0) (c := 1) hs1)) (fun v' g2 hq' => ?_) (fun i h' hq' => by obtain ⟨_, _, h⟩ := hq'; cases h)
    obtain ⟨_, hs2, hq'⟩ := hq'
    cases hq'
    exact mj_T.ret rfl rfl rfl (Or.inr ⟨hno, 1, rfl, 0, g2, ⟨⟨by decide, by decide⟩, trivial⟩, rfl, ⟨_, N, B, X, V, hs2, K1.put ⟨by decide, by decide⟩ (by decide) (by decide) (by decide) (by decide) (by decide), jvu_at _ _ _⟩⟩)
  cases hq'
  refine mj_T.if0 (a := 1) rfl ⟨by decide, by decide⟩ (fun hc => ?_) (fun hc => ?_)
  rotate_left
  · simp [jc] at hc
  obtain ⟨x, rfl⟩ := Int.eq_ofNat_of_zero_le x1
  obtain ⟨y, rfl⟩ := Int.eq_ofNat_of_zero_le y3
  obtain ⟨z, rfl⟩ := Int.eq_ofNat_of_zero_le z5
  iterate 3 refine mj_T.pl rfl rfl rfl rfl ?_
  refine mj_T.call (ins := .invokevirtual 213) rfl rfl (Nat.le_of_ble_eq_true rfl) (Nat.le_of_ble_eq_true rfl) (by simp [mj_recv, rS_f hs1]) rfl (mj_Ok.up (by decide) (rp_loads (D := 0) (p := 0) (r := y) (by decide) (by omega) K1.nR hs1)) (fun v' g3 hq' => ?_) (fun i h' hq' => by obtain ⟨_, _, h⟩ := hq'; cases h)
  obtain ⟨_, hs3, hq'⟩ := hq'
  cases hq'
  have a3 : ∀ e, e < 13 → jfl V 0 (fun e => N (y * 13 + e)) 13 (0 * 13 + e) = N (y * 13 + e) := fun e he => jfl_at _ _ _ he
  have b3 : ∀ s, (s < 0 * 13 ∨ 0 * 13 + 13 ≤ s) → jfl V 0 (fun e => N (y * 13 + e)) 13 s = V s := fun s hc => jfl_off _ _ _ hc
  generalize jfl V 0 (fun e => N (y * 13 + e)) 13 = W3 at hs3 a3 b3
  iterate 3 refine mj_T.pl rfl rfl rfl rfl ?_
  refine mj_T.call (ins := .invokevirtual 213) rfl rfl (Nat.le_of_ble_eq_true rfl) (Nat.le_of_ble_eq_true rfl) (by simp [mj_recv, rS_f hs3]) rfl (mj_Ok.up (by decide) (rp_loads (D := 0) (p := 1) (r := z) (by decide) (by omega) K1.nR hs3)) (fun v' g4 hq' => ?_) (fun i h' hq' => by obtain ⟨_, _, h⟩ := hq'; cases h)
  obtain ⟨_, hs4, hq'⟩ := hq'
  cases hq'
  have a4 : ∀ e, e < 13 → jfl W3 1 (fun e => N (z * 13 + e)) 13 (1 * 13 + e) = N (z * 13 + e) := fun e he => jfl_at _ _ _ he
  have b4 : ∀ s, (s < 1 * 13 ∨ 1 * 13 + 13 ≤ s) → jfl W3 1 (fun e => N (z * 13 + e)) 13 s = W3 s := fun s hc => jfl_off _ _ _ hc
  generalize jfl W3 1 (fun e => N (z * 13 + e)) 13 = W4 at hs4 a4 b4
  have eA : jpo W4 0 = rwN N0 (y : Int) := funext fun e => by
    unfold jpo
    by_cases q : e < 13
    · rw [if_pos q, b4 _ (by omega), a3 e q]
      exact rwN_at K1.2.1 (by omega) q
    · rw [if_neg q]
      show 0 = if e < 13 then _ else 0
      rw [if_neg q]
  have eB : jpo W4 1 = rwN N0 (z : Int) := funext fun e => by
    unfold jpo
    by_cases q : e < 13
    · rw [if_pos q, a4 e q]
      exact rwN_at K1.2.1 (by omega) q
    · rw [if_neg q]
      show 0 = if e < 13 then _ else 0
      rw [if_neg q]
  have c1 : ∀ e, e < 13 → (W4 (0 * 13 + e)).natAbs ≤ 10 ^ 18 := fun e he => by
    rw [b4 _ (by omega), a3 e he]
    exact K1.sh (r := y) (by omega) he
  have c2 : ∀ e, e < 13 → (W4 (1 * 13 + e)).natAbs ≤ 10 ^ 18 := fun e he => by
    rw [a4 e he]
    exact K1.sh (r := z) (by omega) he
  iterate 3 refine mj_T.pl rfl rfl rfl rfl ?_
  refine mj_T.call (ins := .invokevirtual 223) rfl rfl (Nat.le_of_ble_eq_true rfl) (Nat.le_of_ble_eq_true rfl) (by simp [mj_recv, rS_f hs4]) rfl (mj_Ok.up (by decide) (jp_isTooHigh (D := 0) (rG S1 N B T X) (a := 0) (b := 1) (by decide) (by decide) hs4)) (fun v' h' hq' => ?_) (fun i h' hq' => by rcases hq' with ⟨_, _, _, h⟩ | ⟨_, h⟩ <;> cases h)
  rcases hq' with ⟨t1, t2, t3, hq'⟩ | ⟨hdeg, hq'⟩
  case' inl =>
    cases hq'
    refine mj_T.if0 (a := 1) rfl ⟨by decide, by decide⟩ (fun hc => ?_) (fun hc => ?_)
    · simp [jc] at hc
    iterate 2 refine mj_T.pl rfl rfl rfl rfl ?_
    refine mj_T.call (ins := .invokevirtual 198) rfl rfl (Nat.le_of_ble_eq_true rfl) (Nat.le_of_ble_eq_true rfl) (by simp [mj_recv, rS_f hs4]) rfl (mj_Ok.up (by decide) (rp_fails (D := 0) (c := 2) hs4)) (fun v' g5 hq' => ?_) (fun i h' hq' => by obtain ⟨_, _, h⟩ := hq'; cases h)
    obtain ⟨_, hs5, hq'⟩ := hq'
    cases hq'
    have hbad := jpo_big t1 t2 t3
    rw [eA, eB] at hbad
    exact mj_T.ret rfl rfl rfl (Or.inl ⟨⟨⟨by omega, by omega⟩, ⟨by omega, by omega⟩, ⟨by omega, by omega⟩⟩, Or.inr ⟨hbad, 0, g5, ⟨⟨by decide, by decide⟩, trivial⟩, rfl, ⟨_, N, B, X, W4, hs5, K1.put ⟨by decide, by decide⟩ (by decide) (by decide) (by decide) (by decide) (by decide), jvu_at _ _ _⟩⟩⟩)
  cases hq'
  refine mj_T.if0 (a := 0) rfl ⟨by decide, by decide⟩ (fun hc => ?_) (fun hc => ?_)
  rotate_left
  · simp [jc] at hc
  iterate 4 refine mj_T.pl rfl rfl rfl rfl ?_
  refine mj_T.call (ins := .invokevirtual 121) rfl rfl (Nat.le_of_ble_eq_true rfl) (Nat.le_of_ble_eq_true rfl) (by simp [mj_recv, rS_f hs4]) rfl (mj_Ok.up (by decide) (jx_multipliesPoly (D := 0) (rG S1 N B T X) (to := 2) (a := 0) (b := 1) (by decide) (by decide) (by decide) (by decide) (by decide) c1 c2 hdeg rp_small2 hs4)) (fun v' g6 hq' => ?_) (fun i h' hq' => by obtain ⟨_, _, _, _, _, _, _, h⟩ := hq'; cases h)
  obtain ⟨W6, _, hs6, _, _, _, hW, hq'⟩ := hq'
  cases hq'
  iterate 4 refine mj_T.pl rfl rfl rfl rfl ?_
  refine mj_T.call (ins := .invokevirtual 219) rfl rfl (Nat.le_of_ble_eq_true rfl) (Nat.le_of_ble_eq_true rfl) (by simp [mj_recv, rS_f hs6]) rfl (mj_Ok.up (by decide) (ra_puts (D := 0) (r := x) (p := 2) (c := 2) (by omega) (by decide) ⟨by decide, by decide⟩ K1 hs6 e1)) (fun v' h' hq' => ?_) (fun i h' hq' => by rcases hq' with ⟨_, _, _, _, h, _⟩ | ⟨_, _, _, _, h, _⟩ <;> cases h)
  have hres : ∀ j, j < 13 → (fun e => W6 (2 * 13 + e)) j = pz_mul (rwN N0 (y : Int)) (rwN N0 (z : Int)) j := fun j hj => by
    rw [← eA, ← eB]
    exact (hW j hj).trans (prs_mul W4 0 1 j)
  have hz : ∀ i, 13 ≤ i → pz_mul (rwN N0 (y : Int)) (rwN N0 (z : Int)) i = 0 := fun i hi => by
    rw [← eA, ← eB]
    have ha := jdg_le W4 0 13
    have hb := jdg_le W4 1 13
    exact pz_lt.mul (c := 13) (jpo_ltd W4 0) (jpo_ltd W4 1) (by omega) i hi
  rcases hq' with ⟨hs9, z9, h9, hz9, e9, hI9⟩ | ⟨hs9, z9, h9, hz9, e9, hI9⟩
  · cases e9
    exact mj_T.ret rfl rfl rfl (Or.inl ⟨⟨⟨by omega, by omega⟩, ⟨by omega, by omega⟩, ⟨by omega, by omega⟩⟩, Or.inl ⟨⟨sml_cg hres hs9, hz⟩, _, hres, z9, _, hz9, rfl, hI9⟩⟩)
  · cases e9
    exact mj_T.ret rfl rfl rfl (Or.inl ⟨⟨⟨by omega, by omega⟩, ⟨by omega, by omega⟩, ⟨by omega, by omega⟩⟩, Or.inr ⟨fun q => hs9 (sml_cg (fun j hj => (hres j hj).symm) q.1), z9, _, hz9, rfl, hI9⟩⟩)
theorem ra_primitive {x y : Int} (hx : jr x) (hy : jr y) (hI : jIx N0 u0 H tm er T h) : mj_Ok 40 239 [.ref 0, .int (jn x), .int (jn y)] h (RPc 2 (fun c => c = 1) tm er T N0 u0 H ((0 ≤ x ∧ x ≤ 5) ∧ (0 ≤ y ∧ y ≤ 5)) (ppr (rwN N0 y)) x) := by
  refine mj_Ok.of (M := mj_m239) rfl rfl rfl ?_
  obtain ⟨S, N, B, X, V, hs, K⟩ := hI
  iterate 2 refine mj_T.pl rfl rfl rfl rfl ?_
  refine rT_put (v := 0) hs rfl rfl (by decide) rfl (fun g18 hs18 => ?_)
  have K18 := K.put (k := 3) (v := 0) ⟨by decide, by decide⟩ (by decide) (by decide) (by decide) (by decide) (by decide)
  have e18 : jvu S 3 0 3 = 0 := jvu_at S 3 0
  generalize jvu S 3 0 = S18 at hs18 K18 e18
  iterate 3 refine mj_T.pl rfl rfl rfl rfl ?_
  refine mj_T.call (ins := .invokestatic 210) rfl rfl (Nat.le_of_ble_eq_true rfl) (Nat.le_of_ble_eq_true rfl) rfl rfl (mj_Ok.up (by decide) (rx_areRegisters (D := 0) hx hy hy)) (fun v' h' hq' => ?_) (fun i h' hq' => by rcases hq' with ⟨_, _, h⟩ | ⟨_, h⟩ <;> cases h)
  rcases hq' with ⟨⟨x1, x2⟩, ⟨y3, y4, y5, y6⟩, hq'⟩ | ⟨hno, hq'⟩
  case' inr =>
    cases hq'
    refine mj_T.if0 (a := 0) rfl ⟨by decide, by decide⟩ (fun hc => ?_) (fun hc => ?_)
    · simp [jc] at hc
    iterate 2 refine mj_T.pl rfl rfl rfl rfl ?_
    refine mj_T.call (ins := .invokevirtual 198) rfl rfl (Nat.le_of_ble_eq_true rfl) (Nat.le_of_ble_eq_true rfl) (by simp [mj_recv, rS_f hs18]) rfl (mj_Ok.up (by decide) (rp_fails (D := 0) (c := 1) hs18)) (fun v' g19 hq' => ?_) (fun i h' hq' => by obtain ⟨_, _, h⟩ := hq'; cases h)
    obtain ⟨_, hs19, hq'⟩ := hq'
    cases hq'
    exact mj_T.ret rfl rfl rfl (Or.inr ⟨fun q => hno ⟨q.1, q.2, q.2⟩, 1, rfl, 0, g19, ⟨⟨by decide, by decide⟩, trivial⟩, rfl, ⟨_, N, B, X, V, hs19, K18.put ⟨by decide, by decide⟩ (by decide) (by decide) (by decide) (by decide) (by decide), jvu_at _ _ _⟩⟩)
  cases hq'
  refine mj_T.if0 (a := 1) rfl ⟨by decide, by decide⟩ (fun hc => ?_) (fun hc => ?_)
  rotate_left
  · simp [jc] at hc
  obtain ⟨x, rfl⟩ := Int.eq_ofNat_of_zero_le x1
  obtain ⟨y, rfl⟩ := Int.eq_ofNat_of_zero_le y3
  iterate 3 refine mj_T.pl rfl rfl rfl rfl ?_
  refine mj_T.call (ins := .invokevirtual 213) rfl rfl (Nat.le_of_ble_eq_true rfl) (Nat.le_of_ble_eq_true rfl) (by simp [mj_recv, rS_f hs18]) rfl (mj_Ok.up (by decide) (rp_loads (D := 0) (p := 0) (r := y) (by decide) (by omega) K18.nR hs18)) (fun v' g20 hq' => ?_) (fun i h' hq' => by obtain ⟨_, _, h⟩ := hq'; cases h)
  obtain ⟨_, hs20, hq'⟩ := hq'
  cases hq'
  have a20 : ∀ e, e < 13 → jfl V 0 (fun e => N (y * 13 + e)) 13 (0 * 13 + e) = N (y * 13 + e) := fun e he => jfl_at _ _ _ he
  have b20 : ∀ s, (s < 0 * 13 ∨ 0 * 13 + 13 ≤ s) → jfl V 0 (fun e => N (y * 13 + e)) 13 s = V s := fun s hc => jfl_off _ _ _ hc
  generalize jfl V 0 (fun e => N (y * 13 + e)) 13 = W20 at hs20 a20 b20
  iterate 2 refine mj_T.pl rfl rfl rfl rfl ?_
  refine mj_T.call (ins := .invokevirtual 142) rfl rfl (Nat.le_of_ble_eq_true rfl) (Nat.le_of_ble_eq_true rfl) (by simp [mj_recv, rS_f hs20]) rfl (mj_Ok.up (by decide) (jx_makesPrimitive (D := 0) (rG S18 N B T X) (p := 0) (by decide) hs20)) (fun v' g21 hq' => ?_) (fun i h' hq' => by obtain ⟨_, _, _, _, _, _, h⟩ := hq'; cases h)
  obtain ⟨W21, _, hs21, ⟨f, hf, hW⟩, _, hP, hq'⟩ := hq'
  cases hq'
  iterate 4 refine mj_T.pl rfl rfl rfl rfl ?_
  refine mj_T.call (ins := .invokevirtual 219) rfl rfl (Nat.le_of_ble_eq_true rfl) (Nat.le_of_ble_eq_true rfl) (by simp [mj_recv, rS_f hs21]) rfl (mj_Ok.up (by decide) (ra_puts (D := 0) (r := x) (p := 0) (c := 2) (by omega) (by decide) ⟨by decide, by decide⟩ K18 hs21 e18)) (fun v' h' hq' => ?_) (fun i h' hq' => by rcases hq' with ⟨_, _, _, _, h, _⟩ | ⟨_, _, _, _, h, _⟩ <;> cases h)
  have hR : ∀ e, e < 13 → W20 (0 * 13 + e) = rwN N0 (y : Int) e := fun e he => by
    rw [a20 e he]
    exact rwN_at K18.2.1 (by omega) he
  have hRs : sml (rwN N0 (y : Int)) := fun j hj => by
    rw [← rwN_at K18.2.1 (r := y) (by omega) hj]
    have := K18.1.1.1 (y * 13 + j) (by omega)
    omega
  have hres : ∀ j, j < 13 → (fun e => W21 (0 * 13 + e)) j = ppr (rwN N0 (y : Int)) j := ppr_of hf (fun e he => by
    show W21 (0 * 13 + e) = _
    rw [hW e he, hR e he, jgk_cgd hR]) (fun d hd h1 h2 => hP d hd h1 h2)
  have hfit : fit13 (ppr (rwN N0 (y : Int))) := ⟨fun j hj => ppr_sml hRs j, fun i hi => if_neg (by omega)⟩
  rcases hq' with ⟨hs9, z9, h9, hz9, e9, hI9⟩ | ⟨hs9, z9, h9, hz9, e9, hI9⟩
  · cases e9
    exact mj_T.ret rfl rfl rfl (Or.inl ⟨⟨⟨by omega, by omega⟩, ⟨by omega, by omega⟩⟩, Or.inl ⟨hfit, _, hres, z9, _, hz9, rfl, hI9⟩⟩)
  · exact absurd (sml_cg (fun j hj => (hres j hj).symm) hfit.1) hs9
theorem ra_power {x y z : Int} (hx : jr x) (hy : jr y) (hz : jr z) (hI : jIx N0 u0 H tm er T h) : mj_Ok 40 234 [.ref 0, .int (jn x), .int (jn y), .int (jn z)] h (RPc 3 (fun c => (¬ ((0 ≤ x ∧ x ≤ 5) ∧ (0 ≤ y ∧ y ≤ 5)) ∧ c = 1) ∨ (((0 ≤ x ∧ x ≤ 5) ∧ (0 ≤ y ∧ y ≤ 5)) ∧ ¬ (0 ≤ z ∧ z ≤ 12) ∧ c = 2)) tm er T N0 u0 H (((0 ≤ x ∧ x ≤ 5) ∧ (0 ≤ y ∧ y ≤ 5)) ∧ (0 ≤ z ∧ z ≤ 12)) (pw (rwN N0 y) z.toNat) x) := by
  refine mj_Ok.of (M := mj_m234) rfl rfl rfl ?_
  obtain ⟨S, N, B, X, V, hs, K⟩ := hI
  iterate 2 refine mj_T.pl rfl rfl rfl rfl ?_
  refine rT_put (v := 0) hs rfl rfl (by decide) rfl (fun g7 hs7 => ?_)
  have K7 := K.put (k := 3) (v := 0) ⟨by decide, by decide⟩ (by decide) (by decide) (by decide) (by decide) (by decide)
  have e7 : jvu S 3 0 3 = 0 := jvu_at S 3 0
  generalize jvu S 3 0 = S7 at hs7 K7 e7
  iterate 3 refine mj_T.pl rfl rfl rfl rfl ?_
  refine mj_T.call (ins := .invokestatic 210) rfl rfl (Nat.le_of_ble_eq_true rfl) (Nat.le_of_ble_eq_true rfl) rfl rfl (mj_Ok.up (by decide) (rx_areRegisters (D := 0) hx hy hy)) (fun v' h' hq' => ?_) (fun i h' hq' => by rcases hq' with ⟨_, _, h⟩ | ⟨_, h⟩ <;> cases h)
  rcases hq' with ⟨⟨x1, x2⟩, ⟨y3, y4, y5, y6⟩, hq'⟩ | ⟨hno, hq'⟩
  case' inr =>
    cases hq'
    refine mj_T.if0 (a := 0) rfl ⟨by decide, by decide⟩ (fun hc => ?_) (fun hc => ?_)
    · simp [jc] at hc
    iterate 2 refine mj_T.pl rfl rfl rfl rfl ?_
    refine mj_T.call (ins := .invokevirtual 198) rfl rfl (Nat.le_of_ble_eq_true rfl) (Nat.le_of_ble_eq_true rfl) (by simp [mj_recv, rS_f hs7]) rfl (mj_Ok.up (by decide) (rp_fails (D := 0) (c := 1) hs7)) (fun v' g8 hq' => ?_) (fun i h' hq' => by obtain ⟨_, _, h⟩ := hq'; cases h)
    obtain ⟨_, hs8, hq'⟩ := hq'
    cases hq'
    exact mj_T.ret rfl rfl rfl (Or.inr ⟨fun q => hno ⟨q.1.1, q.1.2, q.1.2⟩, 1, Or.inl ⟨fun q => hno ⟨q.1, q.2, q.2⟩, rfl⟩, 0, g8, ⟨⟨by decide, by decide⟩, trivial⟩, rfl, ⟨_, N, B, X, V, hs8, K7.put ⟨by decide, by decide⟩ (by decide) (by decide) (by decide) (by decide) (by decide), jvu_at _ _ _⟩⟩)
  cases hq'
  refine mj_T.if0 (a := 1) rfl ⟨by decide, by decide⟩ (fun hc => ?_) (fun hc => ?_)
  rotate_left
  · simp [jc] at hc
  obtain ⟨x, rfl⟩ := Int.eq_ofNat_of_zero_le x1
  obtain ⟨y, rfl⟩ := Int.eq_ofNat_of_zero_le y3
  refine mj_T.pl rfl rfl rfl rfl ?_
  refine mj_T.i2l rfl hz ?_
  iterate 2 refine mj_T.pl rfl rfl rfl rfl ?_
  refine mj_T.call (ins := .invokestatic 177) rfl rfl (Nat.le_of_ble_eq_true rfl) (Nat.le_of_ble_eq_true rfl) rfl rfl (mj_Ok.up (by decide) (rp_in (D := 0) (v := z) (lo := 0) (hi := 12) ⟨by have := hz.1; omega, by have := hz.2; omega⟩ ⟨by decide, by decide⟩ ⟨by decide, by decide⟩)) (fun v' h' hq' => ?_) (fun i h' hq' => by rcases hq' with ⟨_, _, h⟩ | ⟨_, h⟩ <;> cases h)
  rcases hq' with ⟨r9a, r9b, hq'⟩ | ⟨cn, hq'⟩
  case' inr =>
    cases hq'
    refine mj_T.if0 (a := 0) rfl ⟨by decide, by decide⟩ (fun hc => ?_) (fun hc => ?_)
    · simp [jc] at hc
    iterate 2 refine mj_T.pl rfl rfl rfl rfl ?_
    refine mj_T.call (ins := .invokevirtual 198) rfl rfl (Nat.le_of_ble_eq_true rfl) (Nat.le_of_ble_eq_true rfl) (by simp [mj_recv, rS_f hs7]) rfl (mj_Ok.up (by decide) (rp_fails (D := 0) (c := 2) hs7)) (fun v' g10 hq' => ?_) (fun i h' hq' => by obtain ⟨_, _, h⟩ := hq'; cases h)
    obtain ⟨_, hs10, hq'⟩ := hq'
    cases hq'
    exact mj_T.ret rfl rfl rfl (Or.inr ⟨by omega, 2, Or.inr ⟨⟨by omega, by omega⟩, by omega, rfl⟩, 0, g10, ⟨⟨by decide, by decide⟩, trivial⟩, rfl, ⟨_, N, B, X, V, hs10, K7.put ⟨by decide, by decide⟩ (by decide) (by decide) (by decide) (by decide) (by decide), jvu_at _ _ _⟩⟩)
  cases hq'
  refine mj_T.if0 (a := 1) rfl ⟨by decide, by decide⟩ (fun hc => ?_) (fun hc => ?_)
  rotate_left
  · simp [jc] at hc
  obtain ⟨z, rfl⟩ := Int.eq_ofNat_of_zero_le r9a
  iterate 3 refine mj_T.pl rfl rfl rfl rfl ?_
  refine mj_T.call (ins := .invokevirtual 213) rfl rfl (Nat.le_of_ble_eq_true rfl) (Nat.le_of_ble_eq_true rfl) (by simp [mj_recv, rS_f hs7]) rfl (mj_Ok.up (by decide) (rp_loads (D := 0) (p := 0) (r := y) (by decide) (by omega) K7.nR hs7)) (fun v' g11 hq' => ?_) (fun i h' hq' => by obtain ⟨_, _, h⟩ := hq'; cases h)
  obtain ⟨_, hs11, hq'⟩ := hq'
  cases hq'
  have a11 : ∀ e, e < 13 → jfl V 0 (fun e => N (y * 13 + e)) 13 (0 * 13 + e) = N (y * 13 + e) := fun e he => jfl_at _ _ _ he
  have b11 : ∀ s, (s < 0 * 13 ∨ 0 * 13 + 13 ≤ s) → jfl V 0 (fun e => N (y * 13 + e)) 13 s = V s := fun s hc => jfl_off _ _ _ hc
  generalize jfl V 0 (fun e => N (y * 13 + e)) 13 = W11 at hs11 a11 b11
  have eA : jpo W11 0 = rwN N0 (y : Int) := funext fun e => by
    unfold jpo
    by_cases q : e < 13
    · rw [if_pos q, a11 e q]
      exact rwN_at K7.2.1 (by omega) q
    · rw [if_neg q]
      show 0 = if e < 13 then _ else 0
      rw [if_neg q]
  have c1 : ∀ e, e < 13 → (W11 (0 * 13 + e)).natAbs ≤ 10 ^ 18 := fun e he => by
    rw [a11 e he]
    exact K7.sh (r := y) (by omega) he
  iterate 4 refine mj_T.pl rfl rfl rfl rfl ?_
  refine mj_T.call (ins := .invokevirtual 229) rfl rfl (Nat.le_of_ble_eq_true rfl) (Nat.le_of_ble_eq_true rfl) (by simp [mj_recv, rS_f hs11]) rfl (mj_Ok.up (by decide) (jx_raises (D := 0) (rG S7 N B T X) (p := 1) (a := 0) (al := 10 ^ 18) (n := z) (by decide) (by decide) (by decide) (by decide) (by decide) (by decide) c1 (by omega) rp_small3 hs11)) (fun v' g12 hq' => ?_) (fun i h' hq' => by obtain ⟨_, _, _, _, ⟨h, _⟩ | ⟨h, _⟩⟩ := hq' <;> cases h)
  obtain ⟨W12, _, hs12, _, ⟨hq', _, hbig⟩ | ⟨hq', hdg, hW⟩⟩ := hq'
  case' inl =>
    cases hq'
    refine mj_T.if0 (a := 0) rfl ⟨by decide, by decide⟩ (fun hc => ?_) (fun hc => ?_)
    rotate_left
    · simp [jc] at hc
    iterate 2 refine mj_T.pl rfl rfl rfl rfl ?_
    refine mj_T.call (ins := .invokevirtual 198) rfl rfl (Nat.le_of_ble_eq_true rfl) (Nat.le_of_ble_eq_true rfl) (by simp [mj_recv, rS_f hs12]) rfl (mj_Ok.up (by decide) (rp_fails (D := 0) (c := 3) hs12)) (fun v' g13 hq' => ?_) (fun i h' hq' => by obtain ⟨_, _, h⟩ := hq'; cases h)
    obtain ⟨_, hs13, hq'⟩ := hq'
    cases hq'
    have hbad := pw_nofit hbig
    rw [eA] at hbad
    exact mj_T.ret rfl rfl rfl (Or.inl ⟨⟨⟨⟨by omega, by omega⟩, ⟨by omega, by omega⟩⟩, ⟨by omega, by omega⟩⟩, Or.inr ⟨hbad, 0, g13, ⟨⟨by decide, by decide⟩, trivial⟩, rfl, ⟨_, N, B, X, W12, hs13, K7.put ⟨by decide, by decide⟩ (by decide) (by decide) (by decide) (by decide) (by decide), jvu_at _ _ _⟩⟩⟩)
  cases hq'
  refine mj_T.if0 (a := 1) rfl ⟨by decide, by decide⟩ (fun hc => ?_) (fun hc => ?_)
  · simp [jc] at hc
  iterate 4 refine mj_T.pl rfl rfl rfl rfl ?_
  refine mj_T.call (ins := .invokevirtual 219) rfl rfl (Nat.le_of_ble_eq_true rfl) (Nat.le_of_ble_eq_true rfl) (by simp [mj_recv, rS_f hs12]) rfl (mj_Ok.up (by decide) (ra_puts (D := 0) (r := x) (p := 1) (c := 3) (by omega) (by decide) ⟨by decide, by decide⟩ K7 hs12 e7)) (fun v' h' hq' => ?_) (fun i h' hq' => by rcases hq' with ⟨_, _, _, _, h, _⟩ | ⟨_, _, _, _, h, _⟩ <;> cases h)
  have hres : ∀ j, j < 13 → (fun e => W12 (1 * 13 + e)) j = pw (rwN N0 (y : Int)) z j := fun j hj => by
    rw [← eA]
    exact hW j hj
  rcases hq' with ⟨hs9, z9, h9, hz9, e9, hI9⟩ | ⟨hs9, z9, h9, hz9, e9, hI9⟩
  · cases e9
    refine mj_T.pl rfl rfl rfl rfl ?_
    have hz : ∀ i, 13 ≤ i → pw (rwN N0 (y : Int)) z i = 0 := by
      rw [← eA]
      exact pw_z (d := jdg W11 0 13 - 1) (fun i hi => jpo_zb (by omega)) hdg
    exact mj_T.ret rfl rfl rfl (Or.inl ⟨⟨⟨⟨by omega, by omega⟩, ⟨by omega, by omega⟩⟩, ⟨by omega, by omega⟩⟩, Or.inl ⟨⟨sml_cg hres hs9, hz⟩, _, hres, z9, _, hz9, rfl, hI9⟩⟩)
  · cases e9
    refine mj_T.pl rfl rfl rfl rfl ?_
    exact mj_T.ret rfl rfl rfl (Or.inl ⟨⟨⟨⟨by omega, by omega⟩, ⟨by omega, by omega⟩⟩, ⟨by omega, by omega⟩⟩, Or.inr ⟨fun q => hs9 (sml_cg (fun j hj => (hres j hj).symm) q.1), z9, _, hz9, rfl, hI9⟩⟩)
theorem ra_sb_loop {S N B X V0 : Nat → Int} {x : Nat} {y z : Int} {reg : Prop} (hreg : reg) {P : pz_P} (hP : P = hw (jpo V0 0) (jpo V0 1) 13) (hx : x ≤ 5) (K : jKx N0 u0 H tm er S N B T) (e3s : S 3 = 0) (hA : ∀ e, e < 13 → (V0 (0 * 13 + e)).natAbs ≤ 10 ^ 18) (hB : ∀ e, e < 13 → (V0 (1 * 13 + e)).natAbs ≤ 10 ^ 18) (hdeg : (jdg V0 0 13 - 1) * (jdg V0 1 13 - 1) ≤ 12) :
    ∀ (m s : Nat) (V : Nat → Int) (h : mj_H), m + s = jdg V0 0 13 → rS S N B T X V h → (∀ j, j < 26 → V j = V0 j) → (∀ e, e < 13 → (V (2 * 13 + e)).natAbs ≤ (170 * 10 ^ 18) ^ s) → ((s = 0 ∧ jdg V 2 13 = 0) ∨ (1 ≤ s ∧ jdg V 2 13 ≤ (s - 1) * (jdg V0 1 13 - 1) + 1)) → (∀ e, e < 13 → V (2 * 13 + e) = hw (jpo V0 0) (jpo V0 1) (13 - m) e) → mj_T 39 mj_m236 74 [some (.ref 0), some (.int (jn (x : Int))), some (.int (jn y)), some (.int (jn z)), some (.int (jn ((m : Int) - 1)))] [] h (RPc 2 (fun c => c = 1) tm er T N0 u0 H reg P (x : Int)) := by
  have hl0 := jdg_le V0 0 13
  have hl1 := jdg_le V0 1 13
  intro m
  induction m with
  | zero =>
    intro s V h hm hs f c1 c2 c3
    refine mj_T.pl rfl rfl rfl rfl ?_
    refine mj_T.if0 (a := ((0 : Nat) : Int) - 1) rfl ⟨by decide, by decide⟩ (fun hc => ?_) (fun hc => ?_)
    rotate_left
    · simp [jc] at hc
    iterate 4 refine mj_T.pl rfl rfl rfl rfl ?_
    refine mj_T.call (ins := .invokevirtual 219) rfl rfl (Nat.le_of_ble_eq_true rfl) (Nat.le_of_ble_eq_true rfl) (by simp [mj_recv, rS_f hs]) rfl (mj_Ok.up (by decide) (ra_puts (D := 0) (r := x) (p := 2) (c := 2) (by omega) (by decide) ⟨by decide, by decide⟩ K hs e3s)) (fun v' h' hq' => ?_) (fun i h' hq' => by rcases hq' with ⟨_, _, _, _, h, _⟩ | ⟨_, _, _, _, h, _⟩ <;> cases h)
    have hres : ∀ j, j < 13 → (fun e => V (2 * 13 + e)) j = P j := fun j hj => by
      rw [hP]
      exact c3 j hj
    have hz : ∀ i, 13 ≤ i → P i = 0 := by
      rw [hP]
      exact hw_fits hdeg
    rcases hq' with ⟨hs9, z9, h9, hz9, e9, hI9⟩ | ⟨hs9, z9, h9, hz9, e9, hI9⟩
    · cases e9
      exact mj_T.ret rfl rfl rfl (Or.inl ⟨hreg, Or.inl ⟨⟨sml_cg hres hs9, hz⟩, _, hres, z9, _, hz9, rfl, hI9⟩⟩)
    · cases e9
      exact mj_T.ret rfl rfl rfl (Or.inl ⟨hreg, Or.inr ⟨fun q => hs9 (sml_cg (fun j hj => (hres j hj).symm) q.1), z9, _, hz9, rfl, hI9⟩⟩)
  | succ m ih =>
    intro s V h hm hs f c1 c2 c3
    refine mj_T.pl rfl rfl rfl rfl ?_
    refine mj_T.if0 (a := ((m + 1 : Nat) : Int) - 1) rfl ⟨by omega, by omega⟩ (fun hc => ?_) (fun hc => ?_)
    · simp only [jc, decide_eq_true_eq] at hc
      omega
    rw [show ((m + 1 : Nat) : Int) - 1 = (m : Int) by omega]
    have e1 : jdg V 1 13 = jdg V0 1 13 := jdg_congr 13 fun e he => f _ (by omega)
    have hmul : (s - 1) * (jdg V0 1 13 - 1) + (jdg V0 1 13 - 1) = s * (jdg V0 1 13 - 1) ∨ s = 0 := by
      rcases Nat.eq_zero_or_pos s with q | q
      · exact Or.inr q
      · refine Or.inl ?_
        obtain ⟨t, rfl⟩ : ∃ t, s = t + 1 := ⟨s - 1, by omega⟩
        rw [Nat.add_sub_cancel, Nat.succ_mul]
    have hle : s * (jdg V0 1 13 - 1) ≤ 12 := Nat.le_trans (Nat.mul_le_mul_right _ (by omega)) hdeg
    have hpw : (170 * 10 ^ 18) ^ s ≤ (170 * 10 ^ 18) ^ 13 := Nat.pow_le_pow_right (by decide) (by omega)
    have hp1 : 1 ≤ (170 * 10 ^ 18) ^ s := Nat.pow_pos (by decide)
    have h6 := rp_small6
    have hps : (170 * 10 ^ 18) ^ (s + 1) = (170 * 10 ^ 18) ^ s * (170 * 10 ^ 18) := Nat.pow_succ _ _
    obtain ⟨al, ha1, ha2, ha3⟩ : ∃ al : Nat, (∀ e, e < 13 → (V (2 * 13 + e)).natAbs ≤ al) ∧ al ≤ (170 * 10 ^ 18) ^ s ∧ (s = 0 → al = 0) := by
      rcases c2 with ⟨q, q2⟩ | ⟨q, _⟩
      · exact ⟨0, fun e he => by rw [jdg_zero V 2 13 e (by omega) he]; exact Nat.zero_le _, Nat.zero_le _, fun _ => rfl⟩
      · exact ⟨_, c1, Nat.le_refl _, fun q2 => absurd q2 (by omega)⟩
    iterate 4 refine mj_T.pl rfl rfl rfl rfl ?_
    refine mj_T.call (ins := .invokevirtual 121) rfl rfl (Nat.le_of_ble_eq_true rfl) (Nat.le_of_ble_eq_true rfl) (by simp [mj_recv, rS_f hs]) rfl (mj_Ok.up (by decide) (jx_multipliesPoly (D := 0) (V := V) (rG S N B T X) (to := 7) (a := 2) (b := 1) (by decide) (by decide) (by decide) (by decide) (by decide) (al := al) (be := 10 ^ 18) ha1 (fun e he => by rw [f _ (by omega)]; exact hB e he) (by rw [e1]; omega) (by omega) hs)) (fun v' g1 hq' => ?_) (fun i h' hq' => by obtain ⟨_, _, _, _, _, _, _, h⟩ := hq'; cases h)
    obtain ⟨W1, _, hs1, d1, d2, d3, hW, hq'⟩ := hq'
    cases hq'
    iterate 3 refine mj_T.pl rfl rfl rfl rfl ?_
    refine mj_T.call (ins := .invokevirtual 124) rfl rfl (Nat.le_of_ble_eq_true rfl) (Nat.le_of_ble_eq_true rfl) (by simp [mj_recv, rS_f hs1]) rfl (mj_Ok.up (by decide) (jp_copiesPoly (D := 0) (V := W1) (rG S N B T X) (p := 2) (q := 7) (by decide) (by decide) (by decide) hs1)) (fun v' g2 hq' => ?_) (fun i h' hq' => by obtain ⟨_, _, h⟩ := hq'; cases h)
    obtain ⟨_, hs2, hq'⟩ := hq'
    cases hq'
    have q1 : ∀ e, e < 13 → jfl W1 2 (fun e => W1 (7 * 13 + e)) 13 (2 * 13 + e) = W1 (7 * 13 + e) := fun e he => jfl_at _ _ _ he
    have q2 : ∀ s, (s < 26 ∨ 39 ≤ s) → jfl W1 2 (fun e => W1 (7 * 13 + e)) 13 s = W1 s := fun s hc => jfl_off _ _ _ (by omega)
    generalize jfl W1 2 (fun e => W1 (7 * 13 + e)) 13 = W2 at hs2 q1 q2
    iterate 3 refine mj_T.pl rfl rfl rfl rfl ?_
    refine mj_T.call (ins := .invokestatic 104) rfl rfl (Nat.le_of_ble_eq_true rfl) (Nat.le_of_ble_eq_true rfl) rfl rfl (mj_Ok.up (by decide) (jq_slot (D := 0) (p := 2) (i := 0))) (fun v' h' hq' => ?_) (fun i h' hq' => by cases hq')
    cases hq'
    iterate 2 refine mj_T.pl rfl rfl rfl rfl ?_
    refine mj_T.call (ins := .invokestatic 104) rfl rfl (Nat.le_of_ble_eq_true rfl) (Nat.le_of_ble_eq_true rfl) rfl rfl (mj_Ok.up (by decide) (jq_slot (D := 0) (p := 2) (i := 0))) (fun v' h' hq' => ?_) (fun i h' hq' => by cases hq')
    cases hq'
    iterate 2 refine mj_T.pl rfl rfl rfl rfl ?_
    refine mj_T.call (ins := .invokestatic 104) rfl rfl (Nat.le_of_ble_eq_true rfl) (Nat.le_of_ble_eq_true rfl) rfl rfl (mj_Ok.up (by decide) (jq_slot (D := 0) (p := 0) (i := m))) (fun v' h' hq' => ?_) (fun i h' hq' => by cases hq')
    cases hq'
    refine mj_T.pl rfl rfl rfl rfl ?_
    have va : W2 (0 * 13 + m) = V0 (0 * 13 + m) := by rw [q2 _ (by omega), d1 _ (by omega) (by omega), f _ (by omega)]
    have v1 : (W2 (2 * 13 + 0) + 1 * W2 (0 * 13 + m)).natAbs ≤ (170 * 10 ^ 18) ^ (s + 1) := by
      rw [va, q1 0 (by decide), Int.one_mul]
      have k1 := d2 0 (by decide)
      have k2 := hA m (by omega)
      have k3 := Int.natAbs_add_le (W1 (7 * 13 + 0)) (V0 (0 * 13 + m))
      omega
    refine mj_T.call (ins := .invokevirtual 107) rfl rfl (Nat.le_of_ble_eq_true rfl) (Nat.le_of_ble_eq_true rfl) (by simp [mj_recv, rS_f hs2]) rfl (mj_Ok.up (by decide) (jS_adds (D := 0) (V := W2) (rG S N B T X) (to := 2 * 13 + 0) (a := 2 * 13 + 0) (b := 0 * 13 + m) (f := 1) (by decide) (by decide) (by omega) (Or.inl rfl) (jnl_of_lt v1 (by omega)) hs2)) (fun v' g3 hq' => ?_) (fun i h' hq' => by obtain ⟨_, _, h⟩ := hq'; cases h)
    obtain ⟨_, hs3, hq'⟩ := hq'
    cases hq'
    have u1 : jvu W2 (2 * 13 + 0) (W2 (2 * 13 + 0) + 1 * W2 (0 * 13 + m)) (2 * 13 + 0) = W2 (2 * 13 + 0) + 1 * W2 (0 * 13 + m) := jvu_at _ _ _
    have u2 : ∀ s, s ≠ 2 * 13 + 0 → jvu W2 (2 * 13 + 0) (W2 (2 * 13 + 0) + 1 * W2 (0 * 13 + m)) s = W2 s := fun s hne => jvu_ne _ _ _ hne
    generalize jvu W2 (2 * 13 + 0) (W2 (2 * 13 + 0) + 1 * W2 (0 * 13 + m)) = W3 at hs3 u1 u2
    refine mj_T.iinc (a := (m : Int)) rfl rfl ?_
    refine mj_T.pl rfl rfl rfl rfl ?_
    refine ih (s + 1) W3 g3 (by omega) hs3 (fun j hj => by rw [u2 _ (by omega), q2 _ (by omega), d1 _ (by omega) (by omega), f _ hj]) (fun e he => ?_) (Or.inr ⟨by omega, ?_⟩) (fun e he => ?_)
    · by_cases e0 : e = 0
      · subst e0
        rw [u1]
        exact v1
      · rw [u2 _ (by omega), q1 e he]
        have := d2 e he
        omega
    · have j1 : jdg W1 7 13 ≤ jdg V 2 13 + jdg V 1 13 - 1 := d3
      refine jdg_of_zero fun e x1 x2 => ?_
      rw [Nat.add_sub_cancel] at x1
      rw [u2 _ (by omega), q1 e x2]
      by_cases q : s = 0
      · have := d2 e x2
        rw [ha3 q, Nat.zero_mul, Nat.mul_zero] at this
        omega
      · exact jdg_zero W1 7 13 e (by omega) x2
    · have hk : 13 - m = 13 - (m + 1) + 1 := by omega
      have hks : 13 - (m + 1) = 13 - jdg V0 0 13 + s := by omega
      have hlt : ∀ i : Nat, ¬ i < 13 → (s - 1) * (jdg V0 1 13 - 1) < i := fun i q => by
        rcases hmul with q2 | q2
        · omega
        · rw [q2, Nat.zero_sub, Nat.zero_mul]
          omega
      have eV : jpo V 2 = hw (jpo V0 0) (jpo V0 1) (13 - (m + 1)) := funext fun i => by
        by_cases q : i < 13
        · rw [jpo_at q]
          exact c3 i q
        · have hdg := hw_deg (A := jpo V0 0) (B := jpo V0 1) (d := jdg V0 0 13) (b := jdg V0 1 13 - 1) (fun i hi => jpo_zb hi) (fun i hi => jpo_zb (by omega)) (jdg_le V0 0 13) s (by omega) i (hlt i q)
          rw [hks, hdg]
          exact jpo_zb (by have := jdg_le V 2 13; omega)
      have eB : jpo V 1 = jpo V0 1 := funext fun i => by
        by_cases q : i < 13
        · rw [jpo_at q, jpo_at q, f _ (by omega)]
        · have x1 := jdg_le V 1 13
          have x2 := jdg_le V0 1 13
          rw [jpo_zb (by omega), jpo_zb (by omega)]
      have hm9 := (hW e he).trans (prs_mul V 2 1 e)
      rw [eV, eB] at hm9
      rw [hk]
      by_cases e0 : e = 0
      · subst e0
        rw [u1, q1 0 (by decide), hm9, va, Int.one_mul]
        show _ = pz_mul _ _ 0 + (if 0 = 0 then jpo V0 0 (12 - (13 - (m + 1))) else 0)
        rw [if_pos rfl, show 12 - (13 - (m + 1)) = m by omega, jpo_at (by omega)]
      · rw [u2 _ (by omega), q1 e he, hm9, hw_rest _ _ _ _ (by omega)]
theorem ra_substitute {x y z : Int} (hx : jr x) (hy : jr y) (hz : jr z) (hI : jIx N0 u0 H tm er T h) : mj_Ok 40 236 [.ref 0, .int (jn x), .int (jn y), .int (jn z)] h (RPc 2 (fun c => c = 1) tm er T N0 u0 H ((0 ≤ x ∧ x ≤ 5) ∧ (0 ≤ y ∧ y ≤ 5) ∧ (0 ≤ z ∧ z ≤ 5)) (hw (rwN N0 y) (rwN N0 z) 13) x) := by
  refine mj_Ok.of (M := mj_m236) rfl rfl rfl ?_
  obtain ⟨S, N, B, X, V, hs, K⟩ := hI
  iterate 2 refine mj_T.pl rfl rfl rfl rfl ?_
  refine rT_put (v := 0) hs rfl rfl (by decide) rfl (fun g4 hs4 => ?_)
  have K4 := K.put (k := 3) (v := 0) ⟨by decide, by decide⟩ (by decide) (by decide) (by decide) (by decide) (by decide)
  have e4 : jvu S 3 0 3 = 0 := jvu_at S 3 0
  generalize jvu S 3 0 = S4 at hs4 K4 e4
  iterate 3 refine mj_T.pl rfl rfl rfl rfl ?_
  refine mj_T.call (ins := .invokestatic 210) rfl rfl (Nat.le_of_ble_eq_true rfl) (Nat.le_of_ble_eq_true rfl) rfl rfl (mj_Ok.up (by decide) (rx_areRegisters (D := 0) hx hy hz)) (fun v' h' hq' => ?_) (fun i h' hq' => by rcases hq' with ⟨_, _, h⟩ | ⟨_, h⟩ <;> cases h)
  rcases hq' with ⟨⟨x1, x2⟩, ⟨y3, y4, z5, z6⟩, hq'⟩ | ⟨hno, hq'⟩
  case' inr =>
    cases hq'
    refine mj_T.if0 (a := 0) rfl ⟨by decide, by decide⟩ (fun hc => ?_) (fun hc => ?_)
    · simp [jc] at hc
    iterate 2 refine mj_T.pl rfl rfl rfl rfl ?_
    refine mj_T.call (ins := .invokevirtual 198) rfl rfl (Nat.le_of_ble_eq_true rfl) (Nat.le_of_ble_eq_true rfl) (by simp [mj_recv, rS_f hs4]) rfl (mj_Ok.up (by decide) (rp_fails (D := 0) (c := 1) hs4)) (fun v' g5 hq' => ?_) (fun i h' hq' => by obtain ⟨_, _, h⟩ := hq'; cases h)
    obtain ⟨_, hs5, hq'⟩ := hq'
    cases hq'
    exact mj_T.ret rfl rfl rfl (Or.inr ⟨hno, 1, rfl, 0, g5, ⟨⟨by decide, by decide⟩, trivial⟩, rfl, ⟨_, N, B, X, V, hs5, K4.put ⟨by decide, by decide⟩ (by decide) (by decide) (by decide) (by decide) (by decide), jvu_at _ _ _⟩⟩)
  cases hq'
  refine mj_T.if0 (a := 1) rfl ⟨by decide, by decide⟩ (fun hc => ?_) (fun hc => ?_)
  rotate_left
  · simp [jc] at hc
  obtain ⟨x, rfl⟩ := Int.eq_ofNat_of_zero_le x1
  obtain ⟨y, rfl⟩ := Int.eq_ofNat_of_zero_le y3
  obtain ⟨z, rfl⟩ := Int.eq_ofNat_of_zero_le z5
  iterate 3 refine mj_T.pl rfl rfl rfl rfl ?_
  refine mj_T.call (ins := .invokevirtual 213) rfl rfl (Nat.le_of_ble_eq_true rfl) (Nat.le_of_ble_eq_true rfl) (by simp [mj_recv, rS_f hs4]) rfl (mj_Ok.up (by decide) (rp_loads (D := 0) (p := 0) (r := y) (by decide) (by omega) K4.nR hs4)) (fun v' g6 hq' => ?_) (fun i h' hq' => by obtain ⟨_, _, h⟩ := hq'; cases h)
  obtain ⟨_, hs6, hq'⟩ := hq'
  cases hq'
  have a6 : ∀ e, e < 13 → jfl V 0 (fun e => N (y * 13 + e)) 13 (0 * 13 + e) = N (y * 13 + e) := fun e he => jfl_at _ _ _ he
  have b6 : ∀ s, (s < 0 * 13 ∨ 0 * 13 + 13 ≤ s) → jfl V 0 (fun e => N (y * 13 + e)) 13 s = V s := fun s hc => jfl_off _ _ _ hc
  generalize jfl V 0 (fun e => N (y * 13 + e)) 13 = W6 at hs6 a6 b6
  iterate 3 refine mj_T.pl rfl rfl rfl rfl ?_
  refine mj_T.call (ins := .invokevirtual 213) rfl rfl (Nat.le_of_ble_eq_true rfl) (Nat.le_of_ble_eq_true rfl) (by simp [mj_recv, rS_f hs6]) rfl (mj_Ok.up (by decide) (rp_loads (D := 0) (p := 1) (r := z) (by decide) (by omega) K4.nR hs6)) (fun v' g7 hq' => ?_) (fun i h' hq' => by obtain ⟨_, _, h⟩ := hq'; cases h)
  obtain ⟨_, hs7, hq'⟩ := hq'
  cases hq'
  have a7 : ∀ e, e < 13 → jfl W6 1 (fun e => N (z * 13 + e)) 13 (1 * 13 + e) = N (z * 13 + e) := fun e he => jfl_at _ _ _ he
  have b7 : ∀ s, (s < 1 * 13 ∨ 1 * 13 + 13 ≤ s) → jfl W6 1 (fun e => N (z * 13 + e)) 13 s = W6 s := fun s hc => jfl_off _ _ _ hc
  generalize jfl W6 1 (fun e => N (z * 13 + e)) 13 = W7 at hs7 a7 b7
  have eA : jpo W7 0 = rwN N0 (y : Int) := funext fun e => by
    unfold jpo
    by_cases q : e < 13
    · rw [if_pos q, b7 _ (by omega), a6 e q]
      exact rwN_at K4.2.1 (by omega) q
    · rw [if_neg q]
      show 0 = if e < 13 then _ else 0
      rw [if_neg q]
  have eB : jpo W7 1 = rwN N0 (z : Int) := funext fun e => by
    unfold jpo
    by_cases q : e < 13
    · rw [if_pos q, a7 e q]
      exact rwN_at K4.2.1 (by omega) q
    · rw [if_neg q]
      show 0 = if e < 13 then _ else 0
      rw [if_neg q]
  have c1 : ∀ e, e < 13 → (W7 (0 * 13 + e)).natAbs ≤ 10 ^ 18 := fun e he => by
    rw [b7 _ (by omega), a6 e he]
    exact K4.sh (r := y) (by omega) he
  have c2 : ∀ e, e < 13 → (W7 (1 * 13 + e)).natAbs ≤ 10 ^ 18 := fun e he => by
    rw [a7 e he]
    exact K4.sh (r := z) (by omega) he
  have hl0 := jdg_le W7 0 13
  have hl1 := jdg_le W7 1 13
  have t62 : (jdg W7 0 13 - 1) * (jdg W7 1 13 - 1) ≤ 12 → mj_T 39 mj_m236 62 [some (.ref 0), some (.int (jn (x : Int))), some (.int (jn (y : Int))), some (.int (jn (z : Int))), none] [] g7 (RPc 2 (fun c => c = 1) tm er T N0 u0 H ((0 ≤ (x : Int) ∧ (x : Int) ≤ 5) ∧ (0 ≤ (y : Int) ∧ (y : Int) ≤ 5) ∧ (0 ≤ (z : Int) ∧ (z : Int) ≤ 5)) (hw (rwN N0 (y : Int)) (rwN N0 (z : Int)) 13) (x : Int)) := fun hd => by
    iterate 2 refine mj_T.pl rfl rfl rfl rfl ?_
    refine mj_T.call (ins := .invokevirtual 110) rfl rfl (Nat.le_of_ble_eq_true rfl) (Nat.le_of_ble_eq_true rfl) (by simp [mj_recv, rS_f hs7]) rfl (mj_Ok.up (by decide) (jp_empties (D := 0) (rG S4 N B T X) (p := 2) (by decide) hs7)) (fun v' g8 hq' => ?_) (fun i h' hq' => by obtain ⟨_, _, h⟩ := hq'; cases h)
    obtain ⟨_, hs8, hq'⟩ := hq'
    cases hq'
    have q1 : ∀ e, e < 13 → jfl W7 2 (fun _ => 0) 13 (2 * 13 + e) = 0 := fun e he => jfl_at _ _ _ he
    have q2 : ∀ s, (s < 26 ∨ 39 ≤ s) → jfl W7 2 (fun _ => 0) 13 s = W7 s := fun s hc => jfl_off _ _ _ (by omega)
    generalize jfl W7 2 (fun _ => 0) 13 = W8 at hs8 q1 q2
    have e0 : jdg W8 0 13 = jdg W7 0 13 := jdg_congr 13 fun e he => q2 _ (by omega)
    iterate 2 refine mj_T.pl rfl rfl rfl rfl ?_
    refine mj_T.call (ins := .invokevirtual 114) rfl rfl (Nat.le_of_ble_eq_true rfl) (Nat.le_of_ble_eq_true rfl) (by simp [mj_recv, rS_f hs8]) rfl (mj_Ok.up (by decide) (jp_degreeOf (D := 0) (rG S4 N B T X) (p := 0) (by decide) hs8)) (fun v' h' hq' => ?_) (fun i h' hq' => by cases hq')
    cases hq'
    rw [e0]
    refine mj_T.pl rfl rfl rfl rfl ?_
    exact ra_sb_loop (V0 := W7) ⟨⟨by omega, by omega⟩, ⟨by omega, by omega⟩, ⟨by omega, by omega⟩⟩ (by rw [eA, eB]) (by omega) K4 e4 c1 c2 hd (jdg W7 0 13) 0 _ _ (by omega) hs8 (fun j hj => q2 _ (by omega)) (fun e he => by rw [q1 e he]; exact Nat.zero_le _) (Or.inl ⟨rfl, by have := jdg_of_zero (W := W8) (p := 2) (d := 0) (k := 13) (fun e _ he => q1 e he); omega⟩) (fun e he => by rw [q1 e he]; exact (hw_low (d := jdg W7 0 13) (fun i hi => jpo_zb hi) _ (by omega) e).symm)
  iterate 2 refine mj_T.pl rfl rfl rfl rfl ?_
  refine mj_T.call (ins := .invokevirtual 114) rfl rfl (Nat.le_of_ble_eq_true rfl) (Nat.le_of_ble_eq_true rfl) (by simp [mj_recv, rS_f hs7]) rfl (mj_Ok.up (by decide) (jp_degreeOf (D := 0) (rG S4 N B T X) (p := 1) (by decide) hs7)) (fun v' h' hq' => ?_) (fun i h' hq' => by cases hq')
  cases hq'
  refine mj_T.if0 (a := (jdg W7 1 13 : Int) - 1) rfl ⟨by omega, by omega⟩ (fun hc => ?_) (fun hc => ?_)
  · simp only [jc, decide_eq_true_eq] at hc
    exact t62 (by rw [show jdg W7 1 13 - 1 = 0 by omega, Nat.mul_zero]; exact Nat.zero_le _)
  simp only [jc, decide_eq_false_iff_not] at hc
  iterate 2 refine mj_T.pl rfl rfl rfl rfl ?_
  refine mj_T.call (ins := .invokevirtual 114) rfl rfl (Nat.le_of_ble_eq_true rfl) (Nat.le_of_ble_eq_true rfl) (by simp [mj_recv, rS_f hs7]) rfl (mj_Ok.up (by decide) (jp_degreeOf (D := 0) (rG S4 N B T X) (p := 0) (by decide) hs7)) (fun v' h' hq' => ?_) (fun i h' hq' => by cases hq')
  cases hq'
  iterate 2 refine mj_T.pl rfl rfl rfl rfl ?_
  refine mj_T.call (ins := .invokevirtual 114) rfl rfl (Nat.le_of_ble_eq_true rfl) (Nat.le_of_ble_eq_true rfl) (by simp [mj_recv, rS_f hs7]) rfl (mj_Ok.up (by decide) (jp_degreeOf (D := 0) (rG S4 N B T X) (p := 1) (by decide) hs7)) (fun v' h' hq' => ?_) (fun i h' hq' => by cases hq')
  cases hq'
  refine mj_T.imul rfl ?_
  have e2 : (jdg W7 0 13 - 1) * (jdg W7 1 13 - 1) ≤ 12 * 12 := Nat.mul_le_mul (by omega) (by omega)
  have e3 : ((jdg W7 0 13 : Nat) : Int) - 1 = ((jdg W7 0 13 - 1 : Nat) : Int) ∨ jdg W7 0 13 = 0 := by omega
  have e4 : ((jdg W7 1 13 : Nat) : Int) - 1 = ((jdg W7 1 13 - 1 : Nat) : Int) := by omega
  have e5 : -12 ≤ (((jdg W7 0 13 : Nat) : Int) - 1) * (((jdg W7 1 13 : Nat) : Int) - 1) ∧ (((jdg W7 0 13 : Nat) : Int) - 1) * (((jdg W7 1 13 : Nat) : Int) - 1) ≤ 144 ∧ ((((jdg W7 0 13 : Nat) : Int) - 1) * (((jdg W7 1 13 : Nat) : Int) - 1) ≤ 12 → (jdg W7 0 13 - 1) * (jdg W7 1 13 - 1) ≤ 12) ∧ (12 < (((jdg W7 0 13 : Nat) : Int) - 1) * (((jdg W7 1 13 : Nat) : Int) - 1) → 12 < (jdg W7 0 13 - 1) * (jdg W7 1 13 - 1)) := by
    rcases e3 with e3 | e3
    · rw [e3, e4, ← Int.natCast_mul]
      omega
    · rw [e3]
      omega
  refine mj_T.pl rfl rfl rfl rfl ?_
  refine mj_T.icmp (a := (((jdg W7 0 13 : Nat) : Int) - 1) * (((jdg W7 1 13 : Nat) : Int) - 1)) (b := 12) rfl ⟨by omega, by omega⟩ ⟨by decide, by decide⟩ (fun hc2 => ?_) (fun hc2 => ?_)
  · simp only [jc, decide_eq_true_eq] at hc2
    exact t62 (e5.2.2.1 hc2)
  iterate 2 refine mj_T.pl rfl rfl rfl rfl ?_
  refine mj_T.call (ins := .invokevirtual 198) rfl rfl (Nat.le_of_ble_eq_true rfl) (Nat.le_of_ble_eq_true rfl) (by simp [mj_recv, rS_f hs7]) rfl (mj_Ok.up (by decide) (rp_fails (D := 0) (c := 2) hs7)) (fun v' g9 hq' => ?_) (fun i h' hq' => by obtain ⟨_, _, h⟩ := hq'; cases h)
  obtain ⟨_, hs9, hq'⟩ := hq'
  cases hq'
  have hbad := hw_nofit (V := W7) (e5.2.2.2 (by simp only [jc, decide_eq_false_iff_not] at hc2; omega))
  rw [eA, eB] at hbad
  exact mj_T.ret rfl rfl rfl (Or.inl ⟨⟨⟨by omega, by omega⟩, ⟨by omega, by omega⟩, ⟨by omega, by omega⟩⟩, Or.inr ⟨hbad, 0, g9, ⟨⟨by decide, by decide⟩, trivial⟩, rfl, ⟨_, N, B, X, W7, hs9, K4.put ⟨by decide, by decide⟩ (by decide) (by decide) (by decide) (by decide) (by decide), jvu_at _ _ _⟩⟩⟩)
end RAS
