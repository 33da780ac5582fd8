/-! The reference, exactly: a state kept, a polynomial laid into a register. -/
section RKX
variable {S N B T X V : Nat → Int} {h : mj_H} {D : Nat} {tm er : Int} {N0 : Nat → Int} {u0 : Nat} {H : Nat → Nat → Int}
theorem rx_keeps (K : jKx N0 u0 H tm er S N B T) (hs : rS S N B T X V h) : mj_Ok (D + 1) 227 [.ref 0] h (fun z => ∃ (S' B' : Nat → Int) (h' : mj_H), rS S' N B' T X V h' ∧ jKx N0 (upu u0) (pushH N0 H) tm er S' N B' T ∧ S' 3 = S 3 ∧ z = (.inl none, h')) := by
  obtain ⟨⟨k1, k2, k3, k4, k5, k6, k7, k8, k9⟩, kn, ku, kh⟩ := K
  have fin : ∀ (c : Nat) (B1 : Nat → Int) (h1 : mj_H), c ≤ 7 → rS (jvu S 2 c) N B1 T X V h1 → (∀ k : Nat, k < c → gN (fun j => B1 (k * 91 + j))) → (c + 1 = upu u0 ∧ ∀ k : Nat, k < c → ∀ j, j < 91 → B1 ((c - 1 - k) * 91 + j) = H k j) → mj_T D mj_m227 36 [some (.ref 0)] [] h1 (fun z => ∃ (S' B' : Nat → Int) (h' : mj_H), rS S' N B' T X V h' ∧ jKx N0 (upu u0) (pushH N0 H) tm er S' N B' T ∧ S' 3 = S 3 ∧ z = (.inl none, h')) := by
    intro c B1 h1 hc hs1 g1 hh
    refine mj_T.pl rfl rfl rfl rfl ?_
    refine rT_get hs1 rfl rfl ?_
    iterate 2 refine mj_T.pl rfl rfl rfl rfl ?_
    refine rT_get hs1 rfl rfl ?_
    refine mj_T.pl rfl rfl rfl rfl ?_
    refine rT_get (v := .int (jn (c : Int))) hs1 rfl (by rw [← jvu_at S 2 (c : Int)]; rfl) ?_
    refine mj_T.pl rfl rfl rfl rfl ?_
    refine mj_T.imul (a := (c : Int)) (b := 91) rfl ?_
    rw [show (c : Int) * 91 = ((c * 91 : Nat) : Int) by omega]
    refine mj_T.pl rfl rfl rfl rfl ?_
    refine rT_cpy (s := 0) (d := c * 91) (m := 91) (f := N) (g := B1) rfl rfl (rS_N hs1) (rS_B hs1) (by decide) (by omega) ⟨by decide, by omega, by decide⟩ (Nat.le_of_ble_eq_true rfl) ?_
    have hs2 := rS_setB (va_cpy N B1 0 (c * 91) 91) hs1
    generalize h1.set 2 _ = h2 at hs2
    iterate 2 refine mj_T.pl rfl rfl rfl rfl ?_
    refine rT_get (v := .int (jn (c : Int))) hs2 rfl (by rw [← jvu_at S 2 (c : Int)]; rfl) ?_
    refine mj_T.pl rfl rfl rfl rfl ?_
    refine mj_T.iadd (a := (c : Int)) (b := 1) rfl ?_
    rw [show (c : Int) + 1 = ((c + 1 : Nat) : Int) by omega]
    refine rT_put (v := ((c + 1 : Nat) : Int)) hs2 rfl rfl (by decide) rfl (fun h3 hs3 => ?_)
    rw [jvu_jvu] at hs3
    have e : ∀ x, x ≠ 2 → jvu S 2 ((c + 1 : Nat) : Int) x = S x := fun x hx => jvu_ne _ _ _ hx
    refine mj_T.ret rfl rfl rfl ⟨_, _, h3, hs3, ⟨⟨k1, ?_, fun k hk => ?_, by rw [e 9 (by decide)]; exact k4, by rw [e 12 (by decide)]; exact k5, by rw [e 15 (by decide)]; exact k6, fun x => ?_, by rw [e 13 (by decide)]; exact k8, k9⟩, kn, ?_, ?_⟩, e 3 (by decide), rfl⟩
    · rw [jvu_at]
      omega
    · rw [jvu_at] at hk
      by_cases q : k = c
      · subst q
        refine gN_congr (N := N) (fun j hj => ?_) k1
        show va_cpy N B1 0 (k * 91) 91 (k * 91 + j) = N j
        unfold va_cpy
        rw [if_pos (by omega), show 0 + (k * 91 + j - k * 91) = j by omega]
      · refine gN_congr (fun j hj => ?_) (g1 k (by omega))
        show va_cpy N B1 0 (c * 91) 91 (k * 91 + j) = B1 (k * 91 + j)
        unfold va_cpy
        rw [if_neg (by omega)]
    · by_cases q : x = 2
      · subst q
        rw [jvu_at]
        exact ⟨by omega, by omega⟩
      · rw [e x q]
        exact k7 x
    · rw [jvu_at, hh.1]
    · intro k hk j hj
      rw [← hh.1] at hk ⊢
      cases k with
      | zero =>
        show va_cpy N B1 0 (c * 91) 91 ((c + 1 - 1 - 0) * 91 + j) = N0 j
        unfold va_cpy
        rw [if_pos (by omega), show 0 + ((c + 1 - 1 - 0) * 91 + j - c * 91) = j by omega]
        exact kn j hj
      | succ k =>
        show va_cpy N B1 0 (c * 91) 91 ((c + 1 - 1 - (k + 1)) * 91 + j) = H k j
        unfold va_cpy
        rw [if_neg (by omega), show (c + 1 - 1 - (k + 1)) * 91 + j = (c - 1 - k) * 91 + j by omega]
        exact hh.2 k (by omega) j hj
  refine mj_Ok.of (M := mj_m227) rfl rfl rfl ?_
  refine mj_T.pl rfl rfl rfl rfl ?_
  refine rT_get hs rfl rfl ?_
  refine mj_T.pl rfl rfl rfl rfl ?_
  refine mj_T.icmp (a := S 2) (b := 8) rfl (k7 2) ⟨by decide, by decide⟩ (fun hc => ?_) (fun hc => ?_)
  · simp only [jc, Bool.not_eq_true', decide_eq_false_iff_not] at hc
    obtain ⟨c, hc2⟩ := Int.eq_ofNat_of_zero_le k2.1
    have hc3 : S 2 = ((c : Nat) : Int) := hc2
    have es : jvu S 2 ((c : Nat) : Int) = S := funext fun x => by
      unfold jvu
      split
      · rename_i q
        rw [q, hc3]
      · rfl
    exact fin c B h (by omega) (by rw [es]; exact hs) (fun k hk => k3 k (by omega)) ⟨by unfold upu; rw [if_pos (by omega)]; omega, fun k hk j hj => by
      rw [show (c - 1 - k) = (u0 - 1 - k) by omega]
      exact kh k (by omega) j hj⟩
  · simp only [jc, Bool.not_eq_false', decide_eq_true_eq] at hc
    refine mj_T.pl rfl rfl rfl rfl ?_
    refine rT_get hs rfl rfl ?_
    iterate 2 refine mj_T.pl rfl rfl rfl rfl ?_
    refine rT_get hs rfl rfl ?_
    iterate 2 refine mj_T.pl rfl rfl rfl rfl ?_
    refine rT_cpy (s := 91) (d := 0) (m := 637) (f := B) (g := B) rfl rfl (rS_B hs) (rS_B hs) (by decide) (by decide) ⟨by decide, by decide, by decide⟩ (Nat.le_of_ble_eq_true rfl) ?_
    have hs2 := rS_setB (va_cpy B B 91 0 637) hs
    generalize h.set 2 _ = h2 at hs2
    iterate 2 refine mj_T.pl rfl rfl rfl rfl ?_
    refine rT_get hs2 rfl rfl ?_
    refine mj_T.pl rfl rfl rfl rfl ?_
    refine mj_T.isub (a := S 2) (b := 1) rfl ?_
    rw [hc, show (8 : Int) - 1 = ((7 : Nat) : Int) by decide]
    refine rT_put (v := ((7 : Nat) : Int)) hs2 rfl rfl (by decide) rfl (fun h3 hs3 => ?_)
    refine fin 7 _ h3 (by decide) hs3 (fun k hk => ?_) ⟨by unfold upu; rw [if_neg (by omega)], fun k hk j hj => ?_⟩
    rotate_left
    · show va_cpy B B 91 0 637 ((7 - 1 - k) * 91 + j) = H k j
      unfold va_cpy
      rw [if_pos (by omega), show 91 + ((7 - 1 - k) * 91 + j - 0) = (u0 - 1 - k) * 91 + j by omega]
      exact kh k (by omega) j hj
    refine gN_congr (fun j hj => ?_) (k3 (k + 1) (by omega))
    show va_cpy B B 91 0 637 (k * 91 + j) = B ((k + 1) * 91 + j)
    unfold va_cpy
    rw [if_pos (by omega), show 91 + (k * 91 + j - 0) = (k + 1) * 91 + j by omega]
theorem jKx.row {N' N1 : Nat → Int} (K : jKx N0 u0 H tm er S N B T) (g : gN N') (e : ∀ j, j < 91 → N' j = N1 j) : jKx N1 u0 H tm er S N' B T := ⟨K.1.row g, e, K.2.2⟩
theorem jfl_cg {N N0 : Nat → Int} (h : ∀ j, j < 91 → N j = N0 j) (r : Nat) (w : Nat → Int) : ∀ j, j < 91 → jfl N r w 13 j = jfl N0 r w 13 j := fun j hj => by
  unfold jfl
  split
  · rfl
  · exact h j hj
/-- a polynomial is laid into a register, or it is too great and nothing changes -/
def rOx (tm er : Int) (T : Nat → Int) (N0 : Nat → Int) (u0 : Nat) (H : Nat → Nat → Int) (r : Nat) (w : Nat → Int) (z : mj_R) : Prop := (sml w ∧ rIx (jfl N0 r w 13) (upu u0) (pushH N0 H) tm er T z) ∨ (¬ sml w ∧ rIx N0 u0 H tm er T z)
theorem jib_no {V : Nat → Int} {p : Nat} : ∀ k, jib V p k = 0 → ¬ ∀ e, e < k → jnl (V (p * 13 + e)).natAbs ≤ 2
  | 0, h, _ => absurd h (by unfold jib; decide)
  | k + 1, h, q => by
    unfold jib at h
    split at h
    · rename_i y
      exact jib_no k y (fun e he => q e (by omega))
    · rw [if_pos (q k (by omega))] at h
      omega
theorem rx_puts {r p : Nat} {c : Int} (hr : r ≤ 5) (hp : p ≤ 50) (hc : jr c) (K : jKx N0 u0 H tm er S N B T) (hs : rS S N B T X V h) : mj_Ok (D + 5) 229 [.ref 0, .int (jn (r : Nat)), .int (jn (p : Nat)), .int (jn c)] h (rOx tm er T N0 u0 H r (fun e => V (p * 13 + e))) := by
  have hd := jdg_le V p 13
  refine mj_Ok.of (M := mj_m229) rfl rfl rfl ?_
  iterate 2 refine mj_T.pl rfl rfl rfl rfl ?_
  refine mj_T.call (ins := .invokevirtual 195) rfl rfl (Nat.le_of_ble_eq_true rfl) (Nat.le_of_ble_eq_true rfl) (by simp [mj_recv, rS_f hs]) rfl (jp_isInBounds (D := D + 2) (rG S N B T X) (p := p) hp (fun e he => jS_700 hs (by omega)) hs) (fun v' h' hq' => ?_) (fun i h' hq' => by cases hq')
  cases hq'
  have hb := jib_le V p 13
  refine mj_T.if0 (a := ((jib V p 13 : Nat) : Int)) rfl ⟨by omega, by omega⟩ (fun hc1 => ?_) (fun hc1 => ?_)
  · simp only [jc, Bool.not_eq_true', decide_eq_false_iff_not] at hc1
    have h2 := jib_one (V := V) (p := p) 13 (by omega)
    have h3 : ∀ e, e < 13 → -999999999999999999 ≤ V (p * 13 + e) ∧ V (p * 13 + e) ≤ 999999999999999999 := fun e he => by
      have k1 := jnl_le_lt.mp (h2 e he)
      rw [show jB ^ 2 = 1000000000000000000 from rfl] at k1
      omega
    refine mj_T.pl rfl rfl rfl rfl ?_
    refine mj_T.call (ins := .invokevirtual 201) rfl rfl (Nat.le_of_ble_eq_true rfl) (Nat.le_of_ble_eq_true rfl) (by simp [mj_recv, rS_f hs]) rfl (rx_keeps (D := D + 3) K hs) (fun v' h1 hq' => ?_) (fun i h' hq' => by obtain ⟨_, _, _, _, _, _, h⟩ := hq'; cases h)
    obtain ⟨S', B', _, hs1, K1, k1, hq'⟩ := hq'
    cases hq'
    iterate 3 refine mj_T.pl rfl rfl rfl rfl ?_
    refine mj_T.call (ins := .invokevirtual 204) rfl rfl (Nat.le_of_ble_eq_true rfl) (Nat.le_of_ble_eq_true rfl) (by simp [mj_recv, rS_f hs1]) rfl (rp_stores (D := D) (p := p) (r := r) hp hr hs1) (fun v' h2 hq' => ?_) (fun i h' hq' => by obtain ⟨_, _, h⟩ := hq'; cases h)
    obtain ⟨_, hs2, hq'⟩ := hq'
    cases hq'
    iterate 2 refine mj_T.pl rfl rfl rfl rfl ?_
    refine mj_T.call (ins := .invokevirtual 114) rfl rfl (Nat.le_of_ble_eq_true rfl) (Nat.le_of_ble_eq_true rfl) (by simp [mj_recv, rS_f hs2]) rfl (jp_degreeOf (D := D + 2) (rG S' (jfl N r (fun e => V (p * 13 + e)) 13) B' T X) (p := p) hp hs2) (fun v' h' hq' => ?_) (fun i h' hq' => by cases hq')
    cases hq'
    exact mj_T.ret rfl rfl rfl (Or.inl ⟨fun e he => by have := h3 e he; show (V (p * 13 + e)).natAbs ≤ 999999999999999999; omega, _, h2, ⟨by omega, by omega⟩, rfl, ⟨S', _, B', X, V, hs2, K1.row (gN_row K.1.1 hr h3) (jfl_cg K.2.1 r _)⟩⟩)
  simp only [jc, Bool.not_eq_false', decide_eq_true_eq] at hc1
  have hno : ¬ sml (fun e => V (p * 13 + e)) := fun q => jib_no (V := V) (p := p) 13 (by omega) (fun e he => jnl_two.mpr (q e he))
  iterate 2 refine mj_T.pl rfl rfl rfl rfl ?_
  refine mj_T.call (ins := .invokevirtual 198) rfl rfl (Nat.le_of_ble_eq_true rfl) (Nat.le_of_ble_eq_true rfl) (by simp [mj_recv, rS_f hs]) rfl (rp_fails (D := D + 3) (c := c) hs) (fun v' h1 hq' => ?_) (fun i h' hq' => by obtain ⟨_, _, h⟩ := hq'; cases h)
  obtain ⟨_, hs1, hq'⟩ := hq'
  cases hq'
  exact mj_T.ret rfl rfl rfl (Or.inr ⟨hno, 0, h1, ⟨by decide, by decide⟩, rfl, ⟨_, N, B, X, V, hs1, K.put hc (by decide) (by decide) (by decide) (by decide) (by decide)⟩⟩)
end RKX
