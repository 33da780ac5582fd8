/-! The reference works a text out. -/
theorem w9 {S : Nat → Int} {y : Int} {tm : Nat} (h9 : S 9 = (tm : Int)) : jvu S 13 y 9 = (tm : Int) := by rw [jvu_ne _ _ _ (by decide), h9]
theorem st3_13 (S : Nat → Int) (a o e y z : Int) : jvu (st3 (jvu S 13 y) a o e) 13 z = st3 (jvu S 13 z) a o e := funext fun x => by
  unfold st3 jvu
  (repeat' split) <;> omega
theorem st3_g13 {S : Nat → Int} {a o e y : Int} : (rF (st3 (jvu S 13 y) a o e))[13]? = some (.int (jn y)) := rfl
def wkPost (S N B T X V0 : Nat → Int) (tm : Nat) (o e : Int) (p b : Nat) (r : mj_R) : Prop := ∃ (V2 : Nat → Int) (a2 : Nat) (y : Int) (h2 : mj_H), rS (st3 (jvu S 13 y) (a2 : Int) o e) N B T X V2 h2 ∧ a2 ≤ tm ∧ (∀ s, 299 ≤ s → s < p * 13 → V2 s = V0 s) ∧ ((y = 0 ∧ a2 = b ∧ (∀ x, x < 13 → (V2 (p * 13 + x)).natAbs ≤ 10 ^ 18)) ∨ y = 1) ∧ r = (.inl none, h2)
section RWK
variable {S N B T X V : Nat → Int} {h : mj_H} {D tm : Nat} {o e : Int}
theorem wk_bounds {a p : Nat} (hp : p ≤ 50) (hs : rS (st3 (jvu S 13 0) (a : Int) o e) N B T X V h) : mj_Ok (D + 3) 297 [.ref 0, .int (jn (p : Nat))] h (fun r => ∃ (y : Int) (h2 : mj_H), rS (st3 (jvu S 13 y) (a : Int) o e) N B T X V h2 ∧ ((y = 0 ∧ (∀ x, x < 13 → (V (p * 13 + x)).natAbs ≤ 10 ^ 18)) ∨ y = 1) ∧ r = (.inl none, h2)) := by
  refine mj_Ok.of (M := mj_m297) rfl rfl rfl ?_
  iterate 2 refine mj_T.pl rfl rfl rfl rfl ?_
  refine rT_get hs rfl st3_g13 ?_
  refine mj_T.if0 (a := 0) rfl ⟨by decide, by decide⟩ (fun hc => ?_) (fun hc => ?_)
  · simp [jc] at hc
  iterate 2 refine mj_T.pl rfl rfl rfl rfl ?_
  refine mj_T.call (ins := .invokevirtual 195) rfl rfl (Nat.le_of_ble_eq_true rfl) (Nat.le_of_ble_eq_true rfl) (by simp [mj_recv, rS_f hs]) rfl (mj_Ok.up (by omega) (jp_isInBounds (D := 0) (rG (st3 (jvu S 13 0) (a : Int) o e) N B T X) (p := p) hp (fun x hx => jS_700 hs (by omega)) hs)) (fun v' h' hq' => ?_) (fun i h' hq' => by cases hq')
  cases hq'
  have hb := jib_le V p 13
  refine mj_T.if0 (a := ((jib V p 13 : Nat) : Int)) rfl ⟨by omega, by omega⟩ (fun hc => ?_) (fun hc => ?_)
  · simp only [jc, Bool.not_eq_true', decide_eq_false_iff_not] at hc
    have hsh := jib_short (V := V) (p := p) (by omega)
    refine mj_T.pl rfl rfl rfl rfl ?_
    refine rT_put (v := 0) hs rfl rfl (by decide) rfl (fun h1 hs1 => ?_)
    rw [st3_13] at hs1
    exact mj_T.ret rfl rfl rfl ⟨0, h1, hs1, Or.inl ⟨rfl, fun x hx => jR_of_short (hsh x hx)⟩, rfl⟩
  · iterate 2 refine mj_T.pl rfl rfl rfl rfl ?_
    refine rT_put (v := 1) hs rfl rfl (by decide) rfl (fun h1 hs1 => ?_)
    rw [st3_13] at hs1
    exact mj_T.ret rfl rfl rfl ⟨1, h1, hs1, Or.inr rfl, rfl⟩
theorem wk_num_loop (h9 : S 9 = (tm : Int)) (ht : tm ≤ 200) (hT : ∀ j : Nat, j < tm → 1 ≤ T j ∧ T j ≤ 255) {s : Nat} {Q : mj_R → Prop} :
    ∀ (n k : Nat) (h : mj_H), s + k + n = tm → rS (st3 (jvu S 13 0) ((s + k : Nat) : Int) o e) N B T X V h → (∀ (k2 : Nat) (h2 : mj_H), s + k2 = rdg T n (s + k) → rS (st3 (jvu S 13 0) ((s + k2 : Nat) : Int) o e) N B T X V h2 → Q (.inl (some (.long (jl (rvl T s k2)))), h2)) → mj_T (D + 1) mj_m298 6 [some (.ref 0), some (.long (jl (rvl T s k))), none] [] h Q := by
  intro n
  induction n with
  | zero =>
    intro k h hk hs hend
    refine mj_T.pl rfl rfl rfl rfl ?_
    refine rT_get hs rfl st3_g10 ?_
    refine mj_T.pl rfl rfl rfl rfl ?_
    refine rT_get hs rfl (st3_g9 (w9 h9)) ?_
    refine mj_T.icmp (a := ((s + k : Nat) : Int)) (b := (tm : Int)) rfl ⟨by omega, by omega⟩ ⟨by omega, by omega⟩ (fun hc => ?_) (fun hc => ?_)
    · refine mj_T.pl rfl rfl rfl rfl ?_
      exact mj_T.ret rfl rfl rfl (hend k h rfl hs)
    · simp only [jc, decide_eq_false_iff_not] at hc
      omega
  | succ n ih =>
    intro k h hk hs hend
    have hTa := hT (s + k) (by omega)
    refine mj_T.pl rfl rfl rfl rfl ?_
    refine rT_get hs rfl st3_g10 ?_
    refine mj_T.pl rfl rfl rfl rfl ?_
    refine rT_get hs rfl (st3_g9 (w9 h9)) ?_
    refine mj_T.icmp (a := ((s + k : Nat) : Int)) (b := (tm : Int)) rfl ⟨by omega, by omega⟩ ⟨by omega, by omega⟩ (fun hc => ?_) (fun hc => ?_)
    · simp only [jc, decide_eq_true_eq] at hc
      omega
    refine mj_T.pl rfl rfl rfl rfl ?_
    refine rT_get hs rfl rfl ?_
    refine mj_T.pl rfl rfl rfl rfl ?_
    refine rT_get hs rfl st3_g10 ?_
    refine rT_ldT hs rfl ⟨by omega, by omega⟩ ?_
    rw [Int.toNat_natCast]
    refine mj_T.call (ins := .invokestatic 363) rfl rfl (Nat.le_of_ble_eq_true rfl) (Nat.le_of_ble_eq_true rfl) rfl rfl (mj_Ok.up (by omega) (rd_isDigit (D := 0) (v := T (s + k)) ⟨by omega, by omega⟩)) (fun v' h' hq' => ?_) (fun i h' hq' => by rcases hq' with ⟨_, h⟩ | ⟨_, h⟩ <;> cases h)
    rcases hq' with ⟨hd, hq'⟩ | ⟨hd, hq'⟩
    · cases hq'
      rw [show rdg T (n + 1) (s + k) = rdg T n (s + k + 1) from if_pos hd] at hend
      refine mj_T.if0 (a := 1) rfl ⟨by decide, by decide⟩ (fun hc2 => ?_) (fun hc2 => ?_)
      · simp [jc] at hc2
      iterate 2 refine mj_T.pl rfl rfl rfl rfl ?_
      refine mj_T.lmul (a := 10) rfl ?_
      refine mj_T.pl rfl rfl rfl rfl ?_
      refine rT_get hs rfl rfl ?_
      refine mj_T.pl rfl rfl rfl rfl ?_
      refine rT_get hs rfl st3_g10 ?_
      refine rT_ldT hs rfl ⟨by omega, by omega⟩ ?_
      rw [Int.toNat_natCast]
      refine mj_T.i2l rfl ⟨by omega, by omega⟩ ?_
      refine mj_T.ladd rfl ?_
      refine mj_T.pl rfl rfl rfl rfl ?_
      refine mj_T.lsub (b := 48) rfl ?_
      refine mj_T.pl rfl rfl rfl rfl ?_
      iterate 2 refine mj_T.pl rfl rfl rfl rfl ?_
      refine rT_get hs rfl st3_g10 ?_
      refine mj_T.pl rfl rfl rfl rfl ?_
      refine mj_T.iadd (a := ((s + k : Nat) : Int)) (b := 1) rfl ?_
      rw [show ((s + k : Nat) : Int) + 1 = ((s + (k + 1) : Nat) : Int) by omega]
      refine rT_put (v := ((s + (k + 1) : Nat) : Int)) hs rfl rfl (by decide) rfl (fun h1 hs1 => ?_)
      rw [st3_10] at hs1
      refine mj_T.pl rfl rfl rfl rfl ?_
      exact ih (k + 1) h1 (by omega) hs1 hend
    · cases hq'
      rw [show rdg T (n + 1) (s + k) = s + k from if_neg hd] at hend
      refine mj_T.if0 (a := 0) rfl ⟨by decide, by decide⟩ (fun hc2 => ?_) (fun hc2 => ?_)
      · refine mj_T.pl rfl rfl rfl rfl ?_
        exact mj_T.ret rfl rfl rfl (hend k h rfl hs)
      · simp [jc] at hc2
theorem wk_number (h9 : S 9 = (tm : Int)) (ht : tm ≤ 200) (hT : ∀ j : Nat, j < tm → 1 ≤ T j ∧ T j ≤ 255) {a : Nat} (ha : a ≤ tm) (hs : rS (st3 (jvu S 13 0) (a : Int) o e) N B T X V h) : mj_Ok (D + 2) 298 [.ref 0] h (fun r => ∃ (k : Nat) (h2 : mj_H), (rskp T tm a + k = rdgp T tm (rskp T tm a) ∧ rskp T tm a + k ≤ tm) ∧ rS (st3 (jvu S 13 0) ((rskp T tm a + k : Nat) : Int) o e) N B T X V h2 ∧ r = (.inl (some (.long (jl (rvl T (rskp T tm a) k)))), h2)) := by
  refine mj_Ok.of (M := mj_m298) rfl rfl rfl ?_
  have hle := rskp_le (T := T) ha
  refine mj_T.pl rfl rfl rfl rfl ?_
  refine mj_T.call (ins := .invokevirtual 348) rfl rfl (Nat.le_of_ble_eq_true rfl) (Nat.le_of_ble_eq_true rfl) (by simp [mj_recv, rS_f hs]) rfl (mj_Ok.up (by omega) (rd_skips (D := 0) (S := jvu S 13 0) (w9 h9) ht hT ha hs)) (fun v' h1 hq' => ?_) (fun i h' hq' => by obtain ⟨_, _, h⟩ := hq'; cases h)
  obtain ⟨_, hs1, hq'⟩ := hq'
  cases hq'
  obtain ⟨s, hsdef⟩ : ∃ s, rskp T tm a = s := ⟨_, rfl⟩
  rw [hsdef] at hs1 hle ⊢
  iterate 2 refine mj_T.pl rfl rfl rfl rfl ?_
  refine wk_num_loop (D := D) h9 ht hT (tm - s) 0 h1 (by omega) hs1 (fun k h2 hk hs2 => ?_)
  have hdl := rdg_le (T := T) (tm - s) (s + 0)
  exact ⟨k, h2, ⟨hk, by omega⟩, hs2, rfl⟩
theorem wk_tail (h9 : S 9 = (tm : Int)) (ht : tm ≤ 200) (hT : ∀ j : Nat, j < tm → 1 ≤ T j ∧ T j ≤ 255) {E c p b : Nat} {l2 : Option Value} (hE : 8 ≤ E) (hp1 : 23 ≤ p) (hp2 : p ≤ 49) (hc : c ≤ tm) (hr : rex T tm c = (true, b)) {V0 : Nat → Int} (hfr : ∀ s, 299 ≤ s → s < p * 13 → V s = V0 s) (hb : (∀ x, x < 13 → (V (p * 13 + x)).natAbs ≤ 10 ^ 18)) (hs : rS (st3 (jvu S 13 0) (c : Int) o e) N B T X V h) : mj_T E mj_m301 121 [some (.ref 0), some (.int (jn (p : Nat))), l2] [] h (wkPost S N B T X V0 tm o e p b) := by
  have hle := rskp_le (T := T) hc
  iterate 2 refine mj_T.pl rfl rfl rfl rfl ?_
  refine mj_T.call (ins := .invokevirtual 354) rfl rfl (Nat.le_of_ble_eq_true rfl) (Nat.le_of_ble_eq_true rfl) (by simp [mj_recv, rS_f hs]) rfl (mj_Ok.up (by omega) (rd_takes (D := 0) (S := jvu S 13 0) (c := 94) ⟨by decide, by decide⟩ (w9 h9) ht hT hc hs)) (fun v' h1 hq' => ?_) (fun i h' hq' => by rcases hq' with ⟨_, _, _, _, h⟩ | ⟨_, _, _, h⟩ <;> cases h)
  rcases hq' with ⟨c2, _, ⟨b1, b2, b3⟩, hs1, hq'⟩ | ⟨_, b1, hs1, hq'⟩
  rotate_left
  · cases hq'
    have ee : b = rskp T tm c := by
      unfold rex at hr
      simp only [b1] at hr
      cases hr
      rfl
    refine mj_T.if0 (a := 0) rfl ⟨by decide, by decide⟩ (fun hc => ?_) (fun hc => ?_)
    · simp [jc] at hc
    exact mj_T.ret rfl rfl rfl ⟨V, _, 0, h1, hs1, hle, hfr, Or.inl ⟨rfl, ee.symm, hb⟩, rfl⟩
  cases hq'
  have hnm : rnm T tm 12 c2 = (true, b) := by
    unfold rex at hr
    simp only [b1] at hr
    exact hr
  refine mj_T.if0 (a := 1) rfl ⟨by decide, by decide⟩ (fun hc => ?_) (fun hc => ?_)
  rotate_left
  · simp [jc] at hc
  iterate 3 refine mj_T.pl rfl rfl rfl rfl ?_
  refine mj_T.call (ins := .invokevirtual 124) rfl rfl (Nat.le_of_ble_eq_true rfl) (Nat.le_of_ble_eq_true rfl) (by simp [mj_recv, rS_f hs1]) rfl (mj_Ok.up (by omega) (jp_copiesPoly (D := 0) (rG (st3 (jvu S 13 0) (c2 : Int) o e) N B T X) (p := 0) (q := p) (by decide) (by omega) (by omega) hs1)) (fun v' h2 hq' => ?_) (fun i h' hq' => by obtain ⟨_, _, h⟩ := hq'; cases h)
  obtain ⟨_, hs2, hq'⟩ := hq'
  cases hq'
  have q1 : ∀ x, x < 13 → jfl V 0 (fun x => V (p * 13 + x)) 13 (0 * 13 + x) = V (p * 13 + x) := fun x hx => jfl_at _ 0 _ hx
  have q2 : ∀ s, 13 ≤ s → jfl V 0 (fun x => V (p * 13 + x)) 13 s = V s := fun s hx => jfl_off _ 0 _ (by omega)
  generalize jfl V 0 (fun x => V (p * 13 + x)) 13 = W2 at hs2 q1 q2
  iterate 5 refine mj_T.pl rfl rfl rfl rfl ?_
  refine mj_T.call (ins := .invokevirtual 389) rfl rfl (Nat.le_of_ble_eq_true rfl) (Nat.le_of_ble_eq_true rfl) (by simp [mj_recv, rS_f hs2]) rfl (mj_Ok.up (by omega) (wk_number (D := 0) h9 ht hT b2 hs2)) (fun v' h3 hq' => ?_) (fun i h' hq' => by obtain ⟨_, _, _, _, h⟩ := hq'; cases h)
  obtain ⟨k, _, ⟨k1, k2⟩, hs3, hq'⟩ := hq'
  cases hq'
  have hin : ∀ j, rskp T tm c2 ≤ j → j < rskp T tm c2 + k → 48 ≤ T j ∧ T j ≤ 57 := fun j j1 j2 => rdg_in (T := T) (tm - rskp T tm c2) (rskp T tm c2) j j1 (by show j < rdgp T tm (rskp T tm c2); omega)
  have hbd := rvl_bd (T := T) (s := rskp T tm c2) k hin
  unfold rnm at hnm
  rw [← k1, Nat.add_sub_cancel_left] at hnm
  split at hnm
  rotate_left
  · cases hnm
  rename_i hq
  cases hnm
  obtain ⟨n, hn⟩ := Int.eq_ofNat_of_zero_le hbd.1
  have hn12 : n ≤ 12 := by have := hq.2; omega
  refine mj_T.l2i rfl ?_
  rw [hn]
  refine mj_T.call (ins := .invokevirtual 229) rfl rfl (Nat.le_of_ble_eq_true rfl) (Nat.le_of_ble_eq_true rfl) (by simp [mj_recv, rS_f hs3]) rfl (mj_Ok.up (by omega) (jp_raises (D := 0) (rG (st3 (jvu S 13 0) ((rskp T tm c2 + k : Nat) : Int) o e) N B T X) (p := p) (a := 0) (al := 10 ^ 18) (n := n) (by omega) (by omega) (by decide) (by decide) (by omega) (by decide) (fun x hx => by rw [q1 x hx]; exact hb x hx) hn12 rp_small3 hs3)) (fun v' h4 hq' => ?_) (fun i h' hq' => by obtain ⟨_, _, _, _, ⟨h, _⟩ | ⟨h, _⟩⟩ := hq' <;> cases h)
  obtain ⟨W4, _, hs4, f4, ⟨hq', _⟩ | ⟨hq', _⟩⟩ := hq'
  · cases hq'
    refine mj_T.if0 (a := 0) rfl ⟨by decide, by decide⟩ (fun hc => ?_) (fun hc => ?_)
    · simp [jc] at hc
    iterate 2 refine mj_T.pl rfl rfl rfl rfl ?_
    refine rT_put (v := 1) hs4 rfl rfl (by decide) rfl (fun h5 hs5 => ?_)
    rw [st3_13] at hs5
    refine mj_T.pl rfl rfl rfl rfl ?_
    refine rT_get hs5 rfl st3_g13 ?_
    refine mj_T.if0 (a := 1) rfl ⟨by decide, by decide⟩ (fun hc => ?_) (fun hc => ?_)
    · exact mj_T.ret rfl rfl rfl ⟨W4, _, 1, h5, hs5, k2, fun s s1 s2 => by rw [f4 s (by omega) (by omega) (by omega), q2 s (by omega), hfr s s1 s2], Or.inr rfl, rfl⟩
    · simp [jc] at hc
  · cases hq'
    refine mj_T.if0 (a := 1) rfl ⟨by decide, by decide⟩ (fun hc => ?_) (fun hc => ?_)
    rotate_left
    · simp [jc] at hc
    refine mj_T.pl rfl rfl rfl rfl ?_
    refine rT_put (v := 0) hs4 rfl rfl (by decide) rfl (fun h5 hs5 => ?_)
    rw [st3_13] at hs5
    refine mj_T.pl rfl rfl rfl rfl ?_
    refine rT_get hs5 rfl st3_g13 ?_
    refine mj_T.if0 (a := 0) rfl ⟨by decide, by decide⟩ (fun hc => ?_) (fun hc => ?_)
    · simp [jc] at hc
    iterate 2 refine mj_T.pl rfl rfl rfl rfl ?_
    refine mj_T.call (ins := .invokevirtual 383) rfl rfl (Nat.le_of_ble_eq_true rfl) (Nat.le_of_ble_eq_true rfl) (by simp [mj_recv, rS_f hs5]) rfl (mj_Ok.up (by omega) (wk_bounds (D := 0) (p := p) (by omega) hs5)) (fun v' h6 hq' => ?_) (fun i h' hq' => by obtain ⟨_, _, _, _, h⟩ := hq'; cases h)
    obtain ⟨y, _, hs6, hy, hq'⟩ := hq'
    cases hq'
    exact mj_T.ret rfl rfl rfl ⟨W4, _, y, h6, hs6, k2, fun s s1 s2 => by rw [f4 s (by omega) (by omega) (by omega), q2 s (by omega), hfr s s1 s2], by rcases hy with ⟨y1, y2⟩ | y1; exact Or.inl ⟨y1, rfl, y2⟩; exact Or.inr y1, rfl⟩
end RWK
